/-! ===== instructions of the law (by wip/whole/gen23.py) ===== -/
theorem ih_354_0 : a_io (a_c 354) ki_354_0 = true := by decide +kernel
theorem ih_354_1 : a_io (a_c 354) ki_354_1 = true := by decide +kernel
theorem ih_354_2 : a_io (a_c 354) ki_354_2 = true := by decide +kernel
theorem ih_354_3 : a_io (a_c 354) ki_354_3 = true := by decide +kernel
theorem ih_354_4 : a_io (a_c 354) ki_354_4 = true := by decide +kernel
