/-! ===== instructions of the law (by wip/whole/gen23.py) ===== -/
theorem ih_354_5 : a_io (a_c 354) ki_354_5 = true := by decide +kernel
theorem ih_354_6 : a_io (a_c 354) ki_354_6 = true := by decide +kernel
theorem ih_354_7 : a_io (a_c 354) ki_354_7 = true := by decide +kernel
theorem ih_354_8 : a_io (a_c 354) ki_354_8 = true := by decide +kernel
theorem ih_354_9 : a_io (a_c 354) ki_354_9 = true := by decide +kernel
