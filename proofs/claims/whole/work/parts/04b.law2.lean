/-! ===== instructions of the law (by wip/whole/gen23.py) ===== -/
theorem ih_354_10 : a_io (a_c 354) ki_354_10 = true := by decide +kernel
theorem ih_354_11 : a_io (a_c 354) ki_354_11 = true := by decide +kernel
theorem ih_354_12 : a_io (a_c 354) ki_354_12 = true := by decide +kernel
theorem ih_354_13 : a_io (a_c 354) ki_354_13 = true := by decide +kernel
theorem ih_354_14 : a_io (a_c 354) ki_354_14 = true := by decide +kernel
