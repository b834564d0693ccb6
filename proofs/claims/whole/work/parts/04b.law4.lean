/-! ===== instructions of the law (by wip/whole/gen23.py) ===== -/
theorem ih_354_20 : a_io (a_c 354) ki_354_20 = true := by decide +kernel
theorem ih_354_21 : a_io (a_c 354) ki_354_21 = true := by decide +kernel
theorem ih_354_22 : a_io (a_c 354) ki_354_22 = true := by decide +kernel
theorem ih_354_23 : a_io (a_c 354) ki_354_23 = true := by decide +kernel
theorem ih_354_24 : a_io (a_c 354) ki_354_24 = true := by decide +kernel
