/-! ===== instructions of the law (by wip/whole/gen23.py) ===== -/
theorem ih_354_15 : a_io (a_c 354) ki_354_15 = true := by decide +kernel
theorem ih_354_16 : a_io (a_c 354) ki_354_16 = true := by decide +kernel
theorem ih_354_17 : a_io (a_c 354) ki_354_17 = true := by decide +kernel
theorem ih_354_18 : a_io (a_c 354) ki_354_18 = true := by decide +kernel
theorem ih_354_19 : a_io (a_c 354) ki_354_19 = true := by decide +kernel
