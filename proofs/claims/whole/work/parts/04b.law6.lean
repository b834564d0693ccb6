/-! ===== instructions of the law (by wip/whole/gen23.py) ===== -/
theorem ih_354_30 : a_io (a_c 354) ki_354_30 = true := by decide +kernel
theorem ih_354_31 : a_io (a_c 354) ki_354_31 = true := by decide +kernel
theorem ih_354_32 : a_io (a_c 354) ki_354_32 = true := by decide +kernel
