/-! ===== instructions of the law (by wip/whole/gen23.py) ===== -/
theorem ih_354_25 : a_io (a_c 354) ki_354_25 = true := by decide +kernel
theorem ih_354_26 : a_io (a_c 354) ki_354_26 = true := by decide +kernel
theorem ih_354_27 : a_io (a_c 354) ki_354_27 = true := by decide +kernel
theorem ih_354_28 : a_io (a_c 354) ki_354_28 = true := by decide +kernel
theorem ih_354_29 : a_io (a_c 354) ki_354_29 = true := by decide +kernel
