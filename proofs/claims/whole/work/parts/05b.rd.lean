/-! ===== the methods' rows are right ===== -/
set_option maxRecDepth 100000 in
theorem rMs3_ok : rMs3.all rOkR = true := by decide +kernel
