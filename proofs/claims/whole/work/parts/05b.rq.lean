/-! ===== the methods' rows are right ===== -/
set_option maxRecDepth 100000 in
theorem rMs16_ok : rMs16.all rOkR = true := by decide +kernel
