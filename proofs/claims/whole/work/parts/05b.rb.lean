/-! ===== the methods' rows are right ===== -/
set_option maxRecDepth 100000 in
theorem rMs1_ok : rMs1.all rOkR = true := by decide +kernel
