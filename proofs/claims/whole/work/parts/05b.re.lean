/-! ===== the methods' rows are right ===== -/
set_option maxRecDepth 100000 in
theorem rMs4_ok : rMs4.all rOkR = true := by decide +kernel
