/-! ===== the methods' rows are right ===== -/
set_option maxRecDepth 100000 in
theorem rMs14_ok : rMs14.all rOkR = true := by decide +kernel
