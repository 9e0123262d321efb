/-! ===== the methods' rows are right ===== -/
set_option maxRecDepth 100000 in
theorem rMs18_ok : rMs18.all rOkR = true := by decide +kernel
