/-! ===== the methods' rows are right ===== -/
set_option maxRecDepth 100000 in
theorem rMs0_ok : rMs0.all rOkR = true := by decide +kernel
