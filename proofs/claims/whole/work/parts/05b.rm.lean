/-! ===== the methods' rows are right ===== -/
set_option maxRecDepth 100000 in
theorem rMs12_ok : rMs12.all rOkR = true := by decide +kernel
