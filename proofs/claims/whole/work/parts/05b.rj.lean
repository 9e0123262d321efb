/-! ===== the methods' rows are right ===== -/
set_option maxRecDepth 100000 in
theorem rMs9_ok : rMs9.all rOkR = true := by decide +kernel
