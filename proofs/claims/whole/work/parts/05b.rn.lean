/-! ===== the methods' rows are right ===== -/
set_option maxRecDepth 100000 in
theorem rMs13_ok : rMs13.all rOkR = true := by decide +kernel
