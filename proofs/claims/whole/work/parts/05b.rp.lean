/-! ===== the methods' rows are right ===== -/
set_option maxRecDepth 100000 in
theorem rMs15_ok : rMs15.all rOkR = true := by decide +kernel
