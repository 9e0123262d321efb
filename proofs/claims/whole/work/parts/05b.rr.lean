/-! ===== the methods' rows are right ===== -/
set_option maxRecDepth 100000 in
theorem rMs17_ok : rMs17.all rOkR = true := by decide +kernel
