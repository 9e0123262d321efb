/-! ===== the methods' rows are right ===== -/
set_option maxRecDepth 100000 in
theorem rMs20_ok : rMs20.all rOkR = true := by decide +kernel
