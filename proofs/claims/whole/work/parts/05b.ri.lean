/-! ===== the methods' rows are right ===== -/
set_option maxRecDepth 100000 in
theorem rMs8_ok : rMs8.all rOkR = true := by decide +kernel
