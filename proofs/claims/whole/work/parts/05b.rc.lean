/-! ===== the methods' rows are right ===== -/
set_option maxRecDepth 100000 in
theorem rMs2_ok : rMs2.all rOkR = true := by decide +kernel
