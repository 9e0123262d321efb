/-! ===== the methods' rows are right ===== -/
set_option maxRecDepth 100000 in
theorem rMs7_ok : rMs7.all rOkR = true := by decide +kernel
