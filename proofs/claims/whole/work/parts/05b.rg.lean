/-! ===== the methods' rows are right ===== -/
set_option maxRecDepth 100000 in
theorem rMs6_ok : rMs6.all rOkR = true := by decide +kernel
