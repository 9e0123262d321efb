/-! ===== the methods' rows are right ===== -/
set_option maxRecDepth 100000 in
theorem rMs11_ok : rMs11.all rOkR = true := by decide +kernel
