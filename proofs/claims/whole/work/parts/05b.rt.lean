/-! ===== the methods' rows are right ===== -/
set_option maxRecDepth 100000 in
theorem rMs19_ok : rMs19.all rOkR = true := by decide +kernel
