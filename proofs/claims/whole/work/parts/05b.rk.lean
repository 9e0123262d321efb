/-! ===== the methods' rows are right ===== -/
set_option maxRecDepth 100000 in
theorem rMs10_ok : rMs10.all rOkR = true := by decide +kernel
