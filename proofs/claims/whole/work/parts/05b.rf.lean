/-! ===== the methods' rows are right ===== -/
set_option maxRecDepth 100000 in
theorem rMs5_ok : rMs5.all rOkR = true := by decide +kernel
