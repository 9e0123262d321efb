/-! ===== the tables are right ===== -/
set_option maxRecDepth 100000 in
theorem rFt_ok : rFt.all rOkF = true := by decide +kernel
set_option maxRecDepth 100000 in
theorem rMt_ok : rMt.all rOkM = true := by decide +kernel
set_option maxRecDepth 100000 in
theorem rNt_ok : rNt.all rOkN = true := by decide +kernel
set_option maxRecDepth 100000 in
theorem rAt_ok : rAt.all rOkA = true := by decide +kernel
set_option maxRecDepth 100000 in
theorem rLt_ok : rLt.all rOkL = true := by decide +kernel
set_option maxRecDepth 100000 in
theorem rNw_ok : ∀ w ∈ rNw, w ∈ lw_tbl := by decide +kernel
set_option maxRecDepth 100000 in
theorem rCl_ok : (List.range 12).all rOkC = true := by decide +kernel
