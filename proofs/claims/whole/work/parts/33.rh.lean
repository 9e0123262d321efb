/-! FanHouseModel.even()I -/
theorem b_250_0 {d : Nat} {m : Nat → Nat → Int} {q : Nat → Nat → Option Nat} {w : Option (Nat → Int64)} {u1 u2 u3 u4 : Option Value}   : gv d rR250 0 [some (.ref 363), u1, u2, u3, u4] [] (mk m q w) =
    rBd (ev d 200 [.ref 363] (mk (wr m 363 0 0) q w)) (fun v M' => gv d rR250 9 [some (.ref 363), u1, u2, u3, u4] (v.toList ++ []) M') := by
  refine Eq.trans (k_ald0 rfl) ?_
  refine Eq.trans (k_con rfl) ?_
  refine Eq.trans (k_ptI rfl s_363 rfl rfl) ?_
  refine Eq.trans (k_ald0 rfl) ?_
  exact k_cV0 rfl s_363 q_200 rfl rfl rfl (bl rfl)
theorem b_250_9 {d : Nat} {m : Nat → Nat → Int} {q : Nat → Nat → Option Nat} {w : Option (Nat → Int64)} {u1 u2 u3 u4 : Option Value}   : gv d rR250 9 [some (.ref 363), u1, u2, u3, u4] [] (mk m q w) =
    gv d rR250 13 [some (.ref 363), some (.int (iI 0)), some (.int (iI 0)), u3, u4] [] (mk m q w) := by
  refine Eq.trans (k_con rfl) ?_
  refine Eq.trans (k_ist1 rfl) ?_
  refine Eq.trans (k_con rfl) ?_
  refine Eq.trans (k_ist2 rfl) ?_
  exact rfl
theorem b_250_13 {d : Nat} {m : Nat → Nat → Int} {q : Nat → Nat → Option Nat} {w : Option (Nat → Int64)} {u3 u4 : Option Value} {v1 v2 : Int}   : gv d rR250 13 [some (.ref 363), some (.int (iI v1)), some (.int (iI v2)), u3, u4] [] (mk m q w) =
    if iI v2 < iI 4 then (gv d rR250 23 [some (.ref 363), some (.int (iI v1)), some (.int (iI v2)), some (.int (iI 1)), some (.int (iI 0))] [] (mk m q w)) else (some (.inl (some (.int (iI v1))), (mk m q w, (0, 0)))) := by
  refine Eq.trans (k_ild2 rfl) ?_
  refine Eq.trans (k_con rfl) ?_
  refine Eq.trans (k_i2ge rfl rfl) ?_
  refine ifc ?_ ?_
  · refine Eq.trans (k_con rfl) ?_
    refine Eq.trans (k_ist3 rfl) ?_
    refine Eq.trans (k_con rfl) ?_
    refine Eq.trans (k_ist4 rfl) ?_
    exact rfl
  · refine Eq.trans (k_ild1 rfl) ?_
    exact k_rtI rfl rfl
theorem b_250_23 {d : Nat} {m : Nat → Nat → Int} {q : Nat → Nat → Option Nat} {w : Option (Nat → Int64)} {v1 v2 v3 v4 : Int}   : gv d rR250 23 [some (.ref 363), some (.int (iI v1)), some (.int (iI v2)), some (.int (iI v3)), some (.int (iI v4))] [] (mk m q w) =
    if iI v4 < iI (m 363 15) then (if iI v3 = iI 0 then (gv d rR250 64 [some (.ref 363), some (.int (iI v1)), some (.int (iI v2)), some (.int (iI v3)), some (.int (iI v4))] [] (mk m q w)) else (rBd (ev d 217 [.ref 363, .int (iI v2), .int (iI v4)] (mk m q w)) (fun v M' => gv d rR250 43 [some (.ref 363), some (.int (iI v1)), some (.int (iI v2)), some (.int (iI v3)), some (.int (iI v4))] (v.toList ++ []) M'))) else (if iI v3 = iI 0 then (gv d rR250 84 [some (.ref 363), some (.int (iI v1)), some (.int (iI v2)), some (.int (iI v3)), some (.int (iI v4))] [.int (iI 0), .int (iI v1)] (mk m q w)) else (gv d rR250 84 [some (.ref 363), some (.int (iI v1)), some (.int (iI v2)), some (.int (iI v3)), some (.int (iI v4))] [.int (iI (zShl 1 v2)), .int (iI v1)] (mk m q w))) := by
  refine Eq.trans (k_ild4 rfl) ?_
  refine Eq.trans (k_ald0 rfl) ?_
  refine Eq.trans (k_gtI rfl s_363 rfl (by decide)) ?_
  refine Eq.trans (k_i2ge rfl rfl) ?_
  refine ifc ?_ ?_
  · refine Eq.trans (k_ild3 rfl) ?_
    refine Eq.trans (k_i1eq rfl rfl) ?_
    refine ifc ?_ ?_
    · exact rfl
    · refine Eq.trans (k_ald0 rfl) ?_
      refine Eq.trans (k_ild2 rfl) ?_
      refine Eq.trans (k_ild4 rfl) ?_
      exact k_cV2 rfl s_363 q_217 rfl rfl rfl (bl rfl)
  · refine Eq.trans (k_ild1 rfl) ?_
    refine Eq.trans (k_ild3 rfl) ?_
    refine Eq.trans (k_i1eq rfl rfl) ?_
    refine ifc ?_ ?_
    · refine Eq.trans (k_con rfl) ?_
      exact rfl
    · refine Eq.trans (k_con rfl) ?_
      refine Eq.trans (k_ild2 rfl) ?_
      refine Eq.trans (k_shl rfl) ?_
      refine Eq.trans (k_go rfl rfl) ?_
      exact rfl
theorem b_250_43 {d : Nat} {m : Nat → Nat → Int} {q : Nat → Nat → Option Nat} {w : Option (Nat → Int64)} {u3 : Option Value} {v1 v2 v4 s0 : Int}   : gv d rR250 43 [some (.ref 363), some (.int (iI v1)), some (.int (iI v2)), u3, some (.int (iI v4))] [.int (iI s0)] (mk m q w) =
    rBd (ev d 217 [.ref 363, .int (iI v2), .int (iI (((m 363 15) - 1) - v4))] (mk m q w)) (fun v M' => gv d rR250 57 [some (.ref 363), some (.int (iI v1)), some (.int (iI v2)), u3, some (.int (iI v4))] (v.toList ++ [.int (iI s0)]) M') := by
  refine Eq.trans (k_ald0 rfl) ?_
  refine Eq.trans (k_ild2 rfl) ?_
  refine Eq.trans (k_ald0 rfl) ?_
  refine Eq.trans (k_gtI rfl s_363 rfl (by decide)) ?_
  refine Eq.trans (k_con rfl) ?_
  refine Eq.trans (k_sub rfl) ?_
  refine Eq.trans (k_ild4 rfl) ?_
  refine Eq.trans (k_sub rfl) ?_
  exact k_cV2 rfl s_363 q_217 rfl rfl rfl (bl rfl)
theorem b_250_57 {d : Nat} {m : Nat → Nat → Int} {q : Nat → Nat → Option Nat} {w : Option (Nat → Int64)} {u3 : Option Value} {v1 v2 v4 s0 s1 : Int}   : gv d rR250 57 [some (.ref 363), some (.int (iI v1)), some (.int (iI v2)), u3, some (.int (iI v4))] [.int (iI s1), .int (iI s0)] (mk m q w) =
    if iI s0 = iI s1 then (gv d rR250 65 [some (.ref 363), some (.int (iI v1)), some (.int (iI v2)), u3, some (.int (iI v4))] [.int (iI 1)] (mk m q w)) else (gv d rR250 64 [some (.ref 363), some (.int (iI v1)), some (.int (iI v2)), u3, some (.int (iI v4))] [] (mk m q w)) := by
  refine Eq.trans (k_i2ne rfl rfl) ?_
  refine ifc ?_ ?_
  · refine Eq.trans (k_con rfl) ?_
    refine Eq.trans (k_go rfl rfl) ?_
    exact rfl
  · exact rfl
theorem b_250_64 {d : Nat} {m : Nat → Nat → Int} {q : Nat → Nat → Option Nat} {w : Option (Nat → Int64)} {u3 : Option Value} {v1 v2 v4 : Int}   : gv d rR250 64 [some (.ref 363), some (.int (iI v1)), some (.int (iI v2)), u3, some (.int (iI v4))] [] (mk m q w) =
    gv d rR250 65 [some (.ref 363), some (.int (iI v1)), some (.int (iI v2)), u3, some (.int (iI v4))] [.int (iI 0)] (mk m q w) := by
  refine Eq.trans (k_con rfl) ?_
  exact rfl
theorem b_250_65 {d : Nat} {m : Nat → Nat → Int} {q : Nat → Nat → Option Nat} {w : Option (Nat → Int64)} {u3 : Option Value} {v1 v2 v4 s0 : Int}   : gv d rR250 65 [some (.ref 363), some (.int (iI v1)), some (.int (iI v2)), u3, some (.int (iI v4))] [.int (iI s0)] (mk m q w) =
    gv d rR250 23 [some (.ref 363), some (.int (iI v1)), some (.int (iI v2)), some (.int (iI s0)), some (.int (iI (v4 + 1)))] [] (mk m q w) := by
  refine Eq.trans (k_ist3 rfl) ?_
  refine Eq.trans (k_inc4 rfl) ?_
  refine Eq.trans (k_go rfl rfl) ?_
  exact rfl
theorem b_250_84 {d : Nat} {m : Nat → Nat → Int} {q : Nat → Nat → Option Nat} {w : Option (Nat → Int64)} {u1 u3 u4 : Option Value} {v2 s0 s1 : Int}   : gv d rR250 84 [some (.ref 363), u1, some (.int (iI v2)), u3, u4] [.int (iI s1), .int (iI s0)] (mk m q w) =
    gv d rR250 13 [some (.ref 363), some (.int (iI (zOr s0 s1))), some (.int (iI (v2 + 1))), u3, u4] [] (mk m q w) := by
  refine Eq.trans (k_ior rfl) ?_
  refine Eq.trans (k_ist1 rfl) ?_
  refine Eq.trans (k_inc2 rfl) ?_
  refine Eq.trans (k_go rfl rfl) ?_
  exact rfl
theorem e_250 {d : Nat} (hd : 1 ≤ d) {a0 : Value} (M : rMem) (h0 : a0.category = 1) : ev d 250 [a0] M = gv (d - 1) rR250 0 [some a0, none, none, none, none] [] M := ev_at hd q_250 rfl (by simp [*]) rfl
/-! FanHouseModel.keepsDeed(I)V -/
theorem b_251_0 {d : Nat} {m : Nat → Nat → Int} {q : Nat → Nat → Option Nat} {w : Option (Nat → Int64)} {u2 u3 : Option Value} {v1 : Int}  (g0 : 0 ≤ (m 363 48)) (g1 : (m 363 48) < 28) : gv d rR251 0 [some (.ref 363), some (.int (iI v1)), u2, u3] [] (mk m q w) =
    gv d rR251 12 [some (.ref 363), some (.int (iI v1)), some (.int (iI 0)), u3] [] (mk (wr m 388 (Int.toNat (m 363 48)) v1) q w) := by
  refine Eq.trans (k_ald0 rfl) ?_
  refine Eq.trans (k_gtR rfl s_363 rfl (by decide)) ?_
  refine Eq.trans (k_ald0 rfl) ?_
  refine Eq.trans (k_gtI rfl s_363 rfl (by decide)) ?_
  refine Eq.trans (k_ild1 rfl) ?_
  refine Eq.trans (k_iast rfl s_388 (bl rfl) g0 g1) ?_
  refine Eq.trans (k_con rfl) ?_
  refine Eq.trans (k_ist2 rfl) ?_
  exact rfl
theorem b_251_12 {d : Nat} {m : Nat → Nat → Int} {q : Nat → Nat → Option Nat} {w : Option (Nat → Int64)} {u1 u3 : Option Value} {v2 : Int}   : gv d rR251 12 [some (.ref 363), u1, some (.int (iI v2)), u3] [] (mk m q w) =
    if iI v2 < iI 4 then (gv d rR251 19 [some (.ref 363), u1, some (.int (iI v2)), some (.int (iI 0))] [] (mk m q w)) else (some (.inl none, (mk (wr m 363 48 ((m 363 48) + 1)) q w, (0, 0)))) := by
  refine Eq.trans (k_ild2 rfl) ?_
  refine Eq.trans (k_con rfl) ?_
  refine Eq.trans (k_i2ge rfl rfl) ?_
  refine ifc ?_ ?_
  · refine Eq.trans (k_con rfl) ?_
    refine Eq.trans (k_ist3 rfl) ?_
    exact rfl
  · refine Eq.trans (k_ald0 rfl) ?_
    refine Eq.trans (k_dup rfl rfl) ?_
    refine Eq.trans (k_gtI rfl s_363 rfl (by decide)) ?_
    refine Eq.trans (k_con rfl) ?_
    refine Eq.trans (k_add rfl) ?_
    refine Eq.trans (k_ptI rfl s_363 rfl rfl) ?_
    exact k_rtV rfl rfl
theorem b_251_19 {d : Nat} {m : Nat → Nat → Int} {q : Nat → Nat → Option Nat} {w : Option (Nat → Int64)} {u1 : Option Value} {v2 v3 : Int}   : gv d rR251 19 [some (.ref 363), u1, some (.int (iI v2)), some (.int (iI v3))] [] (mk m q w) =
    if iI v3 < iI (m 363 15) then (rBd (ev d 217 [.ref 363, .int (iI v2), .int (iI v3)] (mk m q w)) (fun v M' => gv d rR251 50 [some (.ref 363), u1, some (.int (iI v2)), some (.int (iI v3))] (v.toList ++ [.int (iI (((((m 363 48) * 4) + v2) * 7) + v3)), .ref 387]) M')) else (gv d rR251 12 [some (.ref 363), u1, some (.int (iI (v2 + 1))), some (.int (iI v3))] [] (mk m q w)) := by
  refine Eq.trans (k_ild3 rfl) ?_
  refine Eq.trans (k_ald0 rfl) ?_
  refine Eq.trans (k_gtI rfl s_363 rfl (by decide)) ?_
  refine Eq.trans (k_i2ge rfl rfl) ?_
  refine ifc ?_ ?_
  · refine Eq.trans (k_ald0 rfl) ?_
    refine Eq.trans (k_gtR rfl s_363 rfl (by decide)) ?_
    refine Eq.trans (k_ald0 rfl) ?_
    refine Eq.trans (k_gtI rfl s_363 rfl (by decide)) ?_
    refine Eq.trans (k_con rfl) ?_
    refine Eq.trans (k_mul rfl) ?_
    refine Eq.trans (k_ild2 rfl) ?_
    refine Eq.trans (k_add rfl) ?_
    refine Eq.trans (k_bip rfl (by decide)) ?_
    refine Eq.trans (k_mul rfl) ?_
    refine Eq.trans (k_ild3 rfl) ?_
    refine Eq.trans (k_add rfl) ?_
    refine Eq.trans (k_ald0 rfl) ?_
    refine Eq.trans (k_ild2 rfl) ?_
    refine Eq.trans (k_ild3 rfl) ?_
    exact k_cV2 rfl s_363 q_217 rfl rfl rfl (bl rfl)
  · refine Eq.trans (k_inc2 rfl) ?_
    refine Eq.trans (k_go rfl rfl) ?_
    exact rfl
theorem b_251_50 {d : Nat} {m : Nat → Nat → Int} {q : Nat → Nat → Option Nat} {w : Option (Nat → Int64)} {u1 : Option Value} {v2 v3 s1 s2 : Int}  (g0 : 0 ≤ s1) (g1 : s1 < 784) : gv d rR251 50 [some (.ref 363), u1, some (.int (iI v2)), some (.int (iI v3))] [.int (iI s2), .int (iI s1), .ref 387] (mk m q w) =
    gv d rR251 19 [some (.ref 363), u1, some (.int (iI v2)), some (.int (iI (v3 + 1)))] [] (mk (wr m 387 (Int.toNat s1) s2) q w) := by
  refine Eq.trans (k_iast rfl s_387 (bl rfl) g0 g1) ?_
  refine Eq.trans (k_inc3 rfl) ?_
  refine Eq.trans (k_go rfl rfl) ?_
  exact rfl
theorem e_251 {d : Nat} (hd : 1 ≤ d) {a0 a1 : Value} (M : rMem) (h0 : a0.category = 1) (h1 : a1.category = 1) : ev d 251 [a0, a1] M = gv (d - 1) rR251 0 [some a0, some a1, none, none] [] M := ev_at hd q_251 rfl (by simp [*]) rfl
/-! FanHouseModel.laysDeeds()V -/
theorem b_252_0 {d : Nat} {m : Nat → Nat → Int} {q : Nat → Nat → Option Nat} {w : Option (Nat → Int64)} {u1 u2 : Option Value}   : gv d rR252 0 [some (.ref 363), u1, u2] [] (mk m q w) =
    gv d rR252 7 [some (.ref 363), some (.int (iI 0)), u2] [] (mk (wr m 363 48 0) q w) := by
  refine Eq.trans (k_ald0 rfl) ?_
  refine Eq.trans (k_con rfl) ?_
  refine Eq.trans (k_ptI rfl s_363 rfl rfl) ?_
  refine Eq.trans (k_con rfl) ?_
  refine Eq.trans (k_ist1 rfl) ?_
  exact rfl
theorem b_252_7 {d : Nat} {m : Nat → Nat → Int} {q : Nat → Nat → Option Nat} {w : Option (Nat → Int64)} {u2 : Option Value} {v1 : Int}   : gv d rR252 7 [some (.ref 363), some (.int (iI v1)), u2] [] (mk m q w) =
    if iI v1 < iI (m 363 15) then (rBd (ev d 200 [.ref 363] (mk m q w)) (fun v M' => gv d rR252 19 [some (.ref 363), some (.int (iI v1)), u2] (v.toList ++ []) M')) else (gv d rR252 46 [some (.ref 363), some (.int (iI 0)), u2] [] (mk m q w)) := by
  refine Eq.trans (k_ild1 rfl) ?_
  refine Eq.trans (k_ald0 rfl) ?_
  refine Eq.trans (k_gtI rfl s_363 rfl (by decide)) ?_
  refine Eq.trans (k_i2ge rfl rfl) ?_
  refine ifc ?_ ?_
  · refine Eq.trans (k_ald0 rfl) ?_
    exact k_cV0 rfl s_363 q_200 rfl rfl rfl (bl rfl)
  · refine Eq.trans (k_con rfl) ?_
    refine Eq.trans (k_ist1 rfl) ?_
    exact rfl
theorem b_252_19 {d : Nat} {m : Nat → Nat → Int} {q : Nat → Nat → Option Nat} {w : Option (Nat → Int64)} {u2 : Option Value} {v1 : Int}   : gv d rR252 19 [some (.ref 363), some (.int (iI v1)), u2] [] (mk m q w) =
    rBd (ev d 207 [.ref 363, .int (iI v1)] (mk (wr m 377 46 0) q w)) (fun v M' => gv d rR252 32 [some (.ref 363), some (.int (iI v1)), u2] (v.toList ++ []) M') := by
  refine Eq.trans (k_ald0 rfl) ?_
  refine Eq.trans (k_gtR rfl s_363 rfl (by decide)) ?_
  refine Eq.trans (k_bip rfl (by decide)) ?_
  refine Eq.trans (k_con rfl) ?_
  refine Eq.trans (k_iast rfl s_377 (bl rfl) (by decide) (by decide)) ?_
  refine Eq.trans (k_ald0 rfl) ?_
  refine Eq.trans (k_ild1 rfl) ?_
  exact k_cV1 rfl s_363 q_207 rfl rfl rfl (bl rfl)
theorem b_252_32 {d : Nat} {m : Nat → Nat → Int} {q : Nat → Nat → Option Nat} {w : Option (Nat → Int64)} {u2 : Option Value} {v1 s0 : Int}   : gv d rR252 32 [some (.ref 363), some (.int (iI v1)), u2] [.int (iI s0)] (mk m q w) =
    rBd (ev d 251 [.ref 363, .int (iI v1)] (mk m q w)) (fun v M' => gv d rR252 38 [some (.ref 363), some (.int (iI v1)), u2] (v.toList ++ []) M') := by
  refine Eq.trans (k_pop rfl rfl) ?_
  refine Eq.trans (k_ald0 rfl) ?_
  refine Eq.trans (k_ild1 rfl) ?_
  exact k_cV1 rfl s_363 q_251 rfl rfl rfl (bl rfl)
theorem b_252_38 {d : Nat} {m : Nat → Nat → Int} {q : Nat → Nat → Option Nat} {w : Option (Nat → Int64)} {u2 : Option Value} {v1 : Int}   : gv d rR252 38 [some (.ref 363), some (.int (iI v1)), u2] [] (mk m q w) =
    gv d rR252 7 [some (.ref 363), some (.int (iI (v1 + 1))), u2] [] (mk m q w) := by
  refine Eq.trans (k_inc1 rfl) ?_
  refine Eq.trans (k_go rfl rfl) ?_
  exact rfl
theorem b_252_46 {d : Nat} {m : Nat → Nat → Int} {q : Nat → Nat → Option Nat} {w : Option (Nat → Int64)} {u2 : Option Value} {v1 : Int}   : gv d rR252 46 [some (.ref 363), some (.int (iI v1)), u2] [] (mk m q w) =
    if iI v1 < iI (m 363 15) then (gv d rR252 58 [some (.ref 363), some (.int (iI v1)), some (.int (iI (v1 + 1)))] [] (mk m q w)) else (some (.inl none, (mk m q w, (0, 0)))) := by
  refine Eq.trans (k_ild1 rfl) ?_
  refine Eq.trans (k_ald0 rfl) ?_
  refine Eq.trans (k_gtI rfl s_363 rfl (by decide)) ?_
  refine Eq.trans (k_i2ge rfl rfl) ?_
  refine ifc ?_ ?_
  · refine Eq.trans (k_ild1 rfl) ?_
    refine Eq.trans (k_con rfl) ?_
    refine Eq.trans (k_add rfl) ?_
    refine Eq.trans (k_ist2 rfl) ?_
    exact rfl
  · exact k_rtV rfl rfl
theorem b_252_58 {d : Nat} {m : Nat → Nat → Int} {q : Nat → Nat → Option Nat} {w : Option (Nat → Int64)} {v1 v2 : Int}   : gv d rR252 58 [some (.ref 363), some (.int (iI v1)), some (.int (iI v2))] [] (mk m q w) =
    if iI v2 < iI (m 363 15) then (rBd (ev d 200 [.ref 363] (mk m q w)) (fun v M' => gv d rR252 70 [some (.ref 363), some (.int (iI v1)), some (.int (iI v2))] (v.toList ++ []) M')) else (gv d rR252 46 [some (.ref 363), some (.int (iI (v1 + 1))), some (.int (iI v2))] [] (mk m q w)) := by
  refine Eq.trans (k_ild2 rfl) ?_
  refine Eq.trans (k_ald0 rfl) ?_
  refine Eq.trans (k_gtI rfl s_363 rfl (by decide)) ?_
  refine Eq.trans (k_i2ge rfl rfl) ?_
  refine ifc ?_ ?_
  · refine Eq.trans (k_ald0 rfl) ?_
    exact k_cV0 rfl s_363 q_200 rfl rfl rfl (bl rfl)
  · refine Eq.trans (k_inc1 rfl) ?_
    refine Eq.trans (k_go rfl rfl) ?_
    exact rfl
theorem b_252_70 {d : Nat} {m : Nat → Nat → Int} {q : Nat → Nat → Option Nat} {w : Option (Nat → Int64)} {v1 v2 : Int}   : gv d rR252 70 [some (.ref 363), some (.int (iI v1)), some (.int (iI v2))] [] (mk m q w) =
    rBd (ev d 206 [.ref 363, .int (iI v1), .int (iI v2)] (mk (wr m 377 46 0) q w)) (fun v M' => gv d rR252 84 [some (.ref 363), some (.int (iI v1)), some (.int (iI v2))] (v.toList ++ []) M') := by
  refine Eq.trans (k_ald0 rfl) ?_
  refine Eq.trans (k_gtR rfl s_363 rfl (by decide)) ?_
  refine Eq.trans (k_bip rfl (by decide)) ?_
  refine Eq.trans (k_con rfl) ?_
  refine Eq.trans (k_iast rfl s_377 (bl rfl) (by decide) (by decide)) ?_
  refine Eq.trans (k_ald0 rfl) ?_
  refine Eq.trans (k_ild1 rfl) ?_
  refine Eq.trans (k_ild2 rfl) ?_
  exact k_cV2 rfl s_363 q_206 rfl rfl rfl (bl rfl)
theorem b_252_84 {d : Nat} {m : Nat → Nat → Int} {q : Nat → Nat → Option Nat} {w : Option (Nat → Int64)} {v1 v2 s0 : Int}   : gv d rR252 84 [some (.ref 363), some (.int (iI v1)), some (.int (iI v2))] [.int (iI s0)] (mk m q w) =
    rBd (ev d 251 [.ref 363, .int (iI ((100 + (10 * v1)) + v2))] (mk m q w)) (fun v M' => gv d rR252 98 [some (.ref 363), some (.int (iI v1)), some (.int (iI v2))] (v.toList ++ []) M') := by
  refine Eq.trans (k_pop rfl rfl) ?_
  refine Eq.trans (k_ald0 rfl) ?_
  refine Eq.trans (k_bip rfl (by decide)) ?_
  refine Eq.trans (k_bip rfl (by decide)) ?_
  refine Eq.trans (k_ild1 rfl) ?_
  refine Eq.trans (k_mul rfl) ?_
  refine Eq.trans (k_add rfl) ?_
  refine Eq.trans (k_ild2 rfl) ?_
  refine Eq.trans (k_add rfl) ?_
  exact k_cV1 rfl s_363 q_251 rfl rfl rfl (bl rfl)
theorem b_252_98 {d : Nat} {m : Nat → Nat → Int} {q : Nat → Nat → Option Nat} {w : Option (Nat → Int64)} {v1 v2 : Int}   : gv d rR252 98 [some (.ref 363), some (.int (iI v1)), some (.int (iI v2))] [] (mk m q w) =
    gv d rR252 58 [some (.ref 363), some (.int (iI v1)), some (.int (iI (v2 + 1)))] [] (mk m q w) := by
  refine Eq.trans (k_inc2 rfl) ?_
  refine Eq.trans (k_go rfl rfl) ?_
  exact rfl
theorem e_252 {d : Nat} (hd : 1 ≤ d) {a0 : Value} (M : rMem) (h0 : a0.category = 1) : ev d 252 [a0] M = gv (d - 1) rR252 0 [some a0, none, none] [] M := ev_at hd q_252 rfl (by simp [*]) rfl
/-! FanHouseModel.isFit(I)Z -/
theorem b_253_0 {d : Nat} {m : Nat → Nat → Int} {q : Nat → Nat → Option Nat} {w : Option (Nat → Int64)} {u2 u3 : Option Value} {v1 : Int}   : gv d rR253 0 [some (.ref 363), some (.int (iI v1)), u2, u3] [] (mk m q w) =
    gv d rR253 4 [some (.ref 363), some (.int (iI v1)), some (.int (iI 1)), some (.int (iI 0))] [] (mk m q w) := by
  refine Eq.trans (k_con rfl) ?_
  refine Eq.trans (k_ist2 rfl) ?_
  refine Eq.trans (k_con rfl) ?_
  refine Eq.trans (k_ist3 rfl) ?_
  exact rfl
theorem b_253_4 {d : Nat} {m : Nat → Nat → Int} {q : Nat → Nat → Option Nat} {w : Option (Nat → Int64)} {v1 v2 v3 : Int}   : gv d rR253 4 [some (.ref 363), some (.int (iI v1)), some (.int (iI v2)), some (.int (iI v3))] [] (mk m q w) =
    if iI v3 < iI (m 363 42) then (if iI v2 = iI 0 then (gv d rR253 81 [some (.ref 363), some (.int (iI v1)), some (.int (iI v2)), some (.int (iI v3))] [] (mk m q w)) else (gv d rR253 16 [some (.ref 363), some (.int (iI v1)), some (.int (iI v2)), some (.int (iI v3))] [] (mk m q w))) else (gv d rR253 89 [some (.ref 363), some (.int (iI v1)), some (.int (iI v2)), some (.int (iI v3))] [] (mk m q w)) := by
  refine Eq.trans (k_ild3 rfl) ?_
  refine Eq.trans (k_ald0 rfl) ?_
  refine Eq.trans (k_gtI rfl s_363 rfl (by decide)) ?_
  refine Eq.trans (k_i2ge rfl rfl) ?_
  refine ifc ?_ ?_
  · refine Eq.trans (k_ild2 rfl) ?_
    refine Eq.trans (k_i1eq rfl rfl) ?_
    refine ifc ?_ ?_
    · exact rfl
    · exact rfl
  · exact rfl
theorem b_253_16 {d : Nat} {m : Nat → Nat → Int} {q : Nat → Nat → Option Nat} {w : Option (Nat → Int64)} {u2 : Option Value} {v1 v3 : Int}  (g0 : 0 ≤ ((3 * v3) + 1)) (g1 : ((3 * v3) + 1) < 21) : gv d rR253 16 [some (.ref 363), some (.int (iI v1)), u2, some (.int (iI v3))] [] (mk m q w) =
    if iI (m 383 (Int.toNat ((3 * v3) + 1))) < iI (m 363 15) then (gv d rR253 33 [some (.ref 363), some (.int (iI v1)), u2, some (.int (iI v3))] [] (mk m q w)) else (gv d rR253 81 [some (.ref 363), some (.int (iI v1)), u2, some (.int (iI v3))] [] (mk m q w)) := by
  refine Eq.trans (k_ald0 rfl) ?_
  refine Eq.trans (k_gtR rfl s_363 rfl (by decide)) ?_
  refine Eq.trans (k_con rfl) ?_
  refine Eq.trans (k_ild3 rfl) ?_
  refine Eq.trans (k_mul rfl) ?_
  refine Eq.trans (k_con rfl) ?_
  refine Eq.trans (k_add rfl) ?_
  refine Eq.trans (k_iald rfl s_383 (bl rfl) g0 g1) ?_
  refine Eq.trans (k_ald0 rfl) ?_
  refine Eq.trans (k_gtI rfl s_363 rfl (by decide)) ?_
  refine Eq.trans (k_i2ge rfl rfl) ?_
  refine ifc ?_ ?_
  · exact rfl
  · exact rfl
theorem b_253_33 {d : Nat} {m : Nat → Nat → Int} {q : Nat → Nat → Option Nat} {w : Option (Nat → Int64)} {u2 : Option Value} {v1 v3 : Int}  (g0 : 0 ≤ (3 * v3)) (g1 : (3 * v3) < 21) (g2 : 0 ≤ ((3 * v3) + 1)) (g3 : ((3 * v3) + 1) < 21) (g4 : 0 ≤ ((((v1 * 4) + (m 383 (Int.toNat (3 * v3)))) * 7) + (m 383 (Int.toNat ((3 * v3) + 1))))) (g5 : ((((v1 * 4) + (m 383 (Int.toNat (3 * v3)))) * 7) + (m 383 (Int.toNat ((3 * v3) + 1)))) < 784) (g6 : 0 ≤ ((3 * v3) + 2)) (g7 : ((3 * v3) + 2) < 21) : gv d rR253 33 [some (.ref 363), some (.int (iI v1)), u2, some (.int (iI v3))] [] (mk m q w) =
    if iI (m 387 (Int.toNat ((((v1 * 4) + (m 383 (Int.toNat (3 * v3)))) * 7) + (m 383 (Int.toNat ((3 * v3) + 1)))))) = iI (m 383 (Int.toNat ((3 * v3) + 2))) then (gv d rR253 82 [some (.ref 363), some (.int (iI v1)), u2, some (.int (iI v3))] [.int (iI 1)] (mk m q w)) else (gv d rR253 81 [some (.ref 363), some (.int (iI v1)), u2, some (.int (iI v3))] [] (mk m q w)) := by
  refine Eq.trans (k_ald0 rfl) ?_
  refine Eq.trans (k_gtR rfl s_363 rfl (by decide)) ?_
  refine Eq.trans (k_ild1 rfl) ?_
  refine Eq.trans (k_con rfl) ?_
  refine Eq.trans (k_mul rfl) ?_
  refine Eq.trans (k_ald0 rfl) ?_
  refine Eq.trans (k_gtR rfl s_363 rfl (by decide)) ?_
  refine Eq.trans (k_con rfl) ?_
  refine Eq.trans (k_ild3 rfl) ?_
  refine Eq.trans (k_mul rfl) ?_
  refine Eq.trans (k_iald rfl s_383 (bl rfl) g0 g1) ?_
  refine Eq.trans (k_add rfl) ?_
  refine Eq.trans (k_bip rfl (by decide)) ?_
  refine Eq.trans (k_mul rfl) ?_
  refine Eq.trans (k_ald0 rfl) ?_
  refine Eq.trans (k_gtR rfl s_363 rfl (by decide)) ?_
  refine Eq.trans (k_con rfl) ?_
  refine Eq.trans (k_ild3 rfl) ?_
  refine Eq.trans (k_mul rfl) ?_
  refine Eq.trans (k_con rfl) ?_
  refine Eq.trans (k_add rfl) ?_
  refine Eq.trans (k_iald rfl s_383 (bl rfl) g2 g3) ?_
  refine Eq.trans (k_add rfl) ?_
  refine Eq.trans (k_iald rfl s_387 (bl rfl) g4 g5) ?_
  refine Eq.trans (k_ald0 rfl) ?_
  refine Eq.trans (k_gtR rfl s_363 rfl (by decide)) ?_
  refine Eq.trans (k_con rfl) ?_
  refine Eq.trans (k_ild3 rfl) ?_
  refine Eq.trans (k_mul rfl) ?_
  refine Eq.trans (k_con rfl) ?_
  refine Eq.trans (k_add rfl) ?_
  refine Eq.trans (k_iald rfl s_383 (bl rfl) g6 g7) ?_
  refine Eq.trans (k_i2ne rfl rfl) ?_
  refine ifc ?_ ?_
  · refine Eq.trans (k_con rfl) ?_
    refine Eq.trans (k_go rfl rfl) ?_
    exact rfl
  · exact rfl
theorem b_253_81 {d : Nat} {m : Nat → Nat → Int} {q : Nat → Nat → Option Nat} {w : Option (Nat → Int64)} {u2 : Option Value} {v1 v3 : Int}   : gv d rR253 81 [some (.ref 363), some (.int (iI v1)), u2, some (.int (iI v3))] [] (mk m q w) =
    gv d rR253 82 [some (.ref 363), some (.int (iI v1)), u2, some (.int (iI v3))] [.int (iI 0)] (mk m q w) := by
  refine Eq.trans (k_con rfl) ?_
  exact rfl
theorem b_253_82 {d : Nat} {m : Nat → Nat → Int} {q : Nat → Nat → Option Nat} {w : Option (Nat → Int64)} {u2 : Option Value} {v1 v3 s0 : Int}   : gv d rR253 82 [some (.ref 363), some (.int (iI v1)), u2, some (.int (iI v3))] [.int (iI s0)] (mk m q w) =
    gv d rR253 4 [some (.ref 363), some (.int (iI v1)), some (.int (iI s0)), some (.int (iI (v3 + 1)))] [] (mk m q w) := by
  refine Eq.trans (k_ist2 rfl) ?_
  refine Eq.trans (k_inc3 rfl) ?_
  refine Eq.trans (k_go rfl rfl) ?_
  exact rfl
theorem b_253_89 {d : Nat} {m : Nat → Nat → Int} {q : Nat → Nat → Option Nat} {w : Option (Nat → Int64)} {u0 u1 u3 : Option Value} {v2 : Int}  (g0 : iI v2 = iI 0 ∨ iI v2 = iI 1) : gv d rR253 89 [u0, u1, some (.int (iI v2)), u3] [] (mk m q w) =
    some (.inl (some (.int (iI v2))), (mk m q w, (0, 0))) := by
  refine Eq.trans (k_ild2 rfl) ?_
  exact k_rtZ rfl rfl g0
theorem e_253 {d : Nat} (hd : 1 ≤ d) {a0 a1 : Value} (M : rMem) (h0 : a0.category = 1) (h1 : a1.category = 1) : ev d 253 [a0, a1] M = gv (d - 1) rR253 0 [some a0, some a1, none, none] [] M := ev_at hd q_253 rfl (by simp [*]) rfl
/-! FanHouseModel.fits(I)I -/
theorem b_254_0 {d : Nat} {m : Nat → Nat → Int} {q : Nat → Nat → Option Nat} {w : Option (Nat → Int64)} {u2 u3 u4 : Option Value} {v1 : Int}   : gv d rR254 0 [some (.ref 363), some (.int (iI v1)), u2, u3, u4] [] (mk m q w) =
    rBd (ev d 161 [.int (iI v1), .int (iI 0), .int (iI 1)] (mk (wr m 363 0 0) q w)) (fun v M' => gv d rR254 12 [some (.ref 363), some (.int (iI v1)), u2, u3, u4] (v.toList ++ [.ref 363]) M') := by
  refine Eq.trans (k_ald0 rfl) ?_
  refine Eq.trans (k_con rfl) ?_
  refine Eq.trans (k_ptI rfl s_363 rfl rfl) ?_
  refine Eq.trans (k_ald0 rfl) ?_
  refine Eq.trans (k_ild1 rfl) ?_
  refine Eq.trans (k_con rfl) ?_
  refine Eq.trans (k_con rfl) ?_
  exact k_cS3 rfl (by decide) q_161 rfl rfl (bl rfl)
theorem b_254_12 {d : Nat} {m : Nat → Nat → Int} {q : Nat → Nat → Option Nat} {w : Option (Nat → Int64)} {u2 u3 u4 : Option Value} {v1 s1 : Int}   : gv d rR254 12 [some (.ref 363), some (.int (iI v1)), u2, u3, u4] [.int (iI s1), .ref 363] (mk m q w) =
    rBd (ev d 160 [.ref 363, .int (iI s1), .int (iI 1), .int (iI 1)] (mk m q w)) (fun v M' => gv d rR254 17 [some (.ref 363), some (.int (iI v1)), u2, u3, u4] (v.toList ++ []) M') := by
  refine Eq.trans (k_con rfl) ?_
  refine Eq.trans (k_con rfl) ?_
  exact k_cV3 rfl s_363 q_160 rfl rfl rfl (bl rfl)
theorem b_254_17 {d : Nat} {m : Nat → Nat → Int} {q : Nat → Nat → Option Nat} {w : Option (Nat → Int64)} {u2 u3 u4 : Option Value} {v1 s0 : Int}   : gv d rR254 17 [some (.ref 363), some (.int (iI v1)), u2, u3, u4] [.int (iI s0)] (mk m q w) =
    if iI s0 = iI 0 then (some (.inl (some (.int (iI 0))), (mk m q w, (0, 0)))) else (rBd (ev d 252 [.ref 363] (mk m q w)) (fun v M' => gv d rR254 26 [some (.ref 363), some (.int (iI v1)), u2, u3, u4] (v.toList ++ []) M')) := by
  refine Eq.trans (k_i1ne rfl rfl) ?_
  refine ifc ?_ ?_
  · refine Eq.trans (k_con rfl) ?_
    exact k_rtI rfl rfl
  · refine Eq.trans (k_ald0 rfl) ?_
    exact k_cV0 rfl s_363 q_252 rfl rfl rfl (bl rfl)
theorem b_254_26 {d : Nat} {m : Nat → Nat → Int} {q : Nat → Nat → Option Nat} {w : Option (Nat → Int64)} {u2 u3 u4 : Option Value} {v1 : Int}   : gv d rR254 26 [some (.ref 363), some (.int (iI v1)), u2, u3, u4] [] (mk m q w) =
    gv d rR254 33 [some (.ref 363), some (.int (iI v1)), some (.int (iI 0)), some (.int (iI (-1))), some (.int (iI 0))] [] (mk m q w) := by
  refine Eq.trans (k_con rfl) ?_
  refine Eq.trans (k_ist2 rfl) ?_
  refine Eq.trans (k_con rfl) ?_
  refine Eq.trans (k_ist3 rfl) ?_
  refine Eq.trans (k_con rfl) ?_
  refine Eq.trans (k_ist4 rfl) ?_
  exact rfl
theorem b_254_33 {d : Nat} {m : Nat → Nat → Int} {q : Nat → Nat → Option Nat} {w : Option (Nat → Int64)} {v1 v2 v3 v4 : Int}   : gv d rR254 33 [some (.ref 363), some (.int (iI v1)), some (.int (iI v2)), some (.int (iI v3)), some (.int (iI v4))] [] (mk m q w) =
    if iI v4 < iI (m 363 48) then (rBd (ev d 253 [.ref 363, .int (iI v4)] (mk m q w)) (fun v M' => gv d rR254 48 [some (.ref 363), some (.int (iI v1)), some (.int (iI v2)), some (.int (iI v3)), some (.int (iI v4))] (v.toList ++ []) M')) else (if iI v1 = iI 0 then (gv d rR254 89 [some (.ref 363), some (.int (iI v1)), some (.int (iI v2)), some (.int (iI v3)), some (.int (iI v4))] [.int (iI v2)] (mk m q w)) else (gv d rR254 89 [some (.ref 363), some (.int (iI v1)), some (.int (iI v2)), some (.int (iI v3)), some (.int (iI v4))] [.int (iI v3)] (mk m q w))) := by
  refine Eq.trans (k_ild4 rfl) ?_
  refine Eq.trans (k_ald0 rfl) ?_
  refine Eq.trans (k_gtI rfl s_363 rfl (by decide)) ?_
  refine Eq.trans (k_i2ge rfl rfl) ?_
  refine ifc ?_ ?_
  · refine Eq.trans (k_ald0 rfl) ?_
    refine Eq.trans (k_ild4 rfl) ?_
    exact k_cV1 rfl s_363 q_253 rfl rfl rfl (bl rfl)
  · refine Eq.trans (k_ild1 rfl) ?_
    refine Eq.trans (k_i1ne rfl rfl) ?_
    refine ifc ?_ ?_
    · refine Eq.trans (k_ild2 rfl) ?_
      refine Eq.trans (k_go rfl rfl) ?_
      exact rfl
    · refine Eq.trans (k_ild3 rfl) ?_
      exact rfl
theorem b_254_48 {d : Nat} {m : Nat → Nat → Int} {q : Nat → Nat → Option Nat} {w : Option (Nat → Int64)} {v1 v2 v3 v4 s0 : Int}   : gv d rR254 48 [some (.ref 363), some (.int (iI v1)), some (.int (iI v2)), some (.int (iI v3)), some (.int (iI v4))] [.int (iI s0)] (mk m q w) =
    if iI s0 = iI 0 then (gv d rR254 74 [some (.ref 363), some (.int (iI v1)), some (.int (iI v2)), some (.int (iI v3)), some (.int (iI v4))] [] (mk m q w)) else (if iI v3 = iI (-1) then (gv d rR254 62 [some (.ref 363), some (.int (iI v1)), some (.int (iI (v2 + 1))), some (.int (iI v3)), some (.int (iI v4))] [] (mk m q w)) else (gv d rR254 73 [some (.ref 363), some (.int (iI v1)), some (.int (iI (v2 + 1))), some (.int (iI v3)), some (.int (iI v4))] [.int (iI v3)] (mk m q w))) := by
  refine Eq.trans (k_i1ne rfl rfl) ?_
  refine ifc ?_ ?_
  · refine Eq.trans (k_go rfl rfl) ?_
    exact rfl
  · refine Eq.trans (k_inc2 rfl) ?_
    refine Eq.trans (k_ild3 rfl) ?_
    refine Eq.trans (k_con rfl) ?_
    refine Eq.trans (k_i2ne rfl rfl) ?_
    refine ifc ?_ ?_
    · exact rfl
    · refine Eq.trans (k_ild3 rfl) ?_
      exact rfl
theorem b_254_62 {d : Nat} {m : Nat → Nat → Int} {q : Nat → Nat → Option Nat} {w : Option (Nat → Int64)} {u3 : Option Value} {v1 v2 v4 : Int}  (g0 : 0 ≤ v4) (g1 : v4 < 28) : gv d rR254 62 [some (.ref 363), some (.int (iI v1)), some (.int (iI v2)), u3, some (.int (iI v4))] [] (mk m q w) =
    gv d rR254 73 [some (.ref 363), some (.int (iI v1)), some (.int (iI v2)), u3, some (.int (iI v4))] [.int (iI (m 388 (Int.toNat v4)))] (mk m q w) := by
  refine Eq.trans (k_ald0 rfl) ?_
  refine Eq.trans (k_gtR rfl s_363 rfl (by decide)) ?_
  refine Eq.trans (k_ild4 rfl) ?_
  refine Eq.trans (k_iald rfl s_388 (bl rfl) g0 g1) ?_
  refine Eq.trans (k_go rfl rfl) ?_
  exact rfl
theorem b_254_73 {d : Nat} {m : Nat → Nat → Int} {q : Nat → Nat → Option Nat} {w : Option (Nat → Int64)} {u3 : Option Value} {v1 v2 v4 s0 : Int}   : gv d rR254 73 [some (.ref 363), some (.int (iI v1)), some (.int (iI v2)), u3, some (.int (iI v4))] [.int (iI s0)] (mk m q w) =
    gv d rR254 74 [some (.ref 363), some (.int (iI v1)), some (.int (iI v2)), some (.int (iI s0)), some (.int (iI v4))] [] (mk m q w) := by
  refine Eq.trans (k_ist3 rfl) ?_
  exact rfl
theorem b_254_74 {d : Nat} {m : Nat → Nat → Int} {q : Nat → Nat → Option Nat} {w : Option (Nat → Int64)} {v1 v2 v3 v4 : Int}   : gv d rR254 74 [some (.ref 363), some (.int (iI v1)), some (.int (iI v2)), some (.int (iI v3)), some (.int (iI v4))] [] (mk m q w) =
    gv d rR254 33 [some (.ref 363), some (.int (iI v1)), some (.int (iI v2)), some (.int (iI v3)), some (.int (iI (v4 + 1)))] [] (mk m q w) := by
  refine Eq.trans (k_inc4 rfl) ?_
  refine Eq.trans (k_go rfl rfl) ?_
  exact rfl
theorem b_254_89 {d : Nat} {m : Nat → Nat → Int} {q : Nat → Nat → Option Nat} {w : Option (Nat → Int64)} {u0 u1 u2 u3 u4 : Option Value} {s0 : Int}   : gv d rR254 89 [u0, u1, u2, u3, u4] [.int (iI s0)] (mk m q w) =
    some (.inl (some (.int (iI s0))), (mk m q w, (0, 0))) := by
  exact k_rtI rfl rfl
theorem e_254 {d : Nat} (hd : 1 ≤ d) {a0 a1 : Value} (M : rMem) (h0 : a0.category = 1) (h1 : a1.category = 1) : ev d 254 [a0, a1] M = gv (d - 1) rR254 0 [some a0, some a1, none, none, none] [] M := ev_at hd q_254 rfl (by simp [*]) rfl
/-! FanHouseModel.isWritten(II)Z -/
theorem b_255_0 {d : Nat} {m : Nat → Nat → Int} {q : Nat → Nat → Option Nat} {w : Option (Nat → Int64)} {u3 : Option Value} {v1 v2 : Int}   : gv d rR255 0 [some (.ref 363), some (.int (iI v1)), some (.int (iI v2)), u3] [] (mk m q w) =
    gv d rR255 2 [some (.ref 363), some (.int (iI v1)), some (.int (iI v2)), some (.int (iI 0))] [] (mk m q w) := by
  refine Eq.trans (k_con rfl) ?_
  refine Eq.trans (k_ist3 rfl) ?_
  exact rfl
theorem b_255_2 {d : Nat} {m : Nat → Nat → Int} {q : Nat → Nat → Option Nat} {w : Option (Nat → Int64)} {v1 v2 v3 : Int}   : gv d rR255 2 [some (.ref 363), some (.int (iI v1)), some (.int (iI v2)), some (.int (iI v3))] [] (mk m q w) =
    if iI v3 < iI (m 363 42) then (gv d rR255 10 [some (.ref 363), some (.int (iI v1)), some (.int (iI v2)), some (.int (iI v3))] [] (mk m q w)) else (some (.inl (some (.int (iI 0))), (mk m q w, (0, 0)))) := by
  refine Eq.trans (k_ild3 rfl) ?_
  refine Eq.trans (k_ald0 rfl) ?_
  refine Eq.trans (k_gtI rfl s_363 rfl (by decide)) ?_
  refine Eq.trans (k_i2ge rfl rfl) ?_
  refine ifc ?_ ?_
  · exact rfl
  · refine Eq.trans (k_con rfl) ?_
    exact k_rtZ rfl rfl (Or.inl rfl)
theorem b_255_10 {d : Nat} {m : Nat → Nat → Int} {q : Nat → Nat → Option Nat} {w : Option (Nat → Int64)} {v1 v2 v3 : Int}  (g0 : 0 ≤ (3 * v3)) (g1 : (3 * v3) < 21) : gv d rR255 10 [some (.ref 363), some (.int (iI v1)), some (.int (iI v2)), some (.int (iI v3))] [] (mk m q w) =
    if iI (m 383 (Int.toNat (3 * v3))) = iI v1 then (gv d rR255 22 [some (.ref 363), some (.int (iI v1)), some (.int (iI v2)), some (.int (iI v3))] [] (mk m q w)) else (gv d rR255 38 [some (.ref 363), some (.int (iI v1)), some (.int (iI v2)), some (.int (iI v3))] [] (mk m q w)) := by
  refine Eq.trans (k_ald0 rfl) ?_
  refine Eq.trans (k_gtR rfl s_363 rfl (by decide)) ?_
  refine Eq.trans (k_con rfl) ?_
  refine Eq.trans (k_ild3 rfl) ?_
  refine Eq.trans (k_mul rfl) ?_
  refine Eq.trans (k_iald rfl s_383 (bl rfl) g0 g1) ?_
  refine Eq.trans (k_ild1 rfl) ?_
  refine Eq.trans (k_i2ne rfl rfl) ?_
  refine ifc ?_ ?_
  · exact rfl
  · exact rfl
theorem b_255_22 {d : Nat} {m : Nat → Nat → Int} {q : Nat → Nat → Option Nat} {w : Option (Nat → Int64)} {v1 v2 v3 : Int}  (g0 : 0 ≤ ((3 * v3) + 1)) (g1 : ((3 * v3) + 1) < 21) : gv d rR255 22 [some (.ref 363), some (.int (iI v1)), some (.int (iI v2)), some (.int (iI v3))] [] (mk m q w) =
    if iI (m 383 (Int.toNat ((3 * v3) + 1))) = iI v2 then (some (.inl (some (.int (iI 1))), (mk m q w, (0, 0)))) else (gv d rR255 38 [some (.ref 363), some (.int (iI v1)), some (.int (iI v2)), some (.int (iI v3))] [] (mk m q w)) := by
  refine Eq.trans (k_ald0 rfl) ?_
  refine Eq.trans (k_gtR rfl s_363 rfl (by decide)) ?_
  refine Eq.trans (k_con rfl) ?_
  refine Eq.trans (k_ild3 rfl) ?_
  refine Eq.trans (k_mul rfl) ?_
  refine Eq.trans (k_con rfl) ?_
  refine Eq.trans (k_add rfl) ?_
  refine Eq.trans (k_iald rfl s_383 (bl rfl) g0 g1) ?_
  refine Eq.trans (k_ild2 rfl) ?_
  refine Eq.trans (k_i2ne rfl rfl) ?_
  refine ifc ?_ ?_
  · refine Eq.trans (k_con rfl) ?_
    exact k_rtZ rfl rfl (Or.inr rfl)
  · exact rfl
theorem b_255_38 {d : Nat} {m : Nat → Nat → Int} {q : Nat → Nat → Option Nat} {w : Option (Nat → Int64)} {v1 v2 v3 : Int}   : gv d rR255 38 [some (.ref 363), some (.int (iI v1)), some (.int (iI v2)), some (.int (iI v3))] [] (mk m q w) =
    gv d rR255 2 [some (.ref 363), some (.int (iI v1)), some (.int (iI v2)), some (.int (iI (v3 + 1)))] [] (mk m q w) := by
  refine Eq.trans (k_inc3 rfl) ?_
  refine Eq.trans (k_go rfl rfl) ?_
  exact rfl
theorem e_255 {d : Nat} (hd : 1 ≤ d) {a0 a1 a2 : Value} (M : rMem) (h0 : a0.category = 1) (h1 : a1.category = 1) (h2 : a2.category = 1) : ev d 255 [a0, a1, a2] M = gv (d - 1) rR255 0 [some a0, some a1, some a2, none] [] M := ev_at hd q_255 rfl (by simp [*]) rfl
/-! FanHouseModel.worstOf(II)I -/
theorem b_256_0 {d : Nat} {m : Nat → Nat → Int} {q : Nat → Nat → Option Nat} {w : Option (Nat → Int64)} {u3 u4 u5 : Option Value} {v1 v2 : Int}   : gv d rR256 0 [some (.ref 363), some (.int (iI v1)), some (.int (iI v2)), u3, u4, u5] [] (mk m q w) =
    gv d rR256 2 [some (.ref 363), some (.int (iI v1)), some (.int (iI v2)), some (.int (iI 0)), u4, u5] [] (mk m q w) := by
  refine Eq.trans (k_con rfl) ?_
  refine Eq.trans (k_ist3 rfl) ?_
  exact rfl
theorem b_256_2 {d : Nat} {m : Nat → Nat → Int} {q : Nat → Nat → Option Nat} {w : Option (Nat → Int64)} {u4 u5 : Option Value} {v1 v2 v3 : Int}   : gv d rR256 2 [some (.ref 363), some (.int (iI v1)), some (.int (iI v2)), some (.int (iI v3)), u4, u5] [] (mk m q w) =
    if iI v3 < iI 16 then (gv d rR256 8 [some (.ref 363), some (.int (iI v1)), some (.int (iI v2)), some (.int (iI v3)), u4, u5] [] (mk m q w)) else (gv d rR256 26 [some (.ref 363), some (.int (iI v1)), some (.int (iI v2)), some (.int (iI 0)), some (.int (iI 0)), u5] [] (mk m q w)) := by
  refine Eq.trans (k_ild3 rfl) ?_
  refine Eq.trans (k_bip rfl (by decide)) ?_
  refine Eq.trans (k_i2ge rfl rfl) ?_
  refine ifc ?_ ?_
  · exact rfl
  · refine Eq.trans (k_con rfl) ?_
    refine Eq.trans (k_ist3 rfl) ?_
    refine Eq.trans (k_con rfl) ?_
    refine Eq.trans (k_ist4 rfl) ?_
    exact rfl
theorem b_256_8 {d : Nat} {m : Nat → Nat → Int} {q : Nat → Nat → Option Nat} {w : Option (Nat → Int64)} {u4 u5 : Option Value} {v1 v2 v3 : Int}  (g0 : 0 ≤ v3) (g1 : v3 < 16) : gv d rR256 8 [some (.ref 363), some (.int (iI v1)), some (.int (iI v2)), some (.int (iI v3)), u4, u5] [] (mk m q w) =
    gv d rR256 2 [some (.ref 363), some (.int (iI v1)), some (.int (iI v2)), some (.int (iI (v3 + 1))), u4, u5] [] (mk (wr m 389 (Int.toNat v3) 0) q w) := by
  refine Eq.trans (k_ald0 rfl) ?_
  refine Eq.trans (k_gtR rfl s_363 rfl (by decide)) ?_
  refine Eq.trans (k_ild3 rfl) ?_
  refine Eq.trans (k_con rfl) ?_
  refine Eq.trans (k_iast rfl s_389 (bl rfl) g0 g1) ?_
  refine Eq.trans (k_inc3 rfl) ?_
  refine Eq.trans (k_go rfl rfl) ?_
  exact rfl
theorem b_256_26 {d : Nat} {m : Nat → Nat → Int} {q : Nat → Nat → Option Nat} {w : Option (Nat → Int64)} {u5 : Option Value} {v1 v2 v3 v4 : Int}   : gv d rR256 26 [some (.ref 363), some (.int (iI v1)), some (.int (iI v2)), some (.int (iI v3)), some (.int (iI v4)), u5] [] (mk m q w) =
    if iI v4 < iI (m 363 48) then (rBd (ev d 253 [.ref 363, .int (iI v4)] (mk m q w)) (fun v M' => gv d rR256 41 [some (.ref 363), some (.int (iI v1)), some (.int (iI v2)), some (.int (iI v3)), some (.int (iI v4)), u5] (v.toList ++ []) M')) else (some (.inl (some (.int (iI v3))), (mk m q w, (0, 0)))) := by
  refine Eq.trans (k_ild4 rfl) ?_
  refine Eq.trans (k_ald0 rfl) ?_
  refine Eq.trans (k_gtI rfl s_363 rfl (by decide)) ?_
  refine Eq.trans (k_i2ge rfl rfl) ?_
  refine ifc ?_ ?_
  · refine Eq.trans (k_ald0 rfl) ?_
    refine Eq.trans (k_ild4 rfl) ?_
    exact k_cV1 rfl s_363 q_253 rfl rfl rfl (bl rfl)
  · refine Eq.trans (k_ild3 rfl) ?_
    exact k_rtI rfl rfl
theorem b_256_41 {d : Nat} {m : Nat → Nat → Int} {q : Nat → Nat → Option Nat} {w : Option (Nat → Int64)} {u5 : Option Value} {v1 v2 v3 v4 s0 : Int}   : gv d rR256 41 [some (.ref 363), some (.int (iI v1)), some (.int (iI v2)), some (.int (iI v3)), some (.int (iI v4)), u5] [.int (iI s0)] (mk m q w) =
    if iI s0 = iI 0 then (gv d rR256 99 [some (.ref 363), some (.int (iI v1)), some (.int (iI v2)), some (.int (iI v3)), some (.int (iI v4)), u5] [] (mk m q w)) else (gv d rR256 47 [some (.ref 363), some (.int (iI v1)), some (.int (iI v2)), some (.int (iI v3)), some (.int (iI v4)), u5] [] (mk m q w)) := by
  refine Eq.trans (k_i1ne rfl rfl) ?_
  refine ifc ?_ ?_
  · refine Eq.trans (k_go rfl rfl) ?_
    exact rfl
  · exact rfl
theorem b_256_47 {d : Nat} {m : Nat → Nat → Int} {q : Nat → Nat → Option Nat} {w : Option (Nat → Int64)} {u5 : Option Value} {v1 v2 v3 v4 : Int}  (g0 : 0 ≤ ((((v4 * 4) + v1) * 7) + v2)) (g1 : ((((v4 * 4) + v1) * 7) + v2) < 784) (g2 : 0 ≤ (m 387 (Int.toNat ((((v4 * 4) + v1) * 7) + v2)))) (g3 : (m 387 (Int.toNat ((((v4 * 4) + v1) * 7) + v2))) < 16) : gv d rR256 47 [some (.ref 363), some (.int (iI v1)), some (.int (iI v2)), some (.int (iI v3)), some (.int (iI v4)), u5] [] (mk m q w) =
    if iI v3 < iI ((wr m 389 (Int.toNat (m 387 (Int.toNat ((((v4 * 4) + v1) * 7) + v2)))) ((m 389 (Int.toNat (m 387 (Int.toNat ((((v4 * 4) + v1) * 7) + v2))))) + 1)) 389 (Int.toNat (m 387 (Int.toNat ((((v4 * 4) + v1) * 7) + v2))))) then (gv d rR256 98 [some (.ref 363), some (.int (iI v1)), some (.int (iI v2)), some (.int (iI v3)), some (.int (iI v4)), some (.int (iI (m 387 (Int.toNat ((((v4 * 4) + v1) * 7) + v2)))))] [.int (iI ((wr m 389 (Int.toNat (m 387 (Int.toNat ((((v4 * 4) + v1) * 7) + v2)))) ((m 389 (Int.toNat (m 387 (Int.toNat ((((v4 * 4) + v1) * 7) + v2))))) + 1)) 389 (Int.toNat (m 387 (Int.toNat ((((v4 * 4) + v1) * 7) + v2))))))] (mk (wr m 389 (Int.toNat (m 387 (Int.toNat ((((v4 * 4) + v1) * 7) + v2)))) ((m 389 (Int.toNat (m 387 (Int.toNat ((((v4 * 4) + v1) * 7) + v2))))) + 1)) q w)) else (gv d rR256 98 [some (.ref 363), some (.int (iI v1)), some (.int (iI v2)), some (.int (iI v3)), some (.int (iI v4)), some (.int (iI (m 387 (Int.toNat ((((v4 * 4) + v1) * 7) + v2)))))] [.int (iI v3)] (mk (wr m 389 (Int.toNat (m 387 (Int.toNat ((((v4 * 4) + v1) * 7) + v2)))) ((m 389 (Int.toNat (m 387 (Int.toNat ((((v4 * 4) + v1) * 7) + v2))))) + 1)) q w)) := by
  refine Eq.trans (k_ald0 rfl) ?_
  refine Eq.trans (k_gtR rfl s_363 rfl (by decide)) ?_
  refine Eq.trans (k_ild4 rfl) ?_
  refine Eq.trans (k_con rfl) ?_
  refine Eq.trans (k_mul rfl) ?_
  refine Eq.trans (k_ild1 rfl) ?_
  refine Eq.trans (k_add rfl) ?_
  refine Eq.trans (k_bip rfl (by decide)) ?_
  refine Eq.trans (k_mul rfl) ?_
  refine Eq.trans (k_ild2 rfl) ?_
  refine Eq.trans (k_add rfl) ?_
  refine Eq.trans (k_iald rfl s_387 (bl rfl) g0 g1) ?_
  refine Eq.trans (k_ist5 rfl) ?_
  refine Eq.trans (k_ald0 rfl) ?_
  refine Eq.trans (k_gtR rfl s_363 rfl (by decide)) ?_
  refine Eq.trans (k_ild5 rfl) ?_
  refine Eq.trans (k_du2 rfl ⟨rfl, rfl⟩) ?_
  refine Eq.trans (k_iald rfl s_389 (bl rfl) g2 g3) ?_
  refine Eq.trans (k_con rfl) ?_
  refine Eq.trans (k_add rfl) ?_
  refine Eq.trans (k_iast rfl s_389 (bl rfl) g2 g3) ?_
  refine Eq.trans (k_ald0 rfl) ?_
  refine Eq.trans (k_gtR rfl s_363 rfl (by decide)) ?_
  refine Eq.trans (k_ild5 rfl) ?_
  refine Eq.trans (k_iald rfl s_389 (bl rfl) g2 g3) ?_
  refine Eq.trans (k_ild3 rfl) ?_
  refine Eq.trans (k_i2le rfl rfl) ?_
  refine ifc ?_ ?_
  · refine Eq.trans (k_ald0 rfl) ?_
    refine Eq.trans (k_gtR rfl s_363 rfl (by decide)) ?_
    refine Eq.trans (k_ild5 rfl) ?_
    refine Eq.trans (k_iald rfl s_389 (bl rfl) g2 g3) ?_
    refine Eq.trans (k_go rfl rfl) ?_
    exact rfl
  · refine Eq.trans (k_ild3 rfl) ?_
    exact rfl
theorem b_256_98 {d : Nat} {m : Nat → Nat → Int} {q : Nat → Nat → Option Nat} {w : Option (Nat → Int64)} {u3 u5 : Option Value} {v1 v2 v4 s0 : Int}   : gv d rR256 98 [some (.ref 363), some (.int (iI v1)), some (.int (iI v2)), u3, some (.int (iI v4)), u5] [.int (iI s0)] (mk m q w) =
    gv d rR256 99 [some (.ref 363), some (.int (iI v1)), some (.int (iI v2)), some (.int (iI s0)), some (.int (iI v4)), u5] [] (mk m q w) := by
  refine Eq.trans (k_ist3 rfl) ?_
  exact rfl
theorem b_256_99 {d : Nat} {m : Nat → Nat → Int} {q : Nat → Nat → Option Nat} {w : Option (Nat → Int64)} {u5 : Option Value} {v1 v2 v3 v4 : Int}   : gv d rR256 99 [some (.ref 363), some (.int (iI v1)), some (.int (iI v2)), some (.int (iI v3)), some (.int (iI v4)), u5] [] (mk m q w) =
    gv d rR256 26 [some (.ref 363), some (.int (iI v1)), some (.int (iI v2)), some (.int (iI v3)), some (.int (iI (v4 + 1))), u5] [] (mk m q w) := by
  refine Eq.trans (k_inc4 rfl) ?_
  refine Eq.trans (k_go rfl rfl) ?_
  exact rfl
theorem e_256 {d : Nat} (hd : 1 ≤ d) {a0 a1 a2 : Value} (M : rMem) (h0 : a0.category = 1) (h1 : a1.category = 1) (h2 : a2.category = 1) : ev d 256 [a0, a1, a2] M = gv (d - 1) rR256 0 [some a0, some a1, some a2, none, none, none] [] M := ev_at hd q_256 rfl (by simp [*]) rfl
/-! FanHouseModel.look(I)I -/
theorem b_257_0 {d : Nat} {m : Nat → Nat → Int} {q : Nat → Nat → Option Nat} {w : Option (Nat → Int64)} {u2 u3 u4 u5 u6 : Option Value} {v1 : Int}   : gv d rR257 0 [some (.ref 363), some (.int (iI v1)), u2, u3, u4, u5, u6] [] (mk m q w) =
    rBd (ev d 161 [.int (iI v1), .int (iI 0), .int (iI 1)] (mk (wr m 363 0 0) q w)) (fun v M' => gv d rR257 12 [some (.ref 363), some (.int (iI v1)), u2, u3, u4, u5, u6] (v.toList ++ [.ref 363]) M') := by
  refine Eq.trans (k_ald0 rfl) ?_
  refine Eq.trans (k_con rfl) ?_
  refine Eq.trans (k_ptI rfl s_363 rfl rfl) ?_
  refine Eq.trans (k_ald0 rfl) ?_
  refine Eq.trans (k_ild1 rfl) ?_
  refine Eq.trans (k_con rfl) ?_
  refine Eq.trans (k_con rfl) ?_
  exact k_cS3 rfl (by decide) q_161 rfl rfl (bl rfl)
theorem b_257_12 {d : Nat} {m : Nat → Nat → Int} {q : Nat → Nat → Option Nat} {w : Option (Nat → Int64)} {u2 u3 u4 u5 u6 : Option Value} {v1 s1 : Int}   : gv d rR257 12 [some (.ref 363), some (.int (iI v1)), u2, u3, u4, u5, u6] [.int (iI s1), .ref 363] (mk m q w) =
    rBd (ev d 160 [.ref 363, .int (iI s1), .int (iI 1), .int (iI 1)] (mk m q w)) (fun v M' => gv d rR257 17 [some (.ref 363), some (.int (iI v1)), u2, u3, u4, u5, u6] (v.toList ++ []) M') := by
  refine Eq.trans (k_con rfl) ?_
  refine Eq.trans (k_con rfl) ?_
  exact k_cV3 rfl s_363 q_160 rfl rfl rfl (bl rfl)
theorem b_257_17 {d : Nat} {m : Nat → Nat → Int} {q : Nat → Nat → Option Nat} {w : Option (Nat → Int64)} {u2 u3 u4 u5 u6 : Option Value} {v1 s0 : Int}   : gv d rR257 17 [some (.ref 363), some (.int (iI v1)), u2, u3, u4, u5, u6] [.int (iI s0)] (mk m q w) =
    if iI s0 = iI 0 then (some (.inl (some (.int (iI 0))), (mk m q w, (0, 0)))) else (rBd (ev d 252 [.ref 363] (mk m q w)) (fun v M' => gv d rR257 26 [some (.ref 363), some (.int (iI v1)), u2, u3, u4, u5, u6] (v.toList ++ []) M')) := by
  refine Eq.trans (k_i1ne rfl rfl) ?_
  refine ifc ?_ ?_
  · refine Eq.trans (k_con rfl) ?_
    exact k_rtI rfl rfl
  · refine Eq.trans (k_ald0 rfl) ?_
    exact k_cV0 rfl s_363 q_252 rfl rfl rfl (bl rfl)
theorem b_257_26 {d : Nat} {m : Nat → Nat → Int} {q : Nat → Nat → Option Nat} {w : Option (Nat → Int64)} {u2 u3 u4 u5 u6 : Option Value} {v1 : Int}   : gv d rR257 26 [some (.ref 363), some (.int (iI v1)), u2, u3, u4, u5, u6] [] (mk m q w) =
    gv d rR257 33 [some (.ref 363), some (.int (iI v1)), some (.int (iI (-1))), some (.int (iI (-1))), some (.int (iI 0)), u5, u6] [] (mk m q w) := by
  refine Eq.trans (k_con rfl) ?_
  refine Eq.trans (k_ist2 rfl) ?_
  refine Eq.trans (k_con rfl) ?_
  refine Eq.trans (k_ist3 rfl) ?_
  refine Eq.trans (k_con rfl) ?_
  refine Eq.trans (k_ist4 rfl) ?_
  exact rfl
theorem b_257_33 {d : Nat} {m : Nat → Nat → Int} {q : Nat → Nat → Option Nat} {w : Option (Nat → Int64)} {u5 u6 : Option Value} {v1 v2 v3 v4 : Int}   : gv d rR257 33 [some (.ref 363), some (.int (iI v1)), some (.int (iI v2)), some (.int (iI v3)), some (.int (iI v4)), u5, u6] [] (mk m q w) =
    if iI v4 < iI 4 then (gv d rR257 42 [some (.ref 363), some (.int (iI v1)), some (.int (iI v2)), some (.int (iI v3)), some (.int (iI v4)), some (.int (iI 0)), u6] [] (mk m q w)) else (if iI v1 = iI 0 then (gv d rR257 122 [some (.ref 363), some (.int (iI v1)), some (.int (iI v2)), some (.int (iI v3)), some (.int (iI v4)), u5, u6] [.int (iI v2)] (mk m q w)) else (gv d rR257 122 [some (.ref 363), some (.int (iI v1)), some (.int (iI v2)), some (.int (iI v3)), some (.int (iI v4)), u5, u6] [.int (iI v3)] (mk m q w))) := by
  refine Eq.trans (k_ild4 rfl) ?_
  refine Eq.trans (k_con rfl) ?_
  refine Eq.trans (k_i2ge rfl rfl) ?_
  refine ifc ?_ ?_
  · refine Eq.trans (k_con rfl) ?_
    refine Eq.trans (k_ist5 rfl) ?_
    exact rfl
  · refine Eq.trans (k_ild1 rfl) ?_
    refine Eq.trans (k_i1ne rfl rfl) ?_
    refine ifc ?_ ?_
    · refine Eq.trans (k_ild2 rfl) ?_
      refine Eq.trans (k_go rfl rfl) ?_
      exact rfl
    · refine Eq.trans (k_ild3 rfl) ?_
      exact rfl
theorem b_257_42 {d : Nat} {m : Nat → Nat → Int} {q : Nat → Nat → Option Nat} {w : Option (Nat → Int64)} {u6 : Option Value} {v1 v2 v3 v4 v5 : Int}   : gv d rR257 42 [some (.ref 363), some (.int (iI v1)), some (.int (iI v2)), some (.int (iI v3)), some (.int (iI v4)), some (.int (iI v5)), u6] [] (mk m q w) =
    if iI v5 < iI (m 363 15) then (rBd (ev d 255 [.ref 363, .int (iI v4), .int (iI v5)] (mk m q w)) (fun v M' => gv d rR257 59 [some (.ref 363), some (.int (iI v1)), some (.int (iI v2)), some (.int (iI v3)), some (.int (iI v4)), some (.int (iI v5)), u6] (v.toList ++ []) M')) else (gv d rR257 33 [some (.ref 363), some (.int (iI v1)), some (.int (iI v2)), some (.int (iI v3)), some (.int (iI (v4 + 1))), some (.int (iI v5)), u6] [] (mk m q w)) := by
  refine Eq.trans (k_ild5 rfl) ?_
  refine Eq.trans (k_ald0 rfl) ?_
  refine Eq.trans (k_gtI rfl s_363 rfl (by decide)) ?_
  refine Eq.trans (k_i2ge rfl rfl) ?_
  refine ifc ?_ ?_
  · refine Eq.trans (k_ald0 rfl) ?_
    refine Eq.trans (k_ild4 rfl) ?_
    refine Eq.trans (k_ild5 rfl) ?_
    exact k_cV2 rfl s_363 q_255 rfl rfl rfl (bl rfl)
  · refine Eq.trans (k_inc4 rfl) ?_
    refine Eq.trans (k_go rfl rfl) ?_
    exact rfl
theorem b_257_59 {d : Nat} {m : Nat → Nat → Int} {q : Nat → Nat → Option Nat} {w : Option (Nat → Int64)} {u6 : Option Value} {v1 v2 v3 v4 v5 s0 : Int}   : gv d rR257 59 [some (.ref 363), some (.int (iI v1)), some (.int (iI v2)), some (.int (iI v3)), some (.int (iI v4)), some (.int (iI v5)), u6] [.int (iI s0)] (mk m q w) =
    if iI s0 = iI 0 then (rBd (ev d 256 [.ref 363, .int (iI v4), .int (iI v5)] (mk m q w)) (fun v M' => gv d rR257 73 [some (.ref 363), some (.int (iI v1)), some (.int (iI v2)), some (.int (iI v3)), some (.int (iI v4)), some (.int (iI v5)), u6] (v.toList ++ []) M')) else (gv d rR257 101 [some (.ref 363), some (.int (iI v1)), some (.int (iI v2)), some (.int (iI v3)), some (.int (iI v4)), some (.int (iI v5)), u6] [] (mk m q w)) := by
  refine Eq.trans (k_i1eq rfl rfl) ?_
  refine ifc ?_ ?_
  · refine Eq.trans (k_ald0 rfl) ?_
    refine Eq.trans (k_ild4 rfl) ?_
    refine Eq.trans (k_ild5 rfl) ?_
    exact k_cV2 rfl s_363 q_256 rfl rfl rfl (bl rfl)
  · refine Eq.trans (k_go rfl rfl) ?_
    exact rfl
theorem b_257_73 {d : Nat} {m : Nat → Nat → Int} {q : Nat → Nat → Option Nat} {w : Option (Nat → Int64)} {u6 : Option Value} {v1 v2 v3 v4 v5 s0 : Int}   : gv d rR257 73 [some (.ref 363), some (.int (iI v1)), some (.int (iI v2)), some (.int (iI v3)), some (.int (iI v4)), some (.int (iI v5)), u6] [.int (iI s0)] (mk m q w) =
    if iI v2 = iI (-1) then (gv d rR257 89 [some (.ref 363), some (.int (iI v1)), some (.int (iI v2)), some (.int (iI v3)), some (.int (iI v4)), some (.int (iI v5)), some (.int (iI s0))] [] (mk m q w)) else (if iI s0 < iI v3 then (gv d rR257 89 [some (.ref 363), some (.int (iI v1)), some (.int (iI v2)), some (.int (iI v3)), some (.int (iI v4)), some (.int (iI v5)), some (.int (iI s0))] [] (mk m q w)) else (gv d rR257 101 [some (.ref 363), some (.int (iI v1)), some (.int (iI v2)), some (.int (iI v3)), some (.int (iI v4)), some (.int (iI v5)), some (.int (iI s0))] [] (mk m q w))) := by
  refine Eq.trans (k_ist6 rfl) ?_
  refine Eq.trans (k_ild2 rfl) ?_
  refine Eq.trans (k_con rfl) ?_
  refine Eq.trans (k_i2eq rfl rfl) ?_
  refine ifc ?_ ?_
  · exact rfl
  · refine Eq.trans (k_ild6 rfl) ?_
    refine Eq.trans (k_ild3 rfl) ?_
    refine Eq.trans (k_i2lt rfl rfl) ?_
    refine ifc ?_ ?_
    · exact rfl
    · refine Eq.trans (k_go rfl rfl) ?_
      exact rfl
theorem b_257_89 {d : Nat} {m : Nat → Nat → Int} {q : Nat → Nat → Option Nat} {w : Option (Nat → Int64)} {u2 u3 : Option Value} {v1 v4 v5 v6 : Int}   : gv d rR257 89 [some (.ref 363), some (.int (iI v1)), u2, u3, some (.int (iI v4)), some (.int (iI v5)), some (.int (iI v6))] [] (mk m q w) =
    gv d rR257 101 [some (.ref 363), some (.int (iI v1)), some (.int (iI ((10 * v4) + v5))), some (.int (iI v6)), some (.int (iI v4)), some (.int (iI v5)), some (.int (iI v6))] [] (mk m q w) := by
  refine Eq.trans (k_bip rfl (by decide)) ?_
  refine Eq.trans (k_ild4 rfl) ?_
  refine Eq.trans (k_mul rfl) ?_
  refine Eq.trans (k_ild5 rfl) ?_
  refine Eq.trans (k_add rfl) ?_
  refine Eq.trans (k_ist2 rfl) ?_
  refine Eq.trans (k_ild6 rfl) ?_
  refine Eq.trans (k_ist3 rfl) ?_
  exact rfl
theorem b_257_101 {d : Nat} {m : Nat → Nat → Int} {q : Nat → Nat → Option Nat} {w : Option (Nat → Int64)} {u6 : Option Value} {v1 v2 v3 v4 v5 : Int}   : gv d rR257 101 [some (.ref 363), some (.int (iI v1)), some (.int (iI v2)), some (.int (iI v3)), some (.int (iI v4)), some (.int (iI v5)), u6] [] (mk m q w) =
    gv d rR257 42 [some (.ref 363), some (.int (iI v1)), some (.int (iI v2)), some (.int (iI v3)), some (.int (iI v4)), some (.int (iI (v5 + 1))), u6] [] (mk m q w) := by
  refine Eq.trans (k_inc5 rfl) ?_
  refine Eq.trans (k_go rfl rfl) ?_
  exact rfl
theorem b_257_122 {d : Nat} {m : Nat → Nat → Int} {q : Nat → Nat → Option Nat} {w : Option (Nat → Int64)} {u0 u1 u2 u3 u4 u5 u6 : Option Value} {s0 : Int}   : gv d rR257 122 [u0, u1, u2, u3, u4, u5, u6] [.int (iI s0)] (mk m q w) =
    some (.inl (some (.int (iI s0))), (mk m q w, (0, 0))) := by
  exact k_rtI rfl rfl
theorem e_257 {d : Nat} (hd : 1 ≤ d) {a0 a1 : Value} (M : rMem) (h0 : a0.category = 1) (h1 : a1.category = 1) : ev d 257 [a0, a1] M = gv (d - 1) rR257 0 [some a0, some a1, none, none, none, none, none] [] M := ev_at hd q_257 rfl (by simp [*]) rfl
/-! FanHouseModel.ahead(II)I -/
theorem b_258_0 {d : Nat} {m : Nat → Nat → Int} {q : Nat → Nat → Option Nat} {w : Option (Nat → Int64)} {u3 : Option Value} {v1 v2 : Int}   : gv d rR258 0 [some (.ref 363), some (.int (iI v1)), some (.int (iI v2)), u3] [] (mk m q w) =
    rBd (ev d 161 [.int (iI v1), .int (iI 0), .int (iI 99)] (mk (wr m 363 0 0) q w)) (fun v M' => gv d rR258 13 [some (.ref 363), some (.int (iI v1)), some (.int (iI v2)), u3] (v.toList ++ [.ref 363]) M') := by
  refine Eq.trans (k_ald0 rfl) ?_
  refine Eq.trans (k_con rfl) ?_
  refine Eq.trans (k_ptI rfl s_363 rfl rfl) ?_
  refine Eq.trans (k_ald0 rfl) ?_
  refine Eq.trans (k_ild1 rfl) ?_
  refine Eq.trans (k_con rfl) ?_
  refine Eq.trans (k_bip rfl (by decide)) ?_
  exact k_cS3 rfl (by decide) q_161 rfl rfl (bl rfl)
theorem b_258_13 {d : Nat} {m : Nat → Nat → Int} {q : Nat → Nat → Option Nat} {w : Option (Nat → Int64)} {u3 : Option Value} {v1 v2 s1 : Int}   : gv d rR258 13 [some (.ref 363), some (.int (iI v1)), some (.int (iI v2)), u3] [.int (iI s1), .ref 363] (mk m q w) =
    if iI s1 = iI 0 then (gv d rR258 29 [some (.ref 363), some (.int (iI v1)), some (.int (iI v2)), u3] [.ref 363] (mk m q w)) else (rBd (ev d 161 [.int (iI v2), .int (iI 0), .int (iI 1)] (mk m q w)) (fun v M' => gv d rR258 22 [some (.ref 363), some (.int (iI v1)), some (.int (iI v2)), u3] (v.toList ++ [.ref 363]) M')) := by
  refine Eq.trans (k_i1eq rfl rfl) ?_
  refine ifc ?_ ?_
  · exact rfl
  · refine Eq.trans (k_ild2 rfl) ?_
    refine Eq.trans (k_con rfl) ?_
    refine Eq.trans (k_con rfl) ?_
    exact k_cS3 rfl (by decide) q_161 rfl rfl (bl rfl)
theorem b_258_22 {d : Nat} {m : Nat → Nat → Int} {q : Nat → Nat → Option Nat} {w : Option (Nat → Int64)} {u3 : Option Value} {v1 v2 s1 : Int}   : gv d rR258 22 [some (.ref 363), some (.int (iI v1)), some (.int (iI v2)), u3] [.int (iI s1), .ref 363] (mk m q w) =
    if iI s1 = iI 0 then (gv d rR258 29 [some (.ref 363), some (.int (iI v1)), some (.int (iI v2)), u3] [.ref 363] (mk m q w)) else (gv d rR258 30 [some (.ref 363), some (.int (iI v1)), some (.int (iI v2)), u3] [.int (iI 1), .ref 363] (mk m q w)) := by
  refine Eq.trans (k_i1eq rfl rfl) ?_
  refine ifc ?_ ?_
  · exact rfl
  · refine Eq.trans (k_con rfl) ?_
    refine Eq.trans (k_go rfl rfl) ?_
    exact rfl
theorem b_258_29 {d : Nat} {m : Nat → Nat → Int} {q : Nat → Nat → Option Nat} {w : Option (Nat → Int64)} {u3 : Option Value} {v1 v2 : Int}   : gv d rR258 29 [some (.ref 363), some (.int (iI v1)), some (.int (iI v2)), u3] [.ref 363] (mk m q w) =
    gv d rR258 30 [some (.ref 363), some (.int (iI v1)), some (.int (iI v2)), u3] [.int (iI 0), .ref 363] (mk m q w) := by
  refine Eq.trans (k_con rfl) ?_
  exact rfl
theorem b_258_30 {d : Nat} {m : Nat → Nat → Int} {q : Nat → Nat → Option Nat} {w : Option (Nat → Int64)} {u3 : Option Value} {v1 v2 s1 : Int}   : gv d rR258 30 [some (.ref 363), some (.int (iI v1)), some (.int (iI v2)), u3] [.int (iI s1), .ref 363] (mk m q w) =
    rBd (ev d 160 [.ref 363, .int (iI s1), .int (iI 1), .int (iI 1)] (mk m q w)) (fun v M' => gv d rR258 35 [some (.ref 363), some (.int (iI v1)), some (.int (iI v2)), u3] (v.toList ++ []) M') := by
  refine Eq.trans (k_con rfl) ?_
  refine Eq.trans (k_con rfl) ?_
  exact k_cV3 rfl s_363 q_160 rfl rfl rfl (bl rfl)
theorem b_258_35 {d : Nat} {m : Nat → Nat → Int} {q : Nat → Nat → Option Nat} {w : Option (Nat → Int64)} {u3 : Option Value} {v1 v2 s0 : Int}   : gv d rR258 35 [some (.ref 363), some (.int (iI v1)), some (.int (iI v2)), u3] [.int (iI s0)] (mk m q w) =
    if iI s0 = iI 0 then (some (.inl (some (.int (iI 0))), (mk m q w, (0, 0)))) else (rBd (ev d 200 [.ref 363] (mk m q w)) (fun v M' => gv d rR258 44 [some (.ref 363), some (.int (iI v1)), some (.int (iI v2)), u3] (v.toList ++ []) M')) := by
  refine Eq.trans (k_i1ne rfl rfl) ?_
  refine ifc ?_ ?_
  · refine Eq.trans (k_con rfl) ?_
    exact k_rtI rfl rfl
  · refine Eq.trans (k_ald0 rfl) ?_
    exact k_cV0 rfl s_363 q_200 rfl rfl rfl (bl rfl)
theorem b_258_44 {d : Nat} {m : Nat → Nat → Int} {q : Nat → Nat → Option Nat} {w : Option (Nat → Int64)} {u3 : Option Value} {v1 v2 : Int}   : gv d rR258 44 [some (.ref 363), some (.int (iI v1)), some (.int (iI v2)), u3] [] (mk m q w) =
    gv d rR258 46 [some (.ref 363), some (.int (iI v1)), some (.int (iI v2)), some (.int (iI 0))] [] (mk m q w) := by
  refine Eq.trans (k_con rfl) ?_
  refine Eq.trans (k_ist3 rfl) ?_
  exact rfl
theorem b_258_46 {d : Nat} {m : Nat → Nat → Int} {q : Nat → Nat → Option Nat} {w : Option (Nat → Int64)} {v1 v2 v3 : Int}   : gv d rR258 46 [some (.ref 363), some (.int (iI v1)), some (.int (iI v2)), some (.int (iI v3))] [] (mk m q w) =
    if iI v3 < iI v1 then (rBd (ev d 212 [.ref 363] (mk m q w)) (fun v M' => gv d rR258 55 [some (.ref 363), some (.int (iI v1)), some (.int (iI v2)), some (.int (iI v3))] (v.toList ++ []) M')) else (if iI v2 = iI 0 then (gv d rR258 76 [some (.ref 363), some (.int (iI v1)), some (.int (iI v2)), some (.int (iI v3))] [.int (iI 42), .ref 377] (mk m q w)) else (gv d rR258 76 [some (.ref 363), some (.int (iI v1)), some (.int (iI v2)), some (.int (iI v3))] [.int (iI 43), .ref 377] (mk m q w))) := by
  refine Eq.trans (k_ild3 rfl) ?_
  refine Eq.trans (k_ild1 rfl) ?_
  refine Eq.trans (k_i2ge rfl rfl) ?_
  refine ifc ?_ ?_
  · refine Eq.trans (k_ald0 rfl) ?_
    exact k_cV0 rfl s_363 q_212 rfl rfl rfl (bl rfl)
  · refine Eq.trans (k_ald0 rfl) ?_
    refine Eq.trans (k_gtR rfl s_363 rfl (by decide)) ?_
    refine Eq.trans (k_ild2 rfl) ?_
    refine Eq.trans (k_i1ne rfl rfl) ?_
    refine ifc ?_ ?_
    · refine Eq.trans (k_bip rfl (by decide)) ?_
      refine Eq.trans (k_go rfl rfl) ?_
      exact rfl
    · refine Eq.trans (k_bip rfl (by decide)) ?_
      exact rfl
theorem b_258_55 {d : Nat} {m : Nat → Nat → Int} {q : Nat → Nat → Option Nat} {w : Option (Nat → Int64)} {v1 v2 v3 : Int}   : gv d rR258 55 [some (.ref 363), some (.int (iI v1)), some (.int (iI v2)), some (.int (iI v3))] [] (mk m q w) =
    gv d rR258 46 [some (.ref 363), some (.int (iI v1)), some (.int (iI v2)), some (.int (iI (v3 + 1)))] [] (mk m q w) := by
  refine Eq.trans (k_inc3 rfl) ?_
  refine Eq.trans (k_go rfl rfl) ?_
  exact rfl
theorem b_258_76 {d : Nat} {m : Nat → Nat → Int} {q : Nat → Nat → Option Nat} {w : Option (Nat → Int64)} {u0 u1 u2 u3 : Option Value} {s1 : Int}  (g0 : 0 ≤ s1) (g1 : s1 < 48) : gv d rR258 76 [u0, u1, u2, u3] [.int (iI s1), .ref 377] (mk m q w) =
    some (.inl (some (.int (iI (m 377 (Int.toNat s1))))), (mk m q w, (0, 0))) := by
  refine Eq.trans (k_iald rfl s_377 (bl rfl) g0 g1) ?_
  exact k_rtI rfl rfl
theorem e_258 {d : Nat} (hd : 1 ≤ d) {a0 a1 a2 : Value} (M : rMem) (h0 : a0.category = 1) (h1 : a1.category = 1) (h2 : a2.category = 1) : ev d 258 [a0, a1, a2] M = gv (d - 1) rR258 0 [some a0, some a1, some a2, none] [] M := ev_at hd q_258 rfl (by simp [*]) rfl
/-! FanHouseModel.lasts(I)I -/
theorem b_259_0 {d : Nat} {m : Nat → Nat → Int} {q : Nat → Nat → Option Nat} {w : Option (Nat → Int64)} {u2 : Option Value} {v1 : Int}   : gv d rR259 0 [some (.ref 363), some (.int (iI v1)), u2] [] (mk m q w) =
    rBd (ev d 224 [.int (iI v1)] (mk (wr m 363 0 0) q w)) (fun v M' => gv d rR259 10 [some (.ref 363), some (.int (iI v1)), u2] (v.toList ++ [.ref 363]) M') := by
  refine Eq.trans (k_ald0 rfl) ?_
  refine Eq.trans (k_con rfl) ?_
  refine Eq.trans (k_ptI rfl s_363 rfl rfl) ?_
  refine Eq.trans (k_ald0 rfl) ?_
  refine Eq.trans (k_ild1 rfl) ?_
  exact k_cS1 rfl (by decide) q_224 rfl rfl (bl rfl)
theorem b_259_10 {d : Nat} {m : Nat → Nat → Int} {q : Nat → Nat → Option Nat} {w : Option (Nat → Int64)} {u2 : Option Value} {v1 s1 : Int}   : gv d rR259 10 [some (.ref 363), some (.int (iI v1)), u2] [.int (iI s1), .ref 363] (mk m q w) =
    rBd (ev d 160 [.ref 363, .int (iI s1), .int (iI 1), .int (iI 1)] (mk m q w)) (fun v M' => gv d rR259 15 [some (.ref 363), some (.int (iI v1)), u2] (v.toList ++ []) M') := by
  refine Eq.trans (k_con rfl) ?_
  refine Eq.trans (k_con rfl) ?_
  exact k_cV3 rfl s_363 q_160 rfl rfl rfl (bl rfl)
theorem b_259_15 {d : Nat} {m : Nat → Nat → Int} {q : Nat → Nat → Option Nat} {w : Option (Nat → Int64)} {u2 : Option Value} {v1 s0 : Int}   : gv d rR259 15 [some (.ref 363), some (.int (iI v1)), u2] [.int (iI s0)] (mk m q w) =
    if iI s0 = iI 0 then (some (.inl (some (.int (iI 0))), (mk m q w, (0, 0)))) else (if iI (m 363 15) = iI 0 then (some (.inl (some (.int (iI 0))), (mk m q w, (0, 0)))) else (rBd (ev d 200 [.ref 363] (mk m q w)) (fun v M' => gv d rR259 33 [some (.ref 363), some (.int (iI v1)), u2] (v.toList ++ []) M'))) := by
  refine Eq.trans (k_i1ne rfl rfl) ?_
  refine ifc ?_ ?_
  · refine Eq.trans (k_con rfl) ?_
    exact k_rtI rfl rfl
  · refine Eq.trans (k_ald0 rfl) ?_
    refine Eq.trans (k_gtI rfl s_363 rfl (by decide)) ?_
    refine Eq.trans (k_i1ne rfl rfl) ?_
    refine ifc ?_ ?_
    · refine Eq.trans (k_con rfl) ?_
      exact k_rtI rfl rfl
    · refine Eq.trans (k_ald0 rfl) ?_
      exact k_cV0 rfl s_363 q_200 rfl rfl rfl (bl rfl)
theorem b_259_33 {d : Nat} {m : Nat → Nat → Int} {q : Nat → Nat → Option Nat} {w : Option (Nat → Int64)} {u2 : Option Value} {v1 : Int}   : gv d rR259 33 [some (.ref 363), some (.int (iI v1)), u2] [] (mk m q w) =
    rBd (ev d 205 [.ref 363] (mk m q w)) (fun v M' => gv d rR259 37 [some (.ref 363), some (.int (iI v1)), u2] (v.toList ++ []) M') := by
  refine Eq.trans (k_ald0 rfl) ?_
  exact k_cV0 rfl s_363 q_205 rfl rfl rfl (bl rfl)
theorem b_259_37 {d : Nat} {m : Nat → Nat → Int} {q : Nat → Nat → Option Nat} {w : Option (Nat → Int64)} {u2 : Option Value} {v1 s0 : Int}   : gv d rR259 37 [some (.ref 363), some (.int (iI v1)), u2] [.int (iI s0)] (mk m q w) =
    gv d rR259 40 [some (.ref 363), some (.int (iI v1)), some (.int (iI 0))] [] (mk m q w) := by
  refine Eq.trans (k_pop rfl rfl) ?_
  refine Eq.trans (k_con rfl) ?_
  refine Eq.trans (k_ist2 rfl) ?_
  exact rfl
theorem b_259_40 {d : Nat} {m : Nat → Nat → Int} {q : Nat → Nat → Option Nat} {w : Option (Nat → Int64)} {v1 v2 : Int}   : gv d rR259 40 [some (.ref 363), some (.int (iI v1)), some (.int (iI v2))] [] (mk m q w) =
    if iI v2 < iI 999 then (rBd (ev d 204 [.ref 363, .int (iI v1), .int (iI (m 363 15))] (mk m q w)) (fun v M' => gv d rR259 56 [some (.ref 363), some (.int (iI v1)), some (.int (iI v2))] (v.toList ++ []) M')) else (gv d rR259 70 [some (.ref 363), some (.int (iI v1)), some (.int (iI v2))] [] (mk m q w)) := by
  refine Eq.trans (k_ild2 rfl) ?_
  refine Eq.trans (k_sip rfl (by decide)) ?_
  refine Eq.trans (k_i2ge rfl rfl) ?_
  refine ifc ?_ ?_
  · refine Eq.trans (k_ald0 rfl) ?_
    refine Eq.trans (k_ild1 rfl) ?_
    refine Eq.trans (k_ald0 rfl) ?_
    refine Eq.trans (k_gtI rfl s_363 rfl (by decide)) ?_
    exact k_cV2 rfl s_363 q_204 rfl rfl rfl (bl rfl)
  · exact rfl
theorem b_259_56 {d : Nat} {m : Nat → Nat → Int} {q : Nat → Nat → Option Nat} {w : Option (Nat → Int64)} {v1 v2 s0 : Int}   : gv d rR259 56 [some (.ref 363), some (.int (iI v1)), some (.int (iI v2))] [.int (iI s0)] (mk m q w) =
    if iI s0 = iI 0 then (gv d rR259 70 [some (.ref 363), some (.int (iI v1)), some (.int (iI v2))] [] (mk m q w)) else (rBd (ev d 205 [.ref 363] (mk m q w)) (fun v M' => gv d rR259 63 [some (.ref 363), some (.int (iI v1)), some (.int (iI v2))] (v.toList ++ []) M')) := by
  refine Eq.trans (k_i1eq rfl rfl) ?_
  refine ifc ?_ ?_
  · exact rfl
  · refine Eq.trans (k_ald0 rfl) ?_
    exact k_cV0 rfl s_363 q_205 rfl rfl rfl (bl rfl)
theorem b_259_63 {d : Nat} {m : Nat → Nat → Int} {q : Nat → Nat → Option Nat} {w : Option (Nat → Int64)} {v1 v2 s0 : Int}   : gv d rR259 63 [some (.ref 363), some (.int (iI v1)), some (.int (iI v2))] [.int (iI s0)] (mk m q w) =
    gv d rR259 40 [some (.ref 363), some (.int (iI v1)), some (.int (iI (v2 + 1)))] [] (mk m q w) := by
  refine Eq.trans (k_pop rfl rfl) ?_
  refine Eq.trans (k_inc2 rfl) ?_
  refine Eq.trans (k_go rfl rfl) ?_
  exact rfl
theorem b_259_70 {d : Nat} {m : Nat → Nat → Int} {q : Nat → Nat → Option Nat} {w : Option (Nat → Int64)} {u0 u1 : Option Value} {v2 : Int}   : gv d rR259 70 [u0, u1, some (.int (iI v2))] [] (mk m q w) =
    some (.inl (some (.int (iI v2))), (mk m q w, (0, 0))) := by
  refine Eq.trans (k_ild2 rfl) ?_
  exact k_rtI rfl rfl
theorem e_259 {d : Nat} (hd : 1 ≤ d) {a0 a1 : Value} (M : rMem) (h0 : a0.category = 1) (h1 : a1.category = 1) : ev d 259 [a0, a1] M = gv (d - 1) rR259 0 [some a0, some a1, none] [] M := ev_at hd q_259 rfl (by simp [*]) rfl
/-! FanHouseModel.hasBy(IIII)I -/
theorem b_260_0 {d : Nat} {m : Nat → Nat → Int} {q : Nat → Nat → Option Nat} {w : Option (Nat → Int64)} {v0 v1 v2 v3 : Int}   : gv d rR260 0 [some (.int (iI v0)), some (.int (iI v1)), some (.int (iI v2)), some (.int (iI v3))] [] (mk m q w) =
    if iI v0 = iI v1 then (if iI v0 = iI 0 then (gv d rR260 28 [some (.int (iI v0)), some (.int (iI v1)), some (.int (iI v2)), some (.int (iI v3))] [.int (iI v2)] (mk m q w)) else (gv d rR260 28 [some (.int (iI v0)), some (.int (iI v1)), some (.int (iI v2)), some (.int (iI v3))] [.int (iI (zDiv v3 2))] (mk m q w))) else (if iI v0 = iI 0 then (gv d rR260 28 [some (.int (iI v0)), some (.int (iI v1)), some (.int (iI v2)), some (.int (iI v3))] [.int (iI 0)] (mk m q w)) else (gv d rR260 28 [some (.int (iI v0)), some (.int (iI v1)), some (.int (iI v2)), some (.int (iI v3))] [.int (iI v3)] (mk m q w))) := by
  refine Eq.trans (k_ild0 rfl) ?_
  refine Eq.trans (k_ild1 rfl) ?_
  refine Eq.trans (k_i2ne rfl rfl) ?_
  refine ifc ?_ ?_
  · refine Eq.trans (k_ild0 rfl) ?_
    refine Eq.trans (k_i1ne rfl rfl) ?_
    refine ifc ?_ ?_
    · refine Eq.trans (k_ild2 rfl) ?_
      refine Eq.trans (k_go rfl rfl) ?_
      exact rfl
    · refine Eq.trans (k_ild3 rfl) ?_
      refine Eq.trans (k_con rfl) ?_
      refine Eq.trans (k_div rfl (by decide)) ?_
      refine Eq.trans (k_go rfl rfl) ?_
      exact rfl
  · refine Eq.trans (k_ild0 rfl) ?_
    refine Eq.trans (k_i1ne rfl rfl) ?_
    refine ifc ?_ ?_
    · refine Eq.trans (k_con rfl) ?_
      refine Eq.trans (k_go rfl rfl) ?_
      exact rfl
    · refine Eq.trans (k_ild3 rfl) ?_
      exact rfl
theorem b_260_28 {d : Nat} {m : Nat → Nat → Int} {q : Nat → Nat → Option Nat} {w : Option (Nat → Int64)} {u0 u1 u2 u3 : Option Value} {s0 : Int}   : gv d rR260 28 [u0, u1, u2, u3] [.int (iI s0)] (mk m q w) =
    some (.inl (some (.int (iI s0))), (mk m q w, (0, 0))) := by
  exact k_rtI rfl rfl
theorem e_260 {d : Nat} (hd : 1 ≤ d) {a0 a1 a2 a3 : Value} (M : rMem) (h0 : a0.category = 1) (h1 : a1.category = 1) (h2 : a2.category = 1) (h3 : a3.category = 1) : ev d 260 [a0, a1, a2, a3] M = gv (d - 1) rR260 0 [some a0, some a1, some a2, some a3] [] M := ev_at hd q_260 rfl (by simp [*]) rfl
/-! FanHouseModel.sellers(III)I -/
theorem b_261_0 {d : Nat} {m : Nat → Nat → Int} {q : Nat → Nat → Option Nat} {w : Option (Nat → Int64)} {u4 u5 u6 u7 u8 : Option Value} {v1 v2 v3 : Int}   : gv d rR261 0 [some (.ref 363), some (.int (iI v1)), some (.int (iI v2)), some (.int (iI v3)), u4, u5, u6, u7, u8] [] (mk m q w) =
    rBd (ev d 161 [.int (iI v1), .int (iI 0), .int (iI 99)] (mk (wr m 363 0 0) q w)) (fun v M' => gv d rR261 13 [some (.ref 363), some (.int (iI v1)), some (.int (iI v2)), some (.int (iI v3)), u4, u5, u6, u7, u8] (v.toList ++ [.ref 363]) M') := by
  refine Eq.trans (k_ald0 rfl) ?_
  refine Eq.trans (k_con rfl) ?_
  refine Eq.trans (k_ptI rfl s_363 rfl rfl) ?_
  refine Eq.trans (k_ald0 rfl) ?_
  refine Eq.trans (k_ild1 rfl) ?_
  refine Eq.trans (k_con rfl) ?_
  refine Eq.trans (k_bip rfl (by decide)) ?_
  exact k_cS3 rfl (by decide) q_161 rfl rfl (bl rfl)
theorem b_261_13 {d : Nat} {m : Nat → Nat → Int} {q : Nat → Nat → Option Nat} {w : Option (Nat → Int64)} {u0 u4 u5 u6 u7 u8 : Option Value} {v1 v2 v3 s1 : Int}   : gv d rR261 13 [u0, some (.int (iI v1)), some (.int (iI v2)), some (.int (iI v3)), u4, u5, u6, u7, u8] [.int (iI s1), .ref 363] (mk m q w) =
    if iI s1 = iI 0 then (gv d rR261 39 [u0, some (.int (iI v1)), some (.int (iI v2)), some (.int (iI v3)), u4, u5, u6, u7, u8] [.ref 363] (mk m q w)) else (rBd (ev d 161 [.int (iI v2), .int (iI 0), .int (iI 99)] (mk m q w)) (fun v M' => gv d rR261 23 [u0, some (.int (iI v1)), some (.int (iI v2)), some (.int (iI v3)), u4, u5, u6, u7, u8] (v.toList ++ [.ref 363]) M')) := by
  refine Eq.trans (k_i1eq rfl rfl) ?_
  refine ifc ?_ ?_
  · exact rfl
  · refine Eq.trans (k_ild2 rfl) ?_
    refine Eq.trans (k_con rfl) ?_
    refine Eq.trans (k_bip rfl (by decide)) ?_
    exact k_cS3 rfl (by decide) q_161 rfl rfl (bl rfl)
theorem b_261_23 {d : Nat} {m : Nat → Nat → Int} {q : Nat → Nat → Option Nat} {w : Option (Nat → Int64)} {u0 u4 u5 u6 u7 u8 : Option Value} {v1 v2 v3 s1 : Int}   : gv d rR261 23 [u0, some (.int (iI v1)), some (.int (iI v2)), some (.int (iI v3)), u4, u5, u6, u7, u8] [.int (iI s1), .ref 363] (mk m q w) =
    if iI s1 = iI 0 then (gv d rR261 39 [u0, some (.int (iI v1)), some (.int (iI v2)), some (.int (iI v3)), u4, u5, u6, u7, u8] [.ref 363] (mk m q w)) else (rBd (ev d 161 [.int (iI v3), .int (iI 0), .int (iI 2)] (mk m q w)) (fun v M' => gv d rR261 32 [u0, some (.int (iI v1)), some (.int (iI v2)), some (.int (iI v3)), u4, u5, u6, u7, u8] (v.toList ++ [.ref 363]) M')) := by
  refine Eq.trans (k_i1eq rfl rfl) ?_
  refine ifc ?_ ?_
  · exact rfl
  · refine Eq.trans (k_ild3 rfl) ?_
    refine Eq.trans (k_con rfl) ?_
    refine Eq.trans (k_con rfl) ?_
    exact k_cS3 rfl (by decide) q_161 rfl rfl (bl rfl)
theorem b_261_32 {d : Nat} {m : Nat → Nat → Int} {q : Nat → Nat → Option Nat} {w : Option (Nat → Int64)} {u0 u4 u5 u6 u7 u8 : Option Value} {v1 v2 v3 s1 : Int}   : gv d rR261 32 [u0, some (.int (iI v1)), some (.int (iI v2)), some (.int (iI v3)), u4, u5, u6, u7, u8] [.int (iI s1), .ref 363] (mk m q w) =
    if iI s1 = iI 0 then (gv d rR261 39 [u0, some (.int (iI v1)), some (.int (iI v2)), some (.int (iI v3)), u4, u5, u6, u7, u8] [.ref 363] (mk m q w)) else (gv d rR261 40 [u0, some (.int (iI v1)), some (.int (iI v2)), some (.int (iI v3)), u4, u5, u6, u7, u8] [.int (iI 1), .ref 363] (mk m q w)) := by
  refine Eq.trans (k_i1eq rfl rfl) ?_
  refine ifc ?_ ?_
  · exact rfl
  · refine Eq.trans (k_con rfl) ?_
    refine Eq.trans (k_go rfl rfl) ?_
    exact rfl
theorem b_261_39 {d : Nat} {m : Nat → Nat → Int} {q : Nat → Nat → Option Nat} {w : Option (Nat → Int64)} {u0 u4 u5 u6 u7 u8 : Option Value} {v1 v2 v3 : Int}   : gv d rR261 39 [u0, some (.int (iI v1)), some (.int (iI v2)), some (.int (iI v3)), u4, u5, u6, u7, u8] [.ref 363] (mk m q w) =
    gv d rR261 40 [u0, some (.int (iI v1)), some (.int (iI v2)), some (.int (iI v3)), u4, u5, u6, u7, u8] [.int (iI 0), .ref 363] (mk m q w) := by
  refine Eq.trans (k_con rfl) ?_
  exact rfl
theorem b_261_40 {d : Nat} {m : Nat → Nat → Int} {q : Nat → Nat → Option Nat} {w : Option (Nat → Int64)} {u0 u4 u5 u6 u7 u8 : Option Value} {v1 v2 v3 s1 : Int}   : gv d rR261 40 [u0, some (.int (iI v1)), some (.int (iI v2)), some (.int (iI v3)), u4, u5, u6, u7, u8] [.int (iI s1), .ref 363] (mk m q w) =
    rBd (ev d 160 [.ref 363, .int (iI s1), .int (iI 1), .int (iI 1)] (mk m q w)) (fun v M' => gv d rR261 45 [u0, some (.int (iI v1)), some (.int (iI v2)), some (.int (iI v3)), u4, u5, u6, u7, u8] (v.toList ++ []) M') := by
  refine Eq.trans (k_con rfl) ?_
  refine Eq.trans (k_con rfl) ?_
  exact k_cV3 rfl s_363 q_160 rfl rfl rfl (bl rfl)
theorem b_261_45 {d : Nat} {m : Nat → Nat → Int} {q : Nat → Nat → Option Nat} {w : Option (Nat → Int64)} {u0 u4 u5 u6 u7 u8 : Option Value} {v1 v2 v3 s0 : Int}   : gv d rR261 45 [u0, some (.int (iI v1)), some (.int (iI v2)), some (.int (iI v3)), u4, u5, u6, u7, u8] [.int (iI s0)] (mk m q w) =
    if iI s0 = iI 0 then (some (.inl (some (.int (iI 0))), (mk m q w, (0, 0)))) else (gv d rR261 59 [u0, some (.int (iI v1)), some (.int (iI v2)), some (.int (iI v3)), some (.int (iI 0)), some (.int (iI (-1))), some (.int (iI 0)), u7, u8] [] (mk m q w)) := by
  refine Eq.trans (k_i1ne rfl rfl) ?_
  refine ifc ?_ ?_
  · refine Eq.trans (k_con rfl) ?_
    exact k_rtI rfl rfl
  · refine Eq.trans (k_con rfl) ?_
    refine Eq.trans (k_ist4 rfl) ?_
    refine Eq.trans (k_con rfl) ?_
    refine Eq.trans (k_ist5 rfl) ?_
    refine Eq.trans (k_con rfl) ?_
    refine Eq.trans (k_ist6 rfl) ?_
    exact rfl
theorem b_261_59 {d : Nat} {m : Nat → Nat → Int} {q : Nat → Nat → Option Nat} {w : Option (Nat → Int64)} {u0 u7 u8 : Option Value} {v1 v2 v3 v4 v5 v6 : Int}   : gv d rR261 59 [u0, some (.int (iI v1)), some (.int (iI v2)), some (.int (iI v3)), some (.int (iI v4)), some (.int (iI v5)), some (.int (iI v6)), u7, u8] [] (mk m q w) =
    if iI v6 < iI 4 then (rBd (ev d 260 [.int (iI (1 - (zDiv v6 2))), .int (iI (zRem v6 2)), .int (iI v1), .int (iI v2)] (mk m q w)) (fun v M' => gv d rR261 88 [u0, some (.int (iI v1)), some (.int (iI v2)), some (.int (iI v3)), some (.int (iI v4)), some (.int (iI v5)), some (.int (iI v6)), some (.int (iI (zDiv v6 2))), some (.int (iI (zRem v6 2)))] (v.toList ++ []) M')) else (if iI v3 = iI 0 then (gv d rR261 216 [u0, some (.int (iI v1)), some (.int (iI v2)), some (.int (iI v3)), some (.int (iI v4)), some (.int (iI v5)), some (.int (iI v6)), u7, u8] [.int (iI v4)] (mk m q w)) else (if iI v3 = iI 1 then (gv d rR261 216 [u0, some (.int (iI v1)), some (.int (iI v2)), some (.int (iI v3)), some (.int (iI v4)), some (.int (iI v5)), some (.int (iI v6)), u7, u8] [.int (iI v5)] (mk m q w)) else (if iI v5 = iI (-1) then (gv d rR261 216 [u0, some (.int (iI v1)), some (.int (iI v2)), some (.int (iI v3)), some (.int (iI v4)), some (.int (iI v5)), some (.int (iI v6)), u7, u8] [.int (iI 0)] (mk m q w)) else (rBd (ev d 260 [.int (iI (zDiv v5 10)), .int (iI (zRem v5 10)), .int (iI v1), .int (iI v2)] (mk m q w)) (fun v M' => gv d rR261 200 [u0, some (.int (iI v1)), some (.int (iI v2)), some (.int (iI v3)), some (.int (iI v4)), some (.int (iI v5)), some (.int (iI v6)), u7, u8] (v.toList ++ []) M'))))) := by
  refine Eq.trans (k_ild6 rfl) ?_
  refine Eq.trans (k_con rfl) ?_
  refine Eq.trans (k_i2ge rfl rfl) ?_
  refine ifc ?_ ?_
  · refine Eq.trans (k_ild6 rfl) ?_
    refine Eq.trans (k_con rfl) ?_
    refine Eq.trans (k_div rfl (by decide)) ?_
    refine Eq.trans (k_ist7 rfl) ?_
    refine Eq.trans (k_ild6 rfl) ?_
    refine Eq.trans (k_con rfl) ?_
    refine Eq.trans (k_rem rfl (by decide)) ?_
    refine Eq.trans (k_ist8 rfl) ?_
    refine Eq.trans (k_con rfl) ?_
    refine Eq.trans (k_ild7 rfl) ?_
    refine Eq.trans (k_sub rfl) ?_
    refine Eq.trans (k_ild8 rfl) ?_
    refine Eq.trans (k_ild1 rfl) ?_
    refine Eq.trans (k_ild2 rfl) ?_
    exact k_cS4 rfl (by decide) q_260 rfl rfl (bl rfl)
  · refine Eq.trans (k_ild3 rfl) ?_
    refine Eq.trans (k_i1ne rfl rfl) ?_
    refine ifc ?_ ?_
    · refine Eq.trans (k_ild4 rfl) ?_
      refine Eq.trans (k_go rfl rfl) ?_
      exact rfl
    · refine Eq.trans (k_ild3 rfl) ?_
      refine Eq.trans (k_con rfl) ?_
      refine Eq.trans (k_i2ne rfl rfl) ?_
      refine ifc ?_ ?_
      · refine Eq.trans (k_ild5 rfl) ?_
        refine Eq.trans (k_go rfl rfl) ?_
        exact rfl
      · refine Eq.trans (k_ild5 rfl) ?_
        refine Eq.trans (k_con rfl) ?_
        refine Eq.trans (k_i2ne rfl rfl) ?_
        refine ifc ?_ ?_
        · refine Eq.trans (k_con rfl) ?_
          refine Eq.trans (k_go rfl rfl) ?_
          exact rfl
        · refine Eq.trans (k_ild5 rfl) ?_
          refine Eq.trans (k_bip rfl (by decide)) ?_
          refine Eq.trans (k_div rfl (by decide)) ?_
          refine Eq.trans (k_ild5 rfl) ?_
          refine Eq.trans (k_bip rfl (by decide)) ?_
          refine Eq.trans (k_rem rfl (by decide)) ?_
          refine Eq.trans (k_ild1 rfl) ?_
          refine Eq.trans (k_ild2 rfl) ?_
          exact k_cS4 rfl (by decide) q_260 rfl rfl (bl rfl)
theorem b_261_88 {d : Nat} {m : Nat → Nat → Int} {q : Nat → Nat → Option Nat} {w : Option (Nat → Int64)} {u0 : Option Value} {v1 v2 v3 v4 v5 v6 v7 v8 s0 : Int}   : gv d rR261 88 [u0, some (.int (iI v1)), some (.int (iI v2)), some (.int (iI v3)), some (.int (iI v4)), some (.int (iI v5)), some (.int (iI v6)), some (.int (iI v7)), some (.int (iI v8))] [.int (iI s0)] (mk m q w) =
    rBd (ev d 260 [.int (iI v7), .int (iI v8), .int (iI v1), .int (iI v2)] (mk m q w)) (fun v M' => gv d rR261 97 [u0, some (.int (iI v1)), some (.int (iI v2)), some (.int (iI v3)), some (.int (iI v4)), some (.int (iI v5)), some (.int (iI v6)), some (.int (iI v7)), some (.int (iI v8))] (v.toList ++ [.int (iI s0)]) M') := by
  refine Eq.trans (k_ild7 rfl) ?_
  refine Eq.trans (k_ild8 rfl) ?_
  refine Eq.trans (k_ild1 rfl) ?_
  refine Eq.trans (k_ild2 rfl) ?_
  exact k_cS4 rfl (by decide) q_260 rfl rfl (bl rfl)
theorem b_261_97 {d : Nat} {m : Nat → Nat → Int} {q : Nat → Nat → Option Nat} {w : Option (Nat → Int64)} {u0 : Option Value} {v1 v2 v3 v4 v5 v6 v7 v8 s0 s1 : Int}   : gv d rR261 97 [u0, some (.int (iI v1)), some (.int (iI v2)), some (.int (iI v3)), some (.int (iI v4)), some (.int (iI v5)), some (.int (iI v6)), some (.int (iI v7)), some (.int (iI v8))] [.int (iI s1), .int (iI s0)] (mk m q w) =
    if iI s1 < iI s0 then (gv d rR261 150 [u0, some (.int (iI v1)), some (.int (iI v2)), some (.int (iI v3)), some (.int (iI v4)), some (.int (iI v5)), some (.int (iI v6)), some (.int (iI v7)), some (.int (iI v8))] [] (mk m q w)) else (rBd (ev d 260 [.int (iI (1 - v8)), .int (iI v7), .int (iI v1), .int (iI v2)] (mk m q w)) (fun v M' => gv d rR261 111 [u0, some (.int (iI v1)), some (.int (iI v2)), some (.int (iI v3)), some (.int (iI v4)), some (.int (iI v5)), some (.int (iI v6)), some (.int (iI v7)), some (.int (iI v8))] (v.toList ++ []) M')) := by
  refine Eq.trans (k_i2gt rfl rfl) ?_
  refine ifc ?_ ?_
  · exact rfl
  · refine Eq.trans (k_con rfl) ?_
    refine Eq.trans (k_ild8 rfl) ?_
    refine Eq.trans (k_sub rfl) ?_
    refine Eq.trans (k_ild7 rfl) ?_
    refine Eq.trans (k_ild1 rfl) ?_
    refine Eq.trans (k_ild2 rfl) ?_
    exact k_cS4 rfl (by decide) q_260 rfl rfl (bl rfl)
theorem b_261_111 {d : Nat} {m : Nat → Nat → Int} {q : Nat → Nat → Option Nat} {w : Option (Nat → Int64)} {u0 : Option Value} {v1 v2 v3 v4 v5 v6 v7 v8 s0 : Int}   : gv d rR261 111 [u0, some (.int (iI v1)), some (.int (iI v2)), some (.int (iI v3)), some (.int (iI v4)), some (.int (iI v5)), some (.int (iI v6)), some (.int (iI v7)), some (.int (iI v8))] [.int (iI s0)] (mk m q w) =
    rBd (ev d 260 [.int (iI v8), .int (iI v7), .int (iI v1), .int (iI v2)] (mk m q w)) (fun v M' => gv d rR261 120 [u0, some (.int (iI v1)), some (.int (iI v2)), some (.int (iI v3)), some (.int (iI v4)), some (.int (iI v5)), some (.int (iI v6)), some (.int (iI v7)), some (.int (iI v8))] (v.toList ++ [.int (iI s0)]) M') := by
  refine Eq.trans (k_ild8 rfl) ?_
  refine Eq.trans (k_ild7 rfl) ?_
  refine Eq.trans (k_ild1 rfl) ?_
  refine Eq.trans (k_ild2 rfl) ?_
  exact k_cS4 rfl (by decide) q_260 rfl rfl (bl rfl)
theorem b_261_120 {d : Nat} {m : Nat → Nat → Int} {q : Nat → Nat → Option Nat} {w : Option (Nat → Int64)} {u0 : Option Value} {v1 v2 v3 v4 v5 v6 v7 v8 s0 s1 : Int}   : gv d rR261 120 [u0, some (.int (iI v1)), some (.int (iI v2)), some (.int (iI v3)), some (.int (iI v4)), some (.int (iI v5)), some (.int (iI v6)), some (.int (iI v7)), some (.int (iI v8))] [.int (iI s1), .int (iI s0)] (mk m q w) =
    if iI s1 < iI s0 then (gv d rR261 150 [u0, some (.int (iI v1)), some (.int (iI v2)), some (.int (iI v3)), some (.int (iI v4)), some (.int (iI v5)), some (.int (iI v6)), some (.int (iI v7)), some (.int (iI v8))] [] (mk m q w)) else (if iI v5 = iI (-1) then (gv d rR261 148 [u0, some (.int (iI v1)), some (.int (iI v2)), some (.int (iI v3)), some (.int (iI (v4 + 1))), some (.int (iI v5)), some (.int (iI v6)), some (.int (iI v7)), some (.int (iI v8))] [.int (iI ((10 * v7) + v8))] (mk m q w)) else (gv d rR261 148 [u0, some (.int (iI v1)), some (.int (iI v2)), some (.int (iI v3)), some (.int (iI (v4 + 1))), some (.int (iI v5)), some (.int (iI v6)), some (.int (iI v7)), some (.int (iI v8))] [.int (iI v5)] (mk m q w))) := by
  refine Eq.trans (k_i2le rfl rfl) ?_
  refine ifc ?_ ?_
  · refine Eq.trans (k_go rfl rfl) ?_
    exact rfl
  · refine Eq.trans (k_inc4 rfl) ?_
    refine Eq.trans (k_ild5 rfl) ?_
    refine Eq.trans (k_con rfl) ?_
    refine Eq.trans (k_i2ne rfl rfl) ?_
    refine ifc ?_ ?_
    · refine Eq.trans (k_bip rfl (by decide)) ?_
      refine Eq.trans (k_ild7 rfl) ?_
      refine Eq.trans (k_mul rfl) ?_
      refine Eq.trans (k_ild8 rfl) ?_
      refine Eq.trans (k_add rfl) ?_
      refine Eq.trans (k_go rfl rfl) ?_
      exact rfl
    · refine Eq.trans (k_ild5 rfl) ?_
      exact rfl
theorem b_261_148 {d : Nat} {m : Nat → Nat → Int} {q : Nat → Nat → Option Nat} {w : Option (Nat → Int64)} {u0 u5 u7 u8 : Option Value} {v1 v2 v3 v4 v6 s0 : Int}   : gv d rR261 148 [u0, some (.int (iI v1)), some (.int (iI v2)), some (.int (iI v3)), some (.int (iI v4)), u5, some (.int (iI v6)), u7, u8] [.int (iI s0)] (mk m q w) =
    gv d rR261 150 [u0, some (.int (iI v1)), some (.int (iI v2)), some (.int (iI v3)), some (.int (iI v4)), some (.int (iI s0)), some (.int (iI v6)), u7, u8] [] (mk m q w) := by
  refine Eq.trans (k_ist5 rfl) ?_
  exact rfl
theorem b_261_150 {d : Nat} {m : Nat → Nat → Int} {q : Nat → Nat → Option Nat} {w : Option (Nat → Int64)} {u0 u7 u8 : Option Value} {v1 v2 v3 v4 v5 v6 : Int}   : gv d rR261 150 [u0, some (.int (iI v1)), some (.int (iI v2)), some (.int (iI v3)), some (.int (iI v4)), some (.int (iI v5)), some (.int (iI v6)), u7, u8] [] (mk m q w) =
    gv d rR261 59 [u0, some (.int (iI v1)), some (.int (iI v2)), some (.int (iI v3)), some (.int (iI v4)), some (.int (iI v5)), some (.int (iI (v6 + 1))), u7, u8] [] (mk m q w) := by
  refine Eq.trans (k_inc6 rfl) ?_
  refine Eq.trans (k_go rfl rfl) ?_
  exact rfl
theorem b_261_200 {d : Nat} {m : Nat → Nat → Int} {q : Nat → Nat → Option Nat} {w : Option (Nat → Int64)} {u0 u3 u4 u6 u7 u8 : Option Value} {v1 v2 v5 s0 : Int}   : gv d rR261 200 [u0, some (.int (iI v1)), some (.int (iI v2)), u3, u4, some (.int (iI v5)), u6, u7, u8] [.int (iI s0)] (mk m q w) =
    rBd (ev d 260 [.int (iI (zRem v5 10)), .int (iI (zDiv v5 10)), .int (iI v1), .int (iI v2)] (mk m q w)) (fun v M' => gv d rR261 215 [u0, some (.int (iI v1)), some (.int (iI v2)), u3, u4, some (.int (iI v5)), u6, u7, u8] (v.toList ++ [.int (iI s0)]) M') := by
  refine Eq.trans (k_ild5 rfl) ?_
  refine Eq.trans (k_bip rfl (by decide)) ?_
  refine Eq.trans (k_rem rfl (by decide)) ?_
  refine Eq.trans (k_ild5 rfl) ?_
  refine Eq.trans (k_bip rfl (by decide)) ?_
  refine Eq.trans (k_div rfl (by decide)) ?_
  refine Eq.trans (k_ild1 rfl) ?_
  refine Eq.trans (k_ild2 rfl) ?_
  exact k_cS4 rfl (by decide) q_260 rfl rfl (bl rfl)
theorem b_261_215 {d : Nat} {m : Nat → Nat → Int} {q : Nat → Nat → Option Nat} {w : Option (Nat → Int64)} {u0 u1 u2 u3 u4 u5 u6 u7 u8 : Option Value} {s0 s1 : Int}   : gv d rR261 215 [u0, u1, u2, u3, u4, u5, u6, u7, u8] [.int (iI s1), .int (iI s0)] (mk m q w) =
    gv d rR261 216 [u0, u1, u2, u3, u4, u5, u6, u7, u8] [.int (iI (s0 + s1))] (mk m q w) := by
  refine Eq.trans (k_add rfl) ?_
  exact rfl
theorem b_261_216 {d : Nat} {m : Nat → Nat → Int} {q : Nat → Nat → Option Nat} {w : Option (Nat → Int64)} {u0 u1 u2 u3 u4 u5 u6 u7 u8 : Option Value} {s0 : Int}   : gv d rR261 216 [u0, u1, u2, u3, u4, u5, u6, u7, u8] [.int (iI s0)] (mk m q w) =
    some (.inl (some (.int (iI s0))), (mk m q w, (0, 0))) := by
  exact k_rtI rfl rfl
theorem e_261 {d : Nat} (hd : 1 ≤ d) {a0 a1 a2 a3 : Value} (M : rMem) (h0 : a0.category = 1) (h1 : a1.category = 1) (h2 : a2.category = 1) (h3 : a3.category = 1) : ev d 261 [a0, a1, a2, a3] M = gv (d - 1) rR261 0 [some a0, some a1, some a2, some a3, none, none, none, none, none] [] M := ev_at hd q_261 rfl (by simp [*]) rfl
/-! FanHouseModel.draws(I)I -/
theorem b_262_0 {d : Nat} {m : Nat → Nat → Int} {q : Nat → Nat → Option Nat} {w : Option (Nat → Int64)} {v1 : Int}  (g0 : iI v1 ≠ 0) : gv d rR262 0 [some (.ref 363), some (.int (iI v1))] [] (mk m q w) =
    some (.inl (some (.int (iI (zRem (zAnd (zShr ((wr m 363 50 (((m 363 50) * (((1103515245 : Nat) : Int))) + 12345)) 363 50) 16) 32767) v1)))), (mk (wr m 363 50 (((m 363 50) * (((1103515245 : Nat) : Int))) + 12345)) q w, (0, 0))) := by
  refine Eq.trans (k_ald0 rfl) ?_
  refine Eq.trans (k_ald0 rfl) ?_
  refine Eq.trans (k_gtI rfl s_363 rfl (by decide)) ?_
  refine Eq.trans (k_ldwi rfl) ?_
  refine Eq.trans (k_mul rfl) ?_
  refine Eq.trans (k_sip rfl (by decide)) ?_
  refine Eq.trans (k_add rfl) ?_
  refine Eq.trans (k_ptI rfl s_363 rfl rfl) ?_
  refine Eq.trans (k_ald0 rfl) ?_
  refine Eq.trans (k_gtI rfl s_363 rfl (by decide)) ?_
  refine Eq.trans (k_bip rfl (by decide)) ?_
  refine Eq.trans (k_shr rfl) ?_
  refine Eq.trans (k_sip rfl (by decide)) ?_
  refine Eq.trans (k_and rfl) ?_
  refine Eq.trans (k_ild1 rfl) ?_
  refine Eq.trans (k_rem rfl g0) ?_
  exact k_rtI rfl rfl
theorem e_262 {d : Nat} (hd : 1 ≤ d) {a0 a1 : Value} (M : rMem) (h0 : a0.category = 1) (h1 : a1.category = 1) : ev d 262 [a0, a1] M = gv (d - 1) rR262 0 [some a0, some a1] [] M := ev_at hd q_262 rfl (by simp [*]) rfl
/-! FanHouseModel.actGoes(I)V -/
theorem b_263_0 {d : Nat} {m : Nat → Nat → Int} {q : Nat → Nat → Option Nat} {w : Option (Nat → Int64)} {u2 u3 : Option Value} {v1 : Int}   : gv d rR263 0 [some (.ref 363), some (.int (iI v1)), u2, u3] [] (mk m q w) =
    if iI v1 = iI 0 then (rBd (ev d 262 [.ref 363, .int (iI 4)] (mk m q w)) (fun v M' => gv d rR263 9 [some (.ref 363), some (.int (iI v1)), u2, u3] (v.toList ++ []) M')) else (if iI v1 = iI 2 then (gv d rR263 27 [some (.ref 363), some (.int (iI v1)), u2, u3] [] (mk m q w)) else (if iI v1 = iI 3 then (gv d rR263 27 [some (.ref 363), some (.int (iI v1)), u2, u3] [] (mk m q w)) else (if iI v1 = iI 4 then (gv d rR263 27 [some (.ref 363), some (.int (iI v1)), u2, u3] [] (mk m q w)) else (gv d rR263 39 [some (.ref 363), some (.int (iI v1)), u2, u3] [.int (iI 0)] (mk m q w))))) := by
  refine Eq.trans (k_ild1 rfl) ?_
  refine Eq.trans (k_i1ne rfl rfl) ?_
  refine ifc ?_ ?_
  · refine Eq.trans (k_ald0 rfl) ?_
    refine Eq.trans (k_con rfl) ?_
    exact k_cV1 rfl s_363 q_262 rfl rfl rfl (bl rfl)
  · refine Eq.trans (k_ild1 rfl) ?_
    refine Eq.trans (k_con rfl) ?_
    refine Eq.trans (k_i2eq rfl rfl) ?_
    refine ifc ?_ ?_
    · exact rfl
    · refine Eq.trans (k_ild1 rfl) ?_
      refine Eq.trans (k_con rfl) ?_
      refine Eq.trans (k_i2eq rfl rfl) ?_
      refine ifc ?_ ?_
      · exact rfl
      · refine Eq.trans (k_ild1 rfl) ?_
        refine Eq.trans (k_con rfl) ?_
        refine Eq.trans (k_i2ne rfl rfl) ?_
        refine ifc ?_ ?_
        · exact rfl
        · refine Eq.trans (k_con rfl) ?_
          exact rfl
theorem b_263_9 {d : Nat} {m : Nat → Nat → Int} {q : Nat → Nat → Option Nat} {w : Option (Nat → Int64)} {u2 u3 : Option Value} {v1 s0 : Int}   : gv d rR263 9 [some (.ref 363), some (.int (iI v1)), u2, u3] [.int (iI s0)] (mk m q w) =
    gv d rR263 39 [some (.ref 363), some (.int (iI v1)), u2, u3] [.int (iI s0)] (mk m q w) := by
  refine Eq.trans (k_go rfl rfl) ?_
  exact rfl
theorem b_263_27 {d : Nat} {m : Nat → Nat → Int} {q : Nat → Nat → Option Nat} {w : Option (Nat → Int64)} {u2 u3 : Option Value} {v1 : Int}   : gv d rR263 27 [some (.ref 363), some (.int (iI v1)), u2, u3] [] (mk m q w) =
    rBd (ev d 262 [.ref 363, .int (iI (m 363 15))] (mk m q w)) (fun v M' => gv d rR263 35 [some (.ref 363), some (.int (iI v1)), u2, u3] (v.toList ++ []) M') := by
  refine Eq.trans (k_ald0 rfl) ?_
  refine Eq.trans (k_ald0 rfl) ?_
  refine Eq.trans (k_gtI rfl s_363 rfl (by decide)) ?_
  exact k_cV1 rfl s_363 q_262 rfl rfl rfl (bl rfl)
theorem b_263_35 {d : Nat} {m : Nat → Nat → Int} {q : Nat → Nat → Option Nat} {w : Option (Nat → Int64)} {u2 u3 : Option Value} {v1 s0 : Int}   : gv d rR263 35 [some (.ref 363), some (.int (iI v1)), u2, u3] [.int (iI s0)] (mk m q w) =
    gv d rR263 39 [some (.ref 363), some (.int (iI v1)), u2, u3] [.int (iI s0)] (mk m q w) := by
  refine Eq.trans (k_go rfl rfl) ?_
  exact rfl
theorem b_263_39 {d : Nat} {m : Nat → Nat → Int} {q : Nat → Nat → Option Nat} {w : Option (Nat → Int64)} {u2 u3 : Option Value} {v1 s0 : Int}   : gv d rR263 39 [some (.ref 363), some (.int (iI v1)), u2, u3] [.int (iI s0)] (mk m q w) =
    if iI v1 = iI 0 then (rBd (ev d 262 [.ref 363, .int (iI (m 363 15))] (mk m q w)) (fun v M' => gv d rR263 52 [some (.ref 363), some (.int (iI v1)), some (.int (iI s0)), u3] (v.toList ++ []) M')) else (if iI v1 = iI 2 then (rBd (ev d 262 [.ref 363, .int (iI (m 363 15))] (mk m q w)) (fun v M' => gv d rR263 70 [some (.ref 363), some (.int (iI v1)), some (.int (iI s0)), u3] (v.toList ++ []) M')) else (if iI v1 = iI 4 then (rBd (ev d 262 [.ref 363, .int (iI 4)] (mk m q w)) (fun v M' => gv d rR263 83 [some (.ref 363), some (.int (iI v1)), some (.int (iI s0)), u3] (v.toList ++ []) M')) else (gv d rR263 87 [some (.ref 363), some (.int (iI v1)), some (.int (iI s0)), u3] [.int (iI 0)] (mk m q w)))) := by
  refine Eq.trans (k_ist2 rfl) ?_
  refine Eq.trans (k_ild1 rfl) ?_
  refine Eq.trans (k_i1ne rfl rfl) ?_
  refine ifc ?_ ?_
  · refine Eq.trans (k_ald0 rfl) ?_
    refine Eq.trans (k_ald0 rfl) ?_
    refine Eq.trans (k_gtI rfl s_363 rfl (by decide)) ?_
    exact k_cV1 rfl s_363 q_262 rfl rfl rfl (bl rfl)
  · refine Eq.trans (k_ild1 rfl) ?_
    refine Eq.trans (k_con rfl) ?_
    refine Eq.trans (k_i2ne rfl rfl) ?_
    refine ifc ?_ ?_
    · refine Eq.trans (k_ald0 rfl) ?_
      refine Eq.trans (k_ald0 rfl) ?_
      refine Eq.trans (k_gtI rfl s_363 rfl (by decide)) ?_
      exact k_cV1 rfl s_363 q_262 rfl rfl rfl (bl rfl)
    · refine Eq.trans (k_ild1 rfl) ?_
      refine Eq.trans (k_con rfl) ?_
      refine Eq.trans (k_i2ne rfl rfl) ?_
      refine ifc ?_ ?_
      · refine Eq.trans (k_ald0 rfl) ?_
        refine Eq.trans (k_con rfl) ?_
        exact k_cV1 rfl s_363 q_262 rfl rfl rfl (bl rfl)
      · refine Eq.trans (k_con rfl) ?_
        exact rfl
theorem b_263_52 {d : Nat} {m : Nat → Nat → Int} {q : Nat → Nat → Option Nat} {w : Option (Nat → Int64)} {u3 : Option Value} {v1 v2 s0 : Int}   : gv d rR263 52 [some (.ref 363), some (.int (iI v1)), some (.int (iI v2)), u3] [.int (iI s0)] (mk m q w) =
    gv d rR263 87 [some (.ref 363), some (.int (iI v1)), some (.int (iI v2)), u3] [.int (iI (s0 + 1))] (mk m q w) := by
  refine Eq.trans (k_con rfl) ?_
  refine Eq.trans (k_add rfl) ?_
  refine Eq.trans (k_go rfl rfl) ?_
  exact rfl
theorem b_263_70 {d : Nat} {m : Nat → Nat → Int} {q : Nat → Nat → Option Nat} {w : Option (Nat → Int64)} {u3 : Option Value} {v1 v2 s0 : Int}   : gv d rR263 70 [some (.ref 363), some (.int (iI v1)), some (.int (iI v2)), u3] [.int (iI s0)] (mk m q w) =
    gv d rR263 87 [some (.ref 363), some (.int (iI v1)), some (.int (iI v2)), u3] [.int (iI s0)] (mk m q w) := by
  refine Eq.trans (k_go rfl rfl) ?_
  exact rfl
theorem b_263_83 {d : Nat} {m : Nat → Nat → Int} {q : Nat → Nat → Option Nat} {w : Option (Nat → Int64)} {u3 : Option Value} {v1 v2 s0 : Int}   : gv d rR263 83 [some (.ref 363), some (.int (iI v1)), some (.int (iI v2)), u3] [.int (iI s0)] (mk m q w) =
    gv d rR263 87 [some (.ref 363), some (.int (iI v1)), some (.int (iI v2)), u3] [.int (iI s0)] (mk m q w) := by
  refine Eq.trans (k_go rfl rfl) ?_
  exact rfl
theorem b_263_87 {d : Nat} {m : Nat → Nat → Int} {q : Nat → Nat → Option Nat} {w : Option (Nat → Int64)} {u3 : Option Value} {v1 v2 s0 : Int}   : gv d rR263 87 [some (.ref 363), some (.int (iI v1)), some (.int (iI v2)), u3] [.int (iI s0)] (mk m q w) =
    if iI v1 = iI 4 then (rBd (ev d 262 [.ref 363, .int (iI 16)] (mk m q w)) (fun v M' => gv d rR263 103 [some (.ref 363), some (.int (iI v1)), some (.int (iI v2)), some (.int (iI s0))] (v.toList ++ [.int (iI s0), .int (iI v2), .int (iI v1), .ref 363]) M')) else (gv d rR263 107 [some (.ref 363), some (.int (iI v1)), some (.int (iI v2)), some (.int (iI s0))] [.int (iI 0), .int (iI s0), .int (iI v2), .int (iI v1), .ref 363] (mk m q w)) := by
  refine Eq.trans (k_ist3 rfl) ?_
  refine Eq.trans (k_ald0 rfl) ?_
  refine Eq.trans (k_ild1 rfl) ?_
  refine Eq.trans (k_ild2 rfl) ?_
  refine Eq.trans (k_ild3 rfl) ?_
  refine Eq.trans (k_ild1 rfl) ?_
  refine Eq.trans (k_con rfl) ?_
  refine Eq.trans (k_i2ne rfl rfl) ?_
  refine ifc ?_ ?_
  · refine Eq.trans (k_ald0 rfl) ?_
    refine Eq.trans (k_bip rfl (by decide)) ?_
    exact k_cV1 rfl s_363 q_262 rfl rfl rfl (bl rfl)
  · refine Eq.trans (k_con rfl) ?_
    exact rfl
theorem b_263_103 {d : Nat} {m : Nat → Nat → Int} {q : Nat → Nat → Option Nat} {w : Option (Nat → Int64)} {u0 u1 u2 u3 : Option Value} {s1 s2 s3 s4 : Int}   : gv d rR263 103 [u0, u1, u2, u3] [.int (iI s4), .int (iI s3), .int (iI s2), .int (iI s1), .ref 363] (mk m q w) =
    gv d rR263 107 [u0, u1, u2, u3] [.int (iI s4), .int (iI s3), .int (iI s2), .int (iI s1), .ref 363] (mk m q w) := by
  refine Eq.trans (k_go rfl rfl) ?_
  exact rfl
theorem b_263_107 {d : Nat} {m : Nat → Nat → Int} {q : Nat → Nat → Option Nat} {w : Option (Nat → Int64)} {u0 u1 u2 u3 : Option Value} {s1 s2 s3 s4 : Int}   : gv d rR263 107 [u0, u1, u2, u3] [.int (iI s4), .int (iI s3), .int (iI s2), .int (iI s1), .ref 363] (mk m q w) =
    rBd (ev d 213 [.ref 363, .int (iI s1), .int (iI s2), .int (iI s3), .int (iI s4)] (mk m q w)) (fun v M' => gv d rR263 110 [u0, u1, u2, u3] (v.toList ++ []) M') := by
  exact k_cV4 rfl s_363 q_213 rfl rfl rfl (bl rfl)
theorem b_263_110 {d : Nat} {m : Nat → Nat → Int} {q : Nat → Nat → Option Nat} {w : Option (Nat → Int64)} {u0 u1 u2 u3 : Option Value} {s0 : Int}   : gv d rR263 110 [u0, u1, u2, u3] [.int (iI s0)] (mk m q w) =
    some (.inl none, (mk m q w, (0, 0))) := by
  refine Eq.trans (k_pop rfl rfl) ?_
  exact k_rtV rfl rfl
theorem e_263 {d : Nat} (hd : 1 ≤ d) {a0 a1 : Value} (M : rMem) (h0 : a0.category = 1) (h1 : a1.category = 1) : ev d 263 [a0, a1] M = gv (d - 1) rR263 0 [some a0, some a1, none, none] [] M := ev_at hd q_263 rfl (by simp [*]) rfl
/-! FanHouseModel.yearGoes(III)V -/
theorem b_264_0 {d : Nat} {m : Nat → Nat → Int} {q : Nat → Nat → Option Nat} {w : Option (Nat → Int64)} {u4 : Option Value} {v1 v2 v3 : Int}   : gv d rR264 0 [some (.ref 363), some (.int (iI v1)), some (.int (iI v2)), some (.int (iI v3)), u4] [] (mk m q w) =
    rBd (ev d 200 [.ref 363] (mk m q w)) (fun v M' => gv d rR264 4 [some (.ref 363), some (.int (iI v1)), some (.int (iI v2)), some (.int (iI v3)), u4] (v.toList ++ []) M') := by
  refine Eq.trans (k_ald0 rfl) ?_
  exact k_cV0 rfl s_363 q_200 rfl rfl rfl (bl rfl)
theorem b_264_4 {d : Nat} {m : Nat → Nat → Int} {q : Nat → Nat → Option Nat} {w : Option (Nat → Int64)} {u4 : Option Value} {v1 v2 v3 : Int}   : gv d rR264 4 [some (.ref 363), some (.int (iI v1)), some (.int (iI v2)), some (.int (iI v3)), u4] [] (mk m q w) =
    gv d rR264 12 [some (.ref 363), some (.int (iI v1)), some (.int (iI v2)), some (.int (iI v3)), some (.int (iI 0))] [] (mk (wr m 363 50 v1) q w) := by
  refine Eq.trans (k_ald0 rfl) ?_
  refine Eq.trans (k_ild1 rfl) ?_
  refine Eq.trans (k_ptI rfl s_363 rfl rfl) ?_
  refine Eq.trans (k_con rfl) ?_
  refine Eq.trans (k_ist4 rfl) ?_
  exact rfl
theorem b_264_12 {d : Nat} {m : Nat → Nat → Int} {q : Nat → Nat → Option Nat} {w : Option (Nat → Int64)} {u1 : Option Value} {v2 v3 v4 : Int}   : gv d rR264 12 [some (.ref 363), u1, some (.int (iI v2)), some (.int (iI v3)), some (.int (iI v4))] [] (mk m q w) =
    if iI v4 < iI (4 * v3) then (rBd (ev d 262 [.ref 363, .int (iI 16)] (mk m q w)) (fun v M' => gv d rR264 26 [some (.ref 363), u1, some (.int (iI v2)), some (.int (iI v3)), some (.int (iI v4))] (v.toList ++ []) M')) else (some (.inl none, (mk m q w, (0, 0)))) := by
  refine Eq.trans (k_ild4 rfl) ?_
  refine Eq.trans (k_con rfl) ?_
  refine Eq.trans (k_ild3 rfl) ?_
  refine Eq.trans (k_mul rfl) ?_
  refine Eq.trans (k_i2ge rfl rfl) ?_
  refine ifc ?_ ?_
  · refine Eq.trans (k_ald0 rfl) ?_
    refine Eq.trans (k_bip rfl (by decide)) ?_
    exact k_cV1 rfl s_363 q_262 rfl rfl rfl (bl rfl)
  · exact k_rtV rfl rfl
theorem b_264_26 {d : Nat} {m : Nat → Nat → Int} {q : Nat → Nat → Option Nat} {w : Option (Nat → Int64)} {u1 : Option Value} {v2 v3 v4 s0 : Int}   : gv d rR264 26 [some (.ref 363), u1, some (.int (iI v2)), some (.int (iI v3)), some (.int (iI v4))] [.int (iI s0)] (mk m q w) =
    if iI s0 < iI v2 then (if iI 0 < iI (m 363 15) then (rBd (ev d 262 [.ref 363, .int (iI 6)] (mk m q w)) (fun v M' => gv d rR264 44 [some (.ref 363), u1, some (.int (iI v2)), some (.int (iI v3)), some (.int (iI v4))] (v.toList ++ [.ref 363]) M')) else (gv d rR264 47 [some (.ref 363), u1, some (.int (iI v2)), some (.int (iI v3)), some (.int (iI v4))] [] (mk m q w))) else (gv d rR264 47 [some (.ref 363), u1, some (.int (iI v2)), some (.int (iI v3)), some (.int (iI v4))] [] (mk m q w)) := by
  refine Eq.trans (k_ild2 rfl) ?_
  refine Eq.trans (k_i2ge rfl rfl) ?_
  refine ifc ?_ ?_
  · refine Eq.trans (k_ald0 rfl) ?_
    refine Eq.trans (k_gtI rfl s_363 rfl (by decide)) ?_
    refine Eq.trans (k_i1le rfl rfl) ?_
    refine ifc ?_ ?_
    · refine Eq.trans (k_ald0 rfl) ?_
      refine Eq.trans (k_ald0 rfl) ?_
      refine Eq.trans (k_bip rfl (by decide)) ?_
      exact k_cV1 rfl s_363 q_262 rfl rfl rfl (bl rfl)
    · exact rfl
  · exact rfl
theorem b_264_44 {d : Nat} {m : Nat → Nat → Int} {q : Nat → Nat → Option Nat} {w : Option (Nat → Int64)} {u1 : Option Value} {v2 v3 v4 s1 : Int}   : gv d rR264 44 [some (.ref 363), u1, some (.int (iI v2)), some (.int (iI v3)), some (.int (iI v4))] [.int (iI s1), .ref 363] (mk m q w) =
    rBd (ev d 263 [.ref 363, .int (iI s1)] (mk m q w)) (fun v M' => gv d rR264 47 [some (.ref 363), u1, some (.int (iI v2)), some (.int (iI v3)), some (.int (iI v4))] (v.toList ++ []) M') := by
  exact k_cV1 rfl s_363 q_263 rfl rfl rfl (bl rfl)
theorem b_264_47 {d : Nat} {m : Nat → Nat → Int} {q : Nat → Nat → Option Nat} {w : Option (Nat → Int64)} {u1 : Option Value} {v2 v3 v4 : Int}   : gv d rR264 47 [some (.ref 363), u1, some (.int (iI v2)), some (.int (iI v3)), some (.int (iI v4))] [] (mk m q w) =
    if iI (zRem v4 4) = iI 3 then (rBd (ev d 212 [.ref 363] (mk m q w)) (fun v M' => gv d rR264 59 [some (.ref 363), u1, some (.int (iI v2)), some (.int (iI v3)), some (.int (iI v4))] (v.toList ++ []) M')) else (gv d rR264 59 [some (.ref 363), u1, some (.int (iI v2)), some (.int (iI v3)), some (.int (iI v4))] [] (mk m q w)) := by
  refine Eq.trans (k_ild4 rfl) ?_
  refine Eq.trans (k_con rfl) ?_
  refine Eq.trans (k_rem rfl (by decide)) ?_
  refine Eq.trans (k_con rfl) ?_
  refine Eq.trans (k_i2ne rfl rfl) ?_
  refine ifc ?_ ?_
  · refine Eq.trans (k_ald0 rfl) ?_
    exact k_cV0 rfl s_363 q_212 rfl rfl rfl (bl rfl)
  · exact rfl
theorem b_264_59 {d : Nat} {m : Nat → Nat → Int} {q : Nat → Nat → Option Nat} {w : Option (Nat → Int64)} {u1 : Option Value} {v2 v3 v4 : Int}   : gv d rR264 59 [some (.ref 363), u1, some (.int (iI v2)), some (.int (iI v3)), some (.int (iI v4))] [] (mk m q w) =
    gv d rR264 12 [some (.ref 363), u1, some (.int (iI v2)), some (.int (iI v3)), some (.int (iI (v4 + 1)))] [] (mk m q w) := by
  refine Eq.trans (k_inc4 rfl) ?_
  refine Eq.trans (k_go rfl rfl) ?_
  exact rfl
theorem e_264 {d : Nat} (hd : 1 ≤ d) {a0 a1 a2 a3 : Value} (M : rMem) (h0 : a0.category = 1) (h1 : a1.category = 1) (h2 : a2.category = 1) (h3 : a3.category = 1) : ev d 264 [a0, a1, a2, a3] M = gv (d - 1) rR264 0 [some a0, some a1, some a2, some a3, none] [] M := ev_at hd q_264 rfl (by simp [*]) rfl
/-! FanHouseModel.isYear(II)Z -/
theorem b_265_0 {d : Nat} {m : Nat → Nat → Int} {q : Nat → Nat → Option Nat} {w : Option (Nat → Int64)} {v0 v1 : Int}   : gv d rR265 0 [some (.int (iI v0)), some (.int (iI v1))] [] (mk m q w) =
    if iI v0 < iI 0 then (gv d rR265 25 [some (.int (iI v0)), some (.int (iI v1))] [] (mk m q w)) else (if iI 16 < iI v0 then (gv d rR265 25 [some (.int (iI v0)), some (.int (iI v1))] [] (mk m q w)) else (if iI v1 < iI 1 then (gv d rR265 25 [some (.int (iI v0)), some (.int (iI v1))] [] (mk m q w)) else (if iI 48 < iI v1 then (gv d rR265 25 [some (.int (iI v0)), some (.int (iI v1))] [] (mk m q w)) else (gv d rR265 26 [some (.int (iI v0)), some (.int (iI v1))] [.int (iI 1)] (mk m q w))))) := by
  refine Eq.trans (k_ild0 rfl) ?_
  refine Eq.trans (k_i1lt rfl rfl) ?_
  refine ifc ?_ ?_
  · exact rfl
  · refine Eq.trans (k_ild0 rfl) ?_
    refine Eq.trans (k_bip rfl (by decide)) ?_
    refine Eq.trans (k_i2gt rfl rfl) ?_
    refine ifc ?_ ?_
    · exact rfl
    · refine Eq.trans (k_ild1 rfl) ?_
      refine Eq.trans (k_con rfl) ?_
      refine Eq.trans (k_i2lt rfl rfl) ?_
      refine ifc ?_ ?_
      · exact rfl
      · refine Eq.trans (k_ild1 rfl) ?_
        refine Eq.trans (k_bip rfl (by decide)) ?_
        refine Eq.trans (k_i2gt rfl rfl) ?_
        refine ifc ?_ ?_
        · exact rfl
        · refine Eq.trans (k_con rfl) ?_
          refine Eq.trans (k_go rfl rfl) ?_
          exact rfl
theorem b_265_25 {d : Nat} {m : Nat → Nat → Int} {q : Nat → Nat → Option Nat} {w : Option (Nat → Int64)} {u0 u1 : Option Value}   : gv d rR265 25 [u0, u1] [] (mk m q w) =
    gv d rR265 26 [u0, u1] [.int (iI 0)] (mk m q w) := by
  refine Eq.trans (k_con rfl) ?_
  exact rfl
theorem b_265_26 {d : Nat} {m : Nat → Nat → Int} {q : Nat → Nat → Option Nat} {w : Option (Nat → Int64)} {u0 u1 : Option Value} {s0 : Int}  (g0 : iI s0 = iI 0 ∨ iI s0 = iI 1) : gv d rR265 26 [u0, u1] [.int (iI s0)] (mk m q w) =
    some (.inl (some (.int (iI s0))), (mk m q w, (0, 0))) := by
  exact k_rtZ rfl rfl g0
theorem e_265 {d : Nat} (hd : 1 ≤ d) {a0 a1 : Value} (M : rMem) (h0 : a0.category = 1) (h1 : a1.category = 1) : ev d 265 [a0, a1] M = gv (d - 1) rR265 0 [some a0, some a1] [] M := ev_at hd q_265 rfl (by simp [*]) rfl
/-! FanHouseModel.year(IIII)I -/
theorem b_266_0 {d : Nat} {m : Nat → Nat → Int} {q : Nat → Nat → Option Nat} {w : Option (Nat → Int64)} {v1 v2 v3 v4 : Int}   : gv d rR266 0 [some (.ref 363), some (.int (iI v1)), some (.int (iI v2)), some (.int (iI v3)), some (.int (iI v4))] [] (mk m q w) =
    rBd (ev d 265 [.int (iI v2), .int (iI v3)] (mk (wr m 363 0 0) q w)) (fun v M' => gv d rR266 11 [some (.ref 363), some (.int (iI v1)), some (.int (iI v2)), some (.int (iI v3)), some (.int (iI v4))] (v.toList ++ [.ref 363]) M') := by
  refine Eq.trans (k_ald0 rfl) ?_
  refine Eq.trans (k_con rfl) ?_
  refine Eq.trans (k_ptI rfl s_363 rfl rfl) ?_
  refine Eq.trans (k_ald0 rfl) ?_
  refine Eq.trans (k_ild2 rfl) ?_
  refine Eq.trans (k_ild3 rfl) ?_
  exact k_cS2 rfl (by decide) q_265 rfl rfl (bl rfl)
theorem b_266_11 {d : Nat} {m : Nat → Nat → Int} {q : Nat → Nat → Option Nat} {w : Option (Nat → Int64)} {v1 v2 v3 v4 s1 : Int}   : gv d rR266 11 [some (.ref 363), some (.int (iI v1)), some (.int (iI v2)), some (.int (iI v3)), some (.int (iI v4))] [.int (iI s1), .ref 363] (mk m q w) =
    if iI s1 = iI 0 then (gv d rR266 28 [some (.ref 363), some (.int (iI v1)), some (.int (iI v2)), some (.int (iI v3)), some (.int (iI v4))] [.ref 363] (mk m q w)) else (rBd (ev d 161 [.int (iI v4), .int (iI 0), .int (iI 3)] (mk m q w)) (fun v M' => gv d rR266 21 [some (.ref 363), some (.int (iI v1)), some (.int (iI v2)), some (.int (iI v3)), some (.int (iI v4))] (v.toList ++ [.ref 363]) M')) := by
  refine Eq.trans (k_i1eq rfl rfl) ?_
  refine ifc ?_ ?_
  · exact rfl
  · refine Eq.trans (k_ild4 rfl) ?_
    refine Eq.trans (k_con rfl) ?_
    refine Eq.trans (k_con rfl) ?_
    exact k_cS3 rfl (by decide) q_161 rfl rfl (bl rfl)
theorem b_266_21 {d : Nat} {m : Nat → Nat → Int} {q : Nat → Nat → Option Nat} {w : Option (Nat → Int64)} {v1 v2 v3 v4 s1 : Int}   : gv d rR266 21 [some (.ref 363), some (.int (iI v1)), some (.int (iI v2)), some (.int (iI v3)), some (.int (iI v4))] [.int (iI s1), .ref 363] (mk m q w) =
    if iI s1 = iI 0 then (gv d rR266 28 [some (.ref 363), some (.int (iI v1)), some (.int (iI v2)), some (.int (iI v3)), some (.int (iI v4))] [.ref 363] (mk m q w)) else (gv d rR266 29 [some (.ref 363), some (.int (iI v1)), some (.int (iI v2)), some (.int (iI v3)), some (.int (iI v4))] [.int (iI 1), .ref 363] (mk m q w)) := by
  refine Eq.trans (k_i1eq rfl rfl) ?_
  refine ifc ?_ ?_
  · exact rfl
  · refine Eq.trans (k_con rfl) ?_
    refine Eq.trans (k_go rfl rfl) ?_
    exact rfl
theorem b_266_28 {d : Nat} {m : Nat → Nat → Int} {q : Nat → Nat → Option Nat} {w : Option (Nat → Int64)} {v1 v2 v3 v4 : Int}   : gv d rR266 28 [some (.ref 363), some (.int (iI v1)), some (.int (iI v2)), some (.int (iI v3)), some (.int (iI v4))] [.ref 363] (mk m q w) =
    gv d rR266 29 [some (.ref 363), some (.int (iI v1)), some (.int (iI v2)), some (.int (iI v3)), some (.int (iI v4))] [.int (iI 0), .ref 363] (mk m q w) := by
  refine Eq.trans (k_con rfl) ?_
  exact rfl
theorem b_266_29 {d : Nat} {m : Nat → Nat → Int} {q : Nat → Nat → Option Nat} {w : Option (Nat → Int64)} {v1 v2 v3 v4 s1 : Int}   : gv d rR266 29 [some (.ref 363), some (.int (iI v1)), some (.int (iI v2)), some (.int (iI v3)), some (.int (iI v4))] [.int (iI s1), .ref 363] (mk m q w) =
    rBd (ev d 160 [.ref 363, .int (iI s1), .int (iI 1), .int (iI 1)] (mk m q w)) (fun v M' => gv d rR266 34 [some (.ref 363), some (.int (iI v1)), some (.int (iI v2)), some (.int (iI v3)), some (.int (iI v4))] (v.toList ++ []) M') := by
  refine Eq.trans (k_con rfl) ?_
  refine Eq.trans (k_con rfl) ?_
  exact k_cV3 rfl s_363 q_160 rfl rfl rfl (bl rfl)
theorem b_266_34 {d : Nat} {m : Nat → Nat → Int} {q : Nat → Nat → Option Nat} {w : Option (Nat → Int64)} {v1 v2 v3 v4 s0 : Int}   : gv d rR266 34 [some (.ref 363), some (.int (iI v1)), some (.int (iI v2)), some (.int (iI v3)), some (.int (iI v4))] [.int (iI s0)] (mk m q w) =
    if iI s0 = iI 0 then (some (.inl (some (.int (iI 0))), (mk m q w, (0, 0)))) else (rBd (ev d 264 [.ref 363, .int (iI v1), .int (iI v2), .int (iI v3)] (mk m q w)) (fun v M' => gv d rR266 46 [some (.ref 363), some (.int (iI v1)), some (.int (iI v2)), some (.int (iI v3)), some (.int (iI v4))] (v.toList ++ []) M')) := by
  refine Eq.trans (k_i1ne rfl rfl) ?_
  refine ifc ?_ ?_
  · refine Eq.trans (k_con rfl) ?_
    exact k_rtI rfl rfl
  · refine Eq.trans (k_ald0 rfl) ?_
    refine Eq.trans (k_ild1 rfl) ?_
    refine Eq.trans (k_ild2 rfl) ?_
    refine Eq.trans (k_ild3 rfl) ?_
    exact k_cV3 rfl s_363 q_264 rfl rfl rfl (bl rfl)
theorem b_266_46 {d : Nat} {m : Nat → Nat → Int} {q : Nat → Nat → Option Nat} {w : Option (Nat → Int64)} {u1 u2 u3 : Option Value} {v4 : Int}   : gv d rR266 46 [some (.ref 363), u1, u2, u3, some (.int (iI v4))] [] (mk m q w) =
    if iI v4 = iI 0 then (gv d rR266 105 [some (.ref 363), u1, u2, u3, some (.int (iI v4))] [.int (iI ((m 377 44) - (m 376 44)))] (mk m q w)) else (if iI v4 = iI 1 then (gv d rR266 105 [some (.ref 363), u1, u2, u3, some (.int (iI v4))] [.int (iI (m 377 42))] (mk m q w)) else (if iI v4 = iI 2 then (gv d rR266 105 [some (.ref 363), u1, u2, u3, some (.int (iI v4))] [.int (iI (m 377 43))] (mk m q w)) else (rBd (ev d 221 [.ref 363] (mk m q w)) (fun v M' => gv d rR266 105 [some (.ref 363), u1, u2, u3, some (.int (iI v4))] (v.toList ++ []) M')))) := by
  refine Eq.trans (k_ild4 rfl) ?_
  refine Eq.trans (k_i1ne rfl rfl) ?_
  refine ifc ?_ ?_
  · refine Eq.trans (k_ald0 rfl) ?_
    refine Eq.trans (k_gtR rfl s_363 rfl (by decide)) ?_
    refine Eq.trans (k_bip rfl (by decide)) ?_
    refine Eq.trans (k_iald rfl s_377 (bl rfl) (by decide) (by decide)) ?_
    refine Eq.trans (k_ald0 rfl) ?_
    refine Eq.trans (k_gtR rfl s_363 rfl (by decide)) ?_
    refine Eq.trans (k_bip rfl (by decide)) ?_
    refine Eq.trans (k_iald rfl s_376 (bl rfl) (by decide) (by decide)) ?_
    refine Eq.trans (k_sub rfl) ?_
    refine Eq.trans (k_go rfl rfl) ?_
    exact rfl
  · refine Eq.trans (k_ild4 rfl) ?_
    refine Eq.trans (k_con rfl) ?_
    refine Eq.trans (k_i2ne rfl rfl) ?_
    refine ifc ?_ ?_
    · refine Eq.trans (k_ald0 rfl) ?_
      refine Eq.trans (k_gtR rfl s_363 rfl (by decide)) ?_
      refine Eq.trans (k_bip rfl (by decide)) ?_
      refine Eq.trans (k_iald rfl s_377 (bl rfl) (by decide) (by decide)) ?_
      refine Eq.trans (k_go rfl rfl) ?_
      exact rfl
    · refine Eq.trans (k_ild4 rfl) ?_
      refine Eq.trans (k_con rfl) ?_
      refine Eq.trans (k_i2ne rfl rfl) ?_
      refine ifc ?_ ?_
      · refine Eq.trans (k_ald0 rfl) ?_
        refine Eq.trans (k_gtR rfl s_363 rfl (by decide)) ?_
        refine Eq.trans (k_bip rfl (by decide)) ?_
        refine Eq.trans (k_iald rfl s_377 (bl rfl) (by decide) (by decide)) ?_
        refine Eq.trans (k_go rfl rfl) ?_
        exact rfl
      · refine Eq.trans (k_ald0 rfl) ?_
        exact k_cV0 rfl s_363 q_221 rfl rfl rfl (bl rfl)
theorem b_266_105 {d : Nat} {m : Nat → Nat → Int} {q : Nat → Nat → Option Nat} {w : Option (Nat → Int64)} {u0 u1 u2 u3 u4 : Option Value} {s0 : Int}   : gv d rR266 105 [u0, u1, u2, u3, u4] [.int (iI s0)] (mk m q w) =
    some (.inl (some (.int (iI s0))), (mk m q w, (0, 0))) := by
  exact k_rtI rfl rfl
theorem e_266 {d : Nat} (hd : 1 ≤ d) {a0 a1 a2 a3 a4 : Value} (M : rMem) (h0 : a0.category = 1) (h1 : a1.category = 1) (h2 : a2.category = 1) (h3 : a3.category = 1) (h4 : a4.category = 1) : ev d 266 [a0, a1, a2, a3, a4] M = gv (d - 1) rR266 0 [some a0, some a1, some a2, some a3, some a4] [] M := ev_at hd q_266 rfl (by simp [*]) rfl
/-! FanHouseModel.span(IIIII)I -/
theorem b_267_0 {d : Nat} {m : Nat → Nat → Int} {q : Nat → Nat → Option Nat} {w : Option (Nat → Int64)} {u6 u7 u8 u9 u10 : Option Value} {v1 v2 v3 v4 v5 : Int}   : gv d rR267 0 [some (.ref 363), some (.int (iI v1)), some (.int (iI v2)), some (.int (iI v3)), some (.int (iI v4)), some (.int (iI v5)), u6, u7, u8, u9, u10] [] (mk m q w) =
    rBd (ev d 161 [.int (iI v2), .int (iI 1), .int (iI 10)] (mk (wr m 363 0 0) q w)) (fun v M' => gv d rR267 13 [some (.ref 363), some (.int (iI v1)), some (.int (iI v2)), some (.int (iI v3)), some (.int (iI v4)), some (.int (iI v5)), u6, u7, u8, u9, u10] (v.toList ++ [.ref 363]) M') := by
  refine Eq.trans (k_ald0 rfl) ?_
  refine Eq.trans (k_con rfl) ?_
  refine Eq.trans (k_ptI rfl s_363 rfl rfl) ?_
  refine Eq.trans (k_ald0 rfl) ?_
  refine Eq.trans (k_ild2 rfl) ?_
  refine Eq.trans (k_con rfl) ?_
  refine Eq.trans (k_bip rfl (by decide)) ?_
  exact k_cS3 rfl (by decide) q_161 rfl rfl (bl rfl)
theorem b_267_13 {d : Nat} {m : Nat → Nat → Int} {q : Nat → Nat → Option Nat} {w : Option (Nat → Int64)} {u6 u7 u8 u9 u10 : Option Value} {v1 v2 v3 v4 v5 s1 : Int}   : gv d rR267 13 [some (.ref 363), some (.int (iI v1)), some (.int (iI v2)), some (.int (iI v3)), some (.int (iI v4)), some (.int (iI v5)), u6, u7, u8, u9, u10] [.int (iI s1), .ref 363] (mk m q w) =
    if iI s1 = iI 0 then (gv d rR267 39 [some (.ref 363), some (.int (iI v1)), some (.int (iI v2)), some (.int (iI v3)), some (.int (iI v4)), some (.int (iI v5)), u6, u7, u8, u9, u10] [.ref 363] (mk m q w)) else (rBd (ev d 265 [.int (iI v3), .int (iI v4)] (mk m q w)) (fun v M' => gv d rR267 22 [some (.ref 363), some (.int (iI v1)), some (.int (iI v2)), some (.int (iI v3)), some (.int (iI v4)), some (.int (iI v5)), u6, u7, u8, u9, u10] (v.toList ++ [.ref 363]) M')) := by
  refine Eq.trans (k_i1eq rfl rfl) ?_
  refine ifc ?_ ?_
  · exact rfl
  · refine Eq.trans (k_ild3 rfl) ?_
    refine Eq.trans (k_ild4 rfl) ?_
    exact k_cS2 rfl (by decide) q_265 rfl rfl (bl rfl)
theorem b_267_22 {d : Nat} {m : Nat → Nat → Int} {q : Nat → Nat → Option Nat} {w : Option (Nat → Int64)} {u6 u7 u8 u9 u10 : Option Value} {v1 v2 v3 v4 v5 s1 : Int}   : gv d rR267 22 [some (.ref 363), some (.int (iI v1)), some (.int (iI v2)), some (.int (iI v3)), some (.int (iI v4)), some (.int (iI v5)), u6, u7, u8, u9, u10] [.int (iI s1), .ref 363] (mk m q w) =
    if iI s1 = iI 0 then (gv d rR267 39 [some (.ref 363), some (.int (iI v1)), some (.int (iI v2)), some (.int (iI v3)), some (.int (iI v4)), some (.int (iI v5)), u6, u7, u8, u9, u10] [.ref 363] (mk m q w)) else (rBd (ev d 161 [.int (iI v5), .int (iI 0), .int (iI 2)] (mk m q w)) (fun v M' => gv d rR267 32 [some (.ref 363), some (.int (iI v1)), some (.int (iI v2)), some (.int (iI v3)), some (.int (iI v4)), some (.int (iI v5)), u6, u7, u8, u9, u10] (v.toList ++ [.ref 363]) M')) := by
  refine Eq.trans (k_i1eq rfl rfl) ?_
  refine ifc ?_ ?_
  · exact rfl
  · refine Eq.trans (k_ild5 rfl) ?_
    refine Eq.trans (k_con rfl) ?_
    refine Eq.trans (k_con rfl) ?_
    exact k_cS3 rfl (by decide) q_161 rfl rfl (bl rfl)
theorem b_267_32 {d : Nat} {m : Nat → Nat → Int} {q : Nat → Nat → Option Nat} {w : Option (Nat → Int64)} {u6 u7 u8 u9 u10 : Option Value} {v1 v2 v3 v4 v5 s1 : Int}   : gv d rR267 32 [some (.ref 363), some (.int (iI v1)), some (.int (iI v2)), some (.int (iI v3)), some (.int (iI v4)), some (.int (iI v5)), u6, u7, u8, u9, u10] [.int (iI s1), .ref 363] (mk m q w) =
    if iI s1 = iI 0 then (gv d rR267 39 [some (.ref 363), some (.int (iI v1)), some (.int (iI v2)), some (.int (iI v3)), some (.int (iI v4)), some (.int (iI v5)), u6, u7, u8, u9, u10] [.ref 363] (mk m q w)) else (gv d rR267 40 [some (.ref 363), some (.int (iI v1)), some (.int (iI v2)), some (.int (iI v3)), some (.int (iI v4)), some (.int (iI v5)), u6, u7, u8, u9, u10] [.int (iI 1), .ref 363] (mk m q w)) := by
  refine Eq.trans (k_i1eq rfl rfl) ?_
  refine ifc ?_ ?_
  · exact rfl
  · refine Eq.trans (k_con rfl) ?_
    refine Eq.trans (k_go rfl rfl) ?_
    exact rfl
theorem b_267_39 {d : Nat} {m : Nat → Nat → Int} {q : Nat → Nat → Option Nat} {w : Option (Nat → Int64)} {u6 u7 u8 u9 u10 : Option Value} {v1 v2 v3 v4 v5 : Int}   : gv d rR267 39 [some (.ref 363), some (.int (iI v1)), some (.int (iI v2)), some (.int (iI v3)), some (.int (iI v4)), some (.int (iI v5)), u6, u7, u8, u9, u10] [.ref 363] (mk m q w) =
    gv d rR267 40 [some (.ref 363), some (.int (iI v1)), some (.int (iI v2)), some (.int (iI v3)), some (.int (iI v4)), some (.int (iI v5)), u6, u7, u8, u9, u10] [.int (iI 0), .ref 363] (mk m q w) := by
  refine Eq.trans (k_con rfl) ?_
  exact rfl
theorem b_267_40 {d : Nat} {m : Nat → Nat → Int} {q : Nat → Nat → Option Nat} {w : Option (Nat → Int64)} {u6 u7 u8 u9 u10 : Option Value} {v1 v2 v3 v4 v5 s1 : Int}   : gv d rR267 40 [some (.ref 363), some (.int (iI v1)), some (.int (iI v2)), some (.int (iI v3)), some (.int (iI v4)), some (.int (iI v5)), u6, u7, u8, u9, u10] [.int (iI s1), .ref 363] (mk m q w) =
    rBd (ev d 160 [.ref 363, .int (iI s1), .int (iI 1), .int (iI 1)] (mk m q w)) (fun v M' => gv d rR267 45 [some (.ref 363), some (.int (iI v1)), some (.int (iI v2)), some (.int (iI v3)), some (.int (iI v4)), some (.int (iI v5)), u6, u7, u8, u9, u10] (v.toList ++ []) M') := by
  refine Eq.trans (k_con rfl) ?_
  refine Eq.trans (k_con rfl) ?_
  exact k_cV3 rfl s_363 q_160 rfl rfl rfl (bl rfl)
theorem b_267_45 {d : Nat} {m : Nat → Nat → Int} {q : Nat → Nat → Option Nat} {w : Option (Nat → Int64)} {u6 u7 u8 u9 u10 : Option Value} {v1 v2 v3 v4 v5 s0 : Int}   : gv d rR267 45 [some (.ref 363), some (.int (iI v1)), some (.int (iI v2)), some (.int (iI v3)), some (.int (iI v4)), some (.int (iI v5)), u6, u7, u8, u9, u10] [.int (iI s0)] (mk m q w) =
    if iI s0 = iI 0 then (some (.inl (some (.int (iI 0))), (mk m q w, (0, 0)))) else (gv d rR267 62 [some (.ref 363), some (.int (iI v1)), some (.int (iI v2)), some (.int (iI v3)), some (.int (iI v4)), some (.int (iI v5)), some (.int (iI (-1))), some (.int (iI 0)), some (.int (iI 0)), some (.int (iI 0)), u10] [] (mk m q w)) := by
  refine Eq.trans (k_i1ne rfl rfl) ?_
  refine ifc ?_ ?_
  · refine Eq.trans (k_con rfl) ?_
    exact k_rtI rfl rfl
  · refine Eq.trans (k_con rfl) ?_
    refine Eq.trans (k_ist6 rfl) ?_
    refine Eq.trans (k_con rfl) ?_
    refine Eq.trans (k_ist7 rfl) ?_
    refine Eq.trans (k_con rfl) ?_
    refine Eq.trans (k_ist8 rfl) ?_
    refine Eq.trans (k_con rfl) ?_
    refine Eq.trans (k_ist9 rfl) ?_
    exact rfl
theorem b_267_62 {d : Nat} {m : Nat → Nat → Int} {q : Nat → Nat → Option Nat} {w : Option (Nat → Int64)} {u10 : Option Value} {v1 v2 v3 v4 v5 v6 v7 v8 v9 : Int}   : gv d rR267 62 [some (.ref 363), some (.int (iI v1)), some (.int (iI v2)), some (.int (iI v3)), some (.int (iI v4)), some (.int (iI v5)), some (.int (iI v6)), some (.int (iI v7)), some (.int (iI v8)), some (.int (iI v9)), u10] [] (mk m q w) =
    if iI v9 < iI v2 then (rBd (ev d 264 [.ref 363, .int (iI (v1 + v9)), .int (iI v3), .int (iI v4)] (mk m q w)) (fun v M' => gv d rR267 79 [some (.ref 363), some (.int (iI v1)), some (.int (iI v2)), some (.int (iI v3)), some (.int (iI v4)), some (.int (iI v5)), some (.int (iI v6)), some (.int (iI v7)), some (.int (iI v8)), some (.int (iI v9)), u10] (v.toList ++ []) M')) else (if iI v5 = iI 0 then (gv d rR267 181 [some (.ref 363), some (.int (iI v1)), some (.int (iI v2)), some (.int (iI v3)), some (.int (iI v4)), some (.int (iI v5)), some (.int (iI v6)), some (.int (iI v7)), some (.int (iI v8)), some (.int (iI v9)), u10] [.int (iI v6)] (mk m q w)) else (if iI v5 = iI 1 then (gv d rR267 181 [some (.ref 363), some (.int (iI v1)), some (.int (iI v2)), some (.int (iI v3)), some (.int (iI v4)), some (.int (iI v5)), some (.int (iI v6)), some (.int (iI v7)), some (.int (iI v8)), some (.int (iI v9)), u10] [.int (iI v7)] (mk m q w)) else (gv d rR267 181 [some (.ref 363), some (.int (iI v1)), some (.int (iI v2)), some (.int (iI v3)), some (.int (iI v4)), some (.int (iI v5)), some (.int (iI v6)), some (.int (iI v7)), some (.int (iI v8)), some (.int (iI v9)), u10] [.int (iI v8)] (mk m q w)))) := by
  refine Eq.trans (k_ild9 rfl) ?_
  refine Eq.trans (k_ild2 rfl) ?_
  refine Eq.trans (k_i2ge rfl rfl) ?_
  refine ifc ?_ ?_
  · refine Eq.trans (k_ald0 rfl) ?_
    refine Eq.trans (k_ild1 rfl) ?_
    refine Eq.trans (k_ild9 rfl) ?_
    refine Eq.trans (k_add rfl) ?_
    refine Eq.trans (k_ild3 rfl) ?_
    refine Eq.trans (k_ild4 rfl) ?_
    exact k_cV3 rfl s_363 q_264 rfl rfl rfl (bl rfl)
  · refine Eq.trans (k_ild5 rfl) ?_
    refine Eq.trans (k_i1ne rfl rfl) ?_
    refine ifc ?_ ?_
    · refine Eq.trans (k_ild6 rfl) ?_
      refine Eq.trans (k_go rfl rfl) ?_
      exact rfl
    · refine Eq.trans (k_ild5 rfl) ?_
      refine Eq.trans (k_con rfl) ?_
      refine Eq.trans (k_i2ne rfl rfl) ?_
      refine ifc ?_ ?_
      · refine Eq.trans (k_ild7 rfl) ?_
        refine Eq.trans (k_go rfl rfl) ?_
        exact rfl
      · refine Eq.trans (k_ild8 rfl) ?_
        exact rfl
theorem b_267_79 {d : Nat} {m : Nat → Nat → Int} {q : Nat → Nat → Option Nat} {w : Option (Nat → Int64)} {u10 : Option Value} {v1 v2 v3 v4 v5 v6 v7 v8 v9 : Int}   : gv d rR267 79 [some (.ref 363), some (.int (iI v1)), some (.int (iI v2)), some (.int (iI v3)), some (.int (iI v4)), some (.int (iI v5)), some (.int (iI v6)), some (.int (iI v7)), some (.int (iI v8)), some (.int (iI v9)), u10] [] (mk m q w) =
    if iI v6 = iI (-1) then (gv d rR267 109 [some (.ref 363), some (.int (iI v1)), some (.int (iI v2)), some (.int (iI v3)), some (.int (iI v4)), some (.int (iI v5)), some (.int (iI v6)), some (.int (iI v7)), some (.int (iI v8)), some (.int (iI v9)), some (.int (iI ((m 377 44) - (m 376 44))))] [] (mk m q w)) else (if iI ((m 377 44) - (m 376 44)) < iI v6 then (gv d rR267 109 [some (.ref 363), some (.int (iI v1)), some (.int (iI v2)), some (.int (iI v3)), some (.int (iI v4)), some (.int (iI v5)), some (.int (iI v6)), some (.int (iI v7)), some (.int (iI v8)), some (.int (iI v9)), some (.int (iI ((m 377 44) - (m 376 44))))] [] (mk m q w)) else (gv d rR267 116 [some (.ref 363), some (.int (iI v1)), some (.int (iI v2)), some (.int (iI v3)), some (.int (iI v4)), some (.int (iI v5)), some (.int (iI v6)), some (.int (iI v7)), some (.int (iI v8)), some (.int (iI v9)), some (.int (iI ((m 377 44) - (m 376 44))))] [.int (iI v6)] (mk m q w))) := by
  refine Eq.trans (k_ald0 rfl) ?_
  refine Eq.trans (k_gtR rfl s_363 rfl (by decide)) ?_
  refine Eq.trans (k_bip rfl (by decide)) ?_
  refine Eq.trans (k_iald rfl s_377 (bl rfl) (by decide) (by decide)) ?_
  refine Eq.trans (k_ald0 rfl) ?_
  refine Eq.trans (k_gtR rfl s_363 rfl (by decide)) ?_
  refine Eq.trans (k_bip rfl (by decide)) ?_
  refine Eq.trans (k_iald rfl s_376 (bl rfl) (by decide) (by decide)) ?_
  refine Eq.trans (k_sub rfl) ?_
  refine Eq.trans (k_ist10 rfl) ?_
  refine Eq.trans (k_ild6 rfl) ?_
  refine Eq.trans (k_con rfl) ?_
  refine Eq.trans (k_i2eq rfl rfl) ?_
  refine ifc ?_ ?_
  · exact rfl
  · refine Eq.trans (k_ild10 rfl) ?_
    refine Eq.trans (k_ild6 rfl) ?_
    refine Eq.trans (k_i2ge rfl rfl) ?_
    refine ifc ?_ ?_
    · exact rfl
    · refine Eq.trans (k_ild6 rfl) ?_
      exact rfl
theorem b_267_109 {d : Nat} {m : Nat → Nat → Int} {q : Nat → Nat → Option Nat} {w : Option (Nat → Int64)} {u6 : Option Value} {v1 v2 v3 v4 v5 v7 v8 v9 v10 : Int}   : gv d rR267 109 [some (.ref 363), some (.int (iI v1)), some (.int (iI v2)), some (.int (iI v3)), some (.int (iI v4)), some (.int (iI v5)), u6, some (.int (iI v7)), some (.int (iI v8)), some (.int (iI v9)), some (.int (iI v10))] [] (mk m q w) =
    gv d rR267 116 [some (.ref 363), some (.int (iI v1)), some (.int (iI v2)), some (.int (iI v3)), some (.int (iI v4)), some (.int (iI v5)), u6, some (.int (iI v7)), some (.int (iI v8)), some (.int (iI v9)), some (.int (iI v10))] [.int (iI v10)] (mk m q w) := by
  refine Eq.trans (k_ild10 rfl) ?_
  refine Eq.trans (k_go rfl rfl) ?_
  exact rfl
theorem b_267_116 {d : Nat} {m : Nat → Nat → Int} {q : Nat → Nat → Option Nat} {w : Option (Nat → Int64)} {u6 : Option Value} {v1 v2 v3 v4 v5 v7 v8 v9 v10 s0 : Int}   : gv d rR267 116 [some (.ref 363), some (.int (iI v1)), some (.int (iI v2)), some (.int (iI v3)), some (.int (iI v4)), some (.int (iI v5)), u6, some (.int (iI v7)), some (.int (iI v8)), some (.int (iI v9)), some (.int (iI v10))] [.int (iI s0)] (mk m q w) =
    if iI v7 < iI v10 then (gv d rR267 132 [some (.ref 363), some (.int (iI v1)), some (.int (iI v2)), some (.int (iI v3)), some (.int (iI v4)), some (.int (iI v5)), some (.int (iI s0)), some (.int (iI v7)), some (.int (iI v8)), some (.int (iI v9)), some (.int (iI v10))] [.int (iI v10)] (mk m q w)) else (gv d rR267 132 [some (.ref 363), some (.int (iI v1)), some (.int (iI v2)), some (.int (iI v3)), some (.int (iI v4)), some (.int (iI v5)), some (.int (iI s0)), some (.int (iI v7)), some (.int (iI v8)), some (.int (iI v9)), some (.int (iI v10))] [.int (iI v7)] (mk m q w)) := by
  refine Eq.trans (k_ist6 rfl) ?_
  refine Eq.trans (k_ild10 rfl) ?_
  refine Eq.trans (k_ild7 rfl) ?_
  refine Eq.trans (k_i2le rfl rfl) ?_
  refine ifc ?_ ?_
  · refine Eq.trans (k_ild10 rfl) ?_
    refine Eq.trans (k_go rfl rfl) ?_
    exact rfl
  · refine Eq.trans (k_ild7 rfl) ?_
    exact rfl
theorem b_267_132 {d : Nat} {m : Nat → Nat → Int} {q : Nat → Nat → Option Nat} {w : Option (Nat → Int64)} {u7 u10 : Option Value} {v1 v2 v3 v4 v5 v6 v8 v9 s0 : Int}   : gv d rR267 132 [some (.ref 363), some (.int (iI v1)), some (.int (iI v2)), some (.int (iI v3)), some (.int (iI v4)), some (.int (iI v5)), some (.int (iI v6)), u7, some (.int (iI v8)), some (.int (iI v9)), u10] [.int (iI s0)] (mk m q w) =
    rBd (ev d 235 [.ref 363, .int (iI 0)] (mk m q w)) (fun v M' => gv d rR267 141 [some (.ref 363), some (.int (iI v1)), some (.int (iI v2)), some (.int (iI v3)), some (.int (iI v4)), some (.int (iI v5)), some (.int (iI v6)), some (.int (iI s0)), some (.int (iI v8)), some (.int (iI v9)), u10] (v.toList ++ [.int (iI v8)]) M') := by
  refine Eq.trans (k_ist7 rfl) ?_
  refine Eq.trans (k_ild8 rfl) ?_
  refine Eq.trans (k_ald0 rfl) ?_
  refine Eq.trans (k_con rfl) ?_
  exact k_cV1 rfl s_363 q_235 rfl rfl rfl (bl rfl)
theorem b_267_141 {d : Nat} {m : Nat → Nat → Int} {q : Nat → Nat → Option Nat} {w : Option (Nat → Int64)} {u8 u10 : Option Value} {v1 v2 v3 v4 v5 v6 v7 v9 s0 s1 : Int}   : gv d rR267 141 [some (.ref 363), some (.int (iI v1)), some (.int (iI v2)), some (.int (iI v3)), some (.int (iI v4)), some (.int (iI v5)), some (.int (iI v6)), some (.int (iI v7)), u8, some (.int (iI v9)), u10] [.int (iI s1), .int (iI s0)] (mk m q w) =
    if iI s1 = iI 0 then (gv d rR267 149 [some (.ref 363), some (.int (iI v1)), some (.int (iI v2)), some (.int (iI v3)), some (.int (iI v4)), some (.int (iI v5)), some (.int (iI v6)), some (.int (iI v7)), u8, some (.int (iI v9)), u10] [.int (iI 0), .int (iI s0)] (mk m q w)) else (gv d rR267 149 [some (.ref 363), some (.int (iI v1)), some (.int (iI v2)), some (.int (iI v3)), some (.int (iI v4)), some (.int (iI v5)), some (.int (iI v6)), some (.int (iI v7)), u8, some (.int (iI v9)), u10] [.int (iI 1), .int (iI s0)] (mk m q w)) := by
  refine Eq.trans (k_i1eq rfl rfl) ?_
  refine ifc ?_ ?_
  · refine Eq.trans (k_con rfl) ?_
    exact rfl
  · refine Eq.trans (k_con rfl) ?_
    refine Eq.trans (k_go rfl rfl) ?_
    exact rfl
theorem b_267_149 {d : Nat} {m : Nat → Nat → Int} {q : Nat → Nat → Option Nat} {w : Option (Nat → Int64)} {u8 u10 : Option Value} {v1 v2 v3 v4 v5 v6 v7 v9 s0 s1 : Int}   : gv d rR267 149 [some (.ref 363), some (.int (iI v1)), some (.int (iI v2)), some (.int (iI v3)), some (.int (iI v4)), some (.int (iI v5)), some (.int (iI v6)), some (.int (iI v7)), u8, some (.int (iI v9)), u10] [.int (iI s1), .int (iI s0)] (mk m q w) =
    gv d rR267 62 [some (.ref 363), some (.int (iI v1)), some (.int (iI v2)), some (.int (iI v3)), some (.int (iI v4)), some (.int (iI v5)), some (.int (iI v6)), some (.int (iI v7)), some (.int (iI (s0 + s1))), some (.int (iI (v9 + 1))), u10] [] (mk m q w) := by
  refine Eq.trans (k_add rfl) ?_
  refine Eq.trans (k_ist8 rfl) ?_
  refine Eq.trans (k_inc9 rfl) ?_
  refine Eq.trans (k_go rfl rfl) ?_
  exact rfl
theorem b_267_181 {d : Nat} {m : Nat → Nat → Int} {q : Nat → Nat → Option Nat} {w : Option (Nat → Int64)} {u0 u1 u2 u3 u4 u5 u6 u7 u8 u9 u10 : Option Value} {s0 : Int}   : gv d rR267 181 [u0, u1, u2, u3, u4, u5, u6, u7, u8, u9, u10] [.int (iI s0)] (mk m q w) =
    some (.inl (some (.int (iI s0))), (mk m q w, (0, 0))) := by
  exact k_rtI rfl rfl
theorem e_267 {d : Nat} (hd : 1 ≤ d) {a0 a1 a2 a3 a4 a5 : Value} (M : rMem) (h0 : a0.category = 1) (h1 : a1.category = 1) (h2 : a2.category = 1) (h3 : a3.category = 1) (h4 : a4.category = 1) (h5 : a5.category = 1) : ev d 267 [a0, a1, a2, a3, a4, a5] M = gv (d - 1) rR267 0 [some a0, some a1, some a2, some a3, some a4, some a5, none, none, none, none, none] [] M := ev_at hd q_267 rfl (by simp [*]) rfl
/-! FanHouseModel.keepsRow(I[IIZ)I -/
theorem b_268_0 {d : Nat} {m : Nat → Nat → Int} {q : Nat → Nat → Option Nat} {w : Option (Nat → Int64)} {u5 : Option Value} {v1 v3 v4 : Int} {p2 np2 bp2 kp2 : Nat} (hp2 : rShp p2 = some (aS 0 np2 bp2 kp2)) (hnp2 : np2 ≤ 100000)  : gv d rR268 0 [some (.ref 363), some (.int (iI v1)), some (.ref p2), some (.int (iI v3)), some (.int (iI v4)), u5] [] (mk m q w) =
    gv d rR268 3 [some (.ref 363), some (.int (iI v1)), some (.ref p2), some (.int (iI v3)), some (.int (iI v4)), some (.int (iI 0))] [] (mk m q w) := by
  refine Eq.trans (k_con rfl) ?_
  refine Eq.trans (k_ist5 rfl) ?_
  exact rfl
theorem b_268_3 {d : Nat} {m : Nat → Nat → Int} {q : Nat → Nat → Option Nat} {w : Option (Nat → Int64)} {v1 v3 v4 v5 : Int} {p2 np2 bp2 kp2 : Nat} (hp2 : rShp p2 = some (aS 0 np2 bp2 kp2)) (hnp2 : np2 ≤ 100000)  : gv d rR268 3 [some (.ref 363), some (.int (iI v1)), some (.ref p2), some (.int (iI v3)), some (.int (iI v4)), some (.int (iI v5))] [] (mk m q w) =
    if iI v5 < iI v3 then (if iI v4 = iI 0 then (gv d rR268 30 [some (.ref 363), some (.int (iI v1)), some (.ref p2), some (.int (iI v3)), some (.int (iI v4)), some (.int (iI v5))] [] (mk m q w)) else (gv d rR268 14 [some (.ref 363), some (.int (iI v1)), some (.ref p2), some (.int (iI v3)), some (.int (iI v4)), some (.int (iI v5))] [] (mk m q w))) else (some (.inl (some (.int (iI (v1 + v3)))), (mk m q w, (0, 0)))) := by
  refine Eq.trans (k_ild5 rfl) ?_
  refine Eq.trans (k_ild3 rfl) ?_
  refine Eq.trans (k_i2ge rfl rfl) ?_
  refine ifc ?_ ?_
  · refine Eq.trans (k_ild4 rfl) ?_
    refine Eq.trans (k_i1eq rfl rfl) ?_
    refine ifc ?_ ?_
    · exact rfl
    · exact rfl
  · refine Eq.trans (k_ild1 rfl) ?_
    refine Eq.trans (k_ild3 rfl) ?_
    refine Eq.trans (k_add rfl) ?_
    exact k_rtI rfl rfl
theorem b_268_14 {d : Nat} {m : Nat → Nat → Int} {q : Nat → Nat → Option Nat} {w : Option (Nat → Int64)} {v1 v3 v4 v5 : Int} {p2 np2 bp2 kp2 : Nat} (hp2 : rShp p2 = some (aS 0 np2 bp2 kp2)) (hnp2 : np2 ≤ 100000) (g0 : 0 ≤ v5) (g1 : v5 < (np2 : Nat)) (g2 : 0 ≤ (v1 + v5)) (g3 : (v1 + v5) < 2451) : gv d rR268 14 [some (.ref 363), some (.int (iI v1)), some (.ref p2), some (.int (iI v3)), some (.int (iI v4)), some (.int (iI v5))] [] (mk m q w) =
    gv d rR268 43 [some (.ref 363), some (.int (iI v1)), some (.ref p2), some (.int (iI v3)), some (.int (iI v4)), some (.int (iI v5))] [] (mk (wr m 390 (Int.toNat (v1 + v5)) (m p2 (Int.toNat v5))) q w) := by
  refine Eq.trans (k_ald0 rfl) ?_
  refine Eq.trans (k_gtR rfl s_363 rfl (by decide)) ?_
  refine Eq.trans (k_ild1 rfl) ?_
  refine Eq.trans (k_ild5 rfl) ?_
  refine Eq.trans (k_add rfl) ?_
  refine Eq.trans (k_ald2 rfl) ?_
  refine Eq.trans (k_ild5 rfl) ?_
  refine Eq.trans (k_iald rfl hp2 hnp2 g0 g1) ?_
  refine Eq.trans (k_iast rfl s_390 (bl rfl) g2 g3) ?_
  refine Eq.trans (k_go rfl rfl) ?_
  exact rfl
theorem b_268_30 {d : Nat} {m : Nat → Nat → Int} {q : Nat → Nat → Option Nat} {w : Option (Nat → Int64)} {v1 v3 v4 v5 : Int} {p2 np2 bp2 kp2 : Nat} (hp2 : rShp p2 = some (aS 0 np2 bp2 kp2)) (hnp2 : np2 ≤ 100000) (g0 : 0 ≤ (v1 + v5)) (g1 : (v1 + v5) < 2451) (g2 : 0 ≤ v5) (g3 : v5 < (np2 : Nat)) : gv d rR268 30 [some (.ref 363), some (.int (iI v1)), some (.ref p2), some (.int (iI v3)), some (.int (iI v4)), some (.int (iI v5))] [] (mk m q w) =
    gv d rR268 43 [some (.ref 363), some (.int (iI v1)), some (.ref p2), some (.int (iI v3)), some (.int (iI v4)), some (.int (iI v5))] [] (mk (wr m p2 (Int.toNat v5) (m 390 (Int.toNat (v1 + v5)))) q w) := by
  refine Eq.trans (k_ald2 rfl) ?_
  refine Eq.trans (k_ild5 rfl) ?_
  refine Eq.trans (k_ald0 rfl) ?_
  refine Eq.trans (k_gtR rfl s_363 rfl (by decide)) ?_
  refine Eq.trans (k_ild1 rfl) ?_
  refine Eq.trans (k_ild5 rfl) ?_
  refine Eq.trans (k_add rfl) ?_
  refine Eq.trans (k_iald rfl s_390 (bl rfl) g0 g1) ?_
  refine Eq.trans (k_iast rfl hp2 hnp2 g2 g3) ?_
  exact rfl
theorem b_268_43 {d : Nat} {m : Nat → Nat → Int} {q : Nat → Nat → Option Nat} {w : Option (Nat → Int64)} {v1 v3 v4 v5 : Int} {p2 np2 bp2 kp2 : Nat} (hp2 : rShp p2 = some (aS 0 np2 bp2 kp2)) (hnp2 : np2 ≤ 100000)  : gv d rR268 43 [some (.ref 363), some (.int (iI v1)), some (.ref p2), some (.int (iI v3)), some (.int (iI v4)), some (.int (iI v5))] [] (mk m q w) =
    gv d rR268 3 [some (.ref 363), some (.int (iI v1)), some (.ref p2), some (.int (iI v3)), some (.int (iI v4)), some (.int (iI (v5 + 1)))] [] (mk m q w) := by
  refine Eq.trans (k_inc5 rfl) ?_
  refine Eq.trans (k_go rfl rfl) ?_
  exact rfl
theorem e_268 {d : Nat} (hd : 1 ≤ d) {a0 a1 a2 a3 a4 : Value} (M : rMem) (h0 : a0.category = 1) (h1 : a1.category = 1) (h2 : a2.category = 1) (h3 : a3.category = 1) (h4 : a4.category = 1) : ev d 268 [a0, a1, a2, a3, a4] M = gv (d - 1) rR268 0 [some a0, some a1, some a2, some a3, some a4, none] [] M := ev_at hd q_268 rfl (by simp [*]) rfl
/-! FanHouseModel.keepsAll(IZ)V -/
theorem b_269_0 {d : Nat} {m : Nat → Nat → Int} {q : Nat → Nat → Option Nat} {w : Option (Nat → Int64)} {u3 : Option Value} {v1 v2 : Int}   : gv d rR269 0 [some (.ref 363), some (.int (iI v1)), some (.int (iI v2)), u3] [] (mk m q w) =
    rBd (ev d 268 [.ref 363, .int (iI (817 * v1)), .ref 376, .int (iI 48), .int (iI v2)] (mk m q w)) (fun v M' => gv d rR269 16 [some (.ref 363), some (.int (iI v1)), some (.int (iI v2)), u3] (v.toList ++ []) M') := by
  refine Eq.trans (k_ald0 rfl) ?_
  refine Eq.trans (k_sip rfl (by decide)) ?_
  refine Eq.trans (k_ild1 rfl) ?_
  refine Eq.trans (k_mul rfl) ?_
  refine Eq.trans (k_ald0 rfl) ?_
  refine Eq.trans (k_gtR rfl s_363 rfl (by decide)) ?_
  refine Eq.trans (k_bip rfl (by decide)) ?_
  refine Eq.trans (k_ild2 rfl) ?_
  exact k_cV4 rfl s_363 q_268 rfl rfl rfl (bl rfl)
theorem b_269_16 {d : Nat} {m : Nat → Nat → Int} {q : Nat → Nat → Option Nat} {w : Option (Nat → Int64)} {u1 u3 : Option Value} {v2 s0 : Int}   : gv d rR269 16 [some (.ref 363), u1, some (.int (iI v2)), u3] [.int (iI s0)] (mk m q w) =
    rBd (ev d 268 [.ref 363, .int (iI s0), .ref 378, .int (iI 768), .int (iI v2)] (mk m q w)) (fun v M' => gv d rR269 30 [some (.ref 363), u1, some (.int (iI v2)), some (.int (iI s0))] (v.toList ++ []) M') := by
  refine Eq.trans (k_ist3 rfl) ?_
  refine Eq.trans (k_ald0 rfl) ?_
  refine Eq.trans (k_ild3 rfl) ?_
  refine Eq.trans (k_ald0 rfl) ?_
  refine Eq.trans (k_gtR rfl s_363 rfl (by decide)) ?_
  refine Eq.trans (k_sip rfl (by decide)) ?_
  refine Eq.trans (k_ild2 rfl) ?_
  exact k_cV4 rfl s_363 q_268 rfl rfl rfl (bl rfl)
theorem b_269_30 {d : Nat} {m : Nat → Nat → Int} {q : Nat → Nat → Option Nat} {w : Option (Nat → Int64)} {u1 u3 : Option Value} {v2 s0 : Int}   : gv d rR269 30 [some (.ref 363), u1, some (.int (iI v2)), u3] [.int (iI s0)] (mk m q w) =
    if iI v2 = iI 0 then (gv d rR269 48 [some (.ref 363), u1, some (.int (iI v2)), some (.int (iI s0))] [] (mk m q w)) else (gv d rR269 35 [some (.ref 363), u1, some (.int (iI v2)), some (.int (iI s0))] [] (mk m q w)) := by
  refine Eq.trans (k_ist3 rfl) ?_
  refine Eq.trans (k_ild2 rfl) ?_
  refine Eq.trans (k_i1eq rfl rfl) ?_
  refine ifc ?_ ?_
  · exact rfl
  · exact rfl
theorem b_269_35 {d : Nat} {m : Nat → Nat → Int} {q : Nat → Nat → Option Nat} {w : Option (Nat → Int64)} {u1 u2 : Option Value} {v3 : Int}  (g0 : 0 ≤ v3) (g1 : v3 < 2451) : gv d rR269 35 [some (.ref 363), u1, u2, some (.int (iI v3))] [] (mk m q w) =
    gv d rR269 58 [some (.ref 363), u1, u2, some (.int (iI v3))] [] (mk (wr m 390 (Int.toNat v3) (m 363 29)) q w) := by
  refine Eq.trans (k_ald0 rfl) ?_
  refine Eq.trans (k_gtR rfl s_363 rfl (by decide)) ?_
  refine Eq.trans (k_ild3 rfl) ?_
  refine Eq.trans (k_ald0 rfl) ?_
  refine Eq.trans (k_gtI rfl s_363 rfl (by decide)) ?_
  refine Eq.trans (k_iast rfl s_390 (bl rfl) g0 g1) ?_
  refine Eq.trans (k_go rfl rfl) ?_
  exact rfl
theorem b_269_48 {d : Nat} {m : Nat → Nat → Int} {q : Nat → Nat → Option Nat} {w : Option (Nat → Int64)} {u1 u2 : Option Value} {v3 : Int}  (g0 : 0 ≤ v3) (g1 : v3 < 2451) : gv d rR269 48 [some (.ref 363), u1, u2, some (.int (iI v3))] [] (mk m q w) =
    gv d rR269 58 [some (.ref 363), u1, u2, some (.int (iI v3))] [] (mk (wr m 363 29 (m 390 (Int.toNat v3))) q w) := by
  refine Eq.trans (k_ald0 rfl) ?_
  refine Eq.trans (k_ald0 rfl) ?_
  refine Eq.trans (k_gtR rfl s_363 rfl (by decide)) ?_
  refine Eq.trans (k_ild3 rfl) ?_
  refine Eq.trans (k_iald rfl s_390 (bl rfl) g0 g1) ?_
  refine Eq.trans (k_ptI rfl s_363 rfl rfl) ?_
  exact rfl
theorem b_269_58 {d : Nat} {m : Nat → Nat → Int} {q : Nat → Nat → Option Nat} {w : Option (Nat → Int64)} {u0 u1 u2 u3 : Option Value}   : gv d rR269 58 [u0, u1, u2, u3] [] (mk m q w) =
    some (.inl none, (mk m q w, (0, 0))) := by
  exact k_rtV rfl rfl
theorem e_269 {d : Nat} (hd : 1 ≤ d) {a0 a1 a2 : Value} (M : rMem) (h0 : a0.category = 1) (h1 : a1.category = 1) (h2 : a2.category = 1) : ev d 269 [a0, a1, a2] M = gv (d - 1) rR269 0 [some a0, some a1, some a2, none] [] M := ev_at hd q_269 rfl (by simp [*]) rfl
/-! FanHouseModel.image()I -/
theorem b_270_0 {d : Nat} {m : Nat → Nat → Int} {q : Nat → Nat → Option Nat} {w : Option (Nat → Int64)}   : gv d rR270 0 [some (.ref 363)] [] (mk m q w) =
    if iI ((wr m 363 0 0) 363 52) = iI 3 then (some (.inl (some (.int (iI (-1)))), (mk (wr m 363 0 0) q w, (0, 0)))) else (rBd (ev d 269 [.ref 363, .int (iI ((wr m 363 0 0) 363 52)), .int (iI 1)] (mk (wr m 363 0 0) q w)) (fun v M' => gv d rR270 24 [some (.ref 363)] (v.toList ++ []) M')) := by
  refine Eq.trans (k_ald0 rfl) ?_
  refine Eq.trans (k_con rfl) ?_
  refine Eq.trans (k_ptI rfl s_363 rfl rfl) ?_
  refine Eq.trans (k_ald0 rfl) ?_
  refine Eq.trans (k_gtI rfl s_363 rfl (by decide)) ?_
  refine Eq.trans (k_con rfl) ?_
  refine Eq.trans (k_i2ne rfl rfl) ?_
  refine ifc ?_ ?_
  · refine Eq.trans (k_con rfl) ?_
    exact k_rtI rfl rfl
  · refine Eq.trans (k_ald0 rfl) ?_
    refine Eq.trans (k_ald0 rfl) ?_
    refine Eq.trans (k_gtI rfl s_363 rfl (by decide)) ?_
    refine Eq.trans (k_con rfl) ?_
    exact k_cV2 rfl s_363 q_269 rfl rfl rfl (bl rfl)
theorem b_270_24 {d : Nat} {m : Nat → Nat → Int} {q : Nat → Nat → Option Nat} {w : Option (Nat → Int64)}   : gv d rR270 24 [some (.ref 363)] [] (mk m q w) =
    some (.inl (some (.int (iI ((wr m 363 52 ((m 363 52) + 1)) 363 52)))), (mk (wr m 363 52 ((m 363 52) + 1)) q w, (0, 0))) := by
  refine Eq.trans (k_ald0 rfl) ?_
  refine Eq.trans (k_dup rfl rfl) ?_
  refine Eq.trans (k_gtI rfl s_363 rfl (by decide)) ?_
  refine Eq.trans (k_con rfl) ?_
  refine Eq.trans (k_add rfl) ?_
  refine Eq.trans (k_ptI rfl s_363 rfl rfl) ?_
  refine Eq.trans (k_ald0 rfl) ?_
  refine Eq.trans (k_gtI rfl s_363 rfl (by decide)) ?_
  exact k_rtI rfl rfl
theorem e_270 {d : Nat} (hd : 1 ≤ d) {a0 : Value} (M : rMem) (h0 : a0.category = 1) : ev d 270 [a0] M = gv (d - 1) rR270 0 [some a0] [] M := ev_at hd q_270 rfl (by simp [*]) rfl
/-! FanHouseModel.restore()I -/
theorem b_271_0 {d : Nat} {m : Nat → Nat → Int} {q : Nat → Nat → Option Nat} {w : Option (Nat → Int64)}   : gv d rR271 0 [some (.ref 363)] [] (mk m q w) =
    if iI ((wr m 363 0 0) 363 52) = iI 0 then (some (.inl (some (.int (iI (-1)))), (mk (wr m 363 0 0) q w, (0, 0)))) else (rBd (ev d 269 [.ref 363, .int (iI ((wr (wr m 363 0 0) 363 52 (((wr m 363 0 0) 363 52) - 1)) 363 52)), .int (iI 0)] (mk (wr (wr m 363 0 0) 363 52 (((wr m 363 0 0) 363 52) - 1)) q w)) (fun v M' => gv d rR271 33 [some (.ref 363)] (v.toList ++ []) M')) := by
  refine Eq.trans (k_ald0 rfl) ?_
  refine Eq.trans (k_con rfl) ?_
  refine Eq.trans (k_ptI rfl s_363 rfl rfl) ?_
  refine Eq.trans (k_ald0 rfl) ?_
  refine Eq.trans (k_gtI rfl s_363 rfl (by decide)) ?_
  refine Eq.trans (k_i1ne rfl rfl) ?_
  refine ifc ?_ ?_
  · refine Eq.trans (k_con rfl) ?_
    exact k_rtI rfl rfl
  · refine Eq.trans (k_ald0 rfl) ?_
    refine Eq.trans (k_dup rfl rfl) ?_
    refine Eq.trans (k_gtI rfl s_363 rfl (by decide)) ?_
    refine Eq.trans (k_con rfl) ?_
    refine Eq.trans (k_sub rfl) ?_
    refine Eq.trans (k_ptI rfl s_363 rfl rfl) ?_
    refine Eq.trans (k_ald0 rfl) ?_
    refine Eq.trans (k_ald0 rfl) ?_
    refine Eq.trans (k_gtI rfl s_363 rfl (by decide)) ?_
    refine Eq.trans (k_con rfl) ?_
    exact k_cV2 rfl s_363 q_269 rfl rfl rfl (bl rfl)
theorem b_271_33 {d : Nat} {m : Nat → Nat → Int} {q : Nat → Nat → Option Nat} {w : Option (Nat → Int64)}   : gv d rR271 33 [some (.ref 363)] [] (mk m q w) =
    some (.inl (some (.int (iI ((wr m 363 30 0) 363 52)))), (mk (wr m 363 30 0) q w, (0, 0))) := by
  refine Eq.trans (k_ald0 rfl) ?_
  refine Eq.trans (k_con rfl) ?_
  refine Eq.trans (k_ptI rfl s_363 rfl rfl) ?_
  refine Eq.trans (k_ald0 rfl) ?_
  refine Eq.trans (k_gtI rfl s_363 rfl (by decide)) ?_
  exact k_rtI rfl rfl
theorem e_271 {d : Nat} (hd : 1 ≤ d) {a0 : Value} (M : rMem) (h0 : a0.category = 1) : ev d 271 [a0] M = gv (d - 1) rR271 0 [some a0] [] M := ev_at hd q_271 rfl (by simp [*]) rfl
/-! FanHouseModel.status(I)I -/
theorem b_272_0 {d : Nat} {m : Nat → Nat → Int} {q : Nat → Nat → Option Nat} {w : Option (Nat → Int64)} {v1 : Int}   : gv d rR272 0 [some (.ref 363), some (.int (iI v1))] [] (mk m q w) =
    rBd (ev d 161 [.int (iI v1), .int (iI 0), .int (iI 1)] (mk (wr m 363 0 0) q w)) (fun v M' => gv d rR272 11 [some (.ref 363), some (.int (iI v1))] (v.toList ++ []) M') := by
  refine Eq.trans (k_ald0 rfl) ?_
  refine Eq.trans (k_con rfl) ?_
  refine Eq.trans (k_ptI rfl s_363 rfl rfl) ?_
  refine Eq.trans (k_ild1 rfl) ?_
  refine Eq.trans (k_con rfl) ?_
  refine Eq.trans (k_con rfl) ?_
  exact k_cS3 rfl (by decide) q_161 rfl rfl (bl rfl)
theorem b_272_11 {d : Nat} {m : Nat → Nat → Int} {q : Nat → Nat → Option Nat} {w : Option (Nat → Int64)} {v1 s0 : Int}   : gv d rR272 11 [some (.ref 363), some (.int (iI v1))] [.int (iI s0)] (mk m q w) =
    if iI s0 = iI 0 then (gv d rR272 24 [some (.ref 363), some (.int (iI v1))] [.int (iI (-1))] (mk m q w)) else (gv d rR272 14 [some (.ref 363), some (.int (iI v1))] [] (mk m q w)) := by
  refine Eq.trans (k_i1eq rfl rfl) ?_
  refine ifc ?_ ?_
  · refine Eq.trans (k_con rfl) ?_
    exact rfl
  · exact rfl
theorem b_272_14 {d : Nat} {m : Nat → Nat → Int} {q : Nat → Nat → Option Nat} {w : Option (Nat → Int64)} {v1 : Int}  (g0 : 0 ≤ v1) (g1 : v1 < 2) : gv d rR272 14 [some (.ref 363), some (.int (iI v1))] [] (mk m q w) =
    gv d rR272 24 [some (.ref 363), some (.int (iI v1))] [.int (iI (m 364 (Int.toNat v1)))] (mk m q w) := by
  refine Eq.trans (k_ald0 rfl) ?_
  refine Eq.trans (k_gtR rfl s_363 rfl (by decide)) ?_
  refine Eq.trans (k_ild1 rfl) ?_
  refine Eq.trans (k_iald rfl s_364 (bl rfl) g0 g1) ?_
  refine Eq.trans (k_go rfl rfl) ?_
  exact rfl
theorem b_272_24 {d : Nat} {m : Nat → Nat → Int} {q : Nat → Nat → Option Nat} {w : Option (Nat → Int64)} {u0 u1 : Option Value} {s0 : Int}   : gv d rR272 24 [u0, u1] [.int (iI s0)] (mk m q w) =
    some (.inl (some (.int (iI s0))), (mk m q w, (0, 0))) := by
  exact k_rtI rfl rfl
theorem e_272 {d : Nat} (hd : 1 ≤ d) {a0 a1 : Value} (M : rMem) (h0 : a0.category = 1) (h1 : a1.category = 1) : ev d 272 [a0, a1] M = gv (d - 1) rR272 0 [some a0, some a1] [] M := ev_at hd q_272 rfl (by simp [*]) rfl
/-! FanHouseModel.count(I)I -/
theorem b_273_0 {d : Nat} {m : Nat → Nat → Int} {q : Nat → Nat → Option Nat} {w : Option (Nat → Int64)} {v1 : Int}   : gv d rR273 0 [some (.ref 363), some (.int (iI v1))] [] (mk m q w) =
    if iI v1 = iI 0 then (gv d rR273 41 [some (.ref 363), some (.int (iI v1))] [.int (iI ((wr m 363 0 0) 363 52))] (mk (wr m 363 0 0) q w)) else (if iI v1 = iI 1 then (gv d rR273 41 [some (.ref 363), some (.int (iI v1))] [.int (iI ((wr m 363 0 0) 363 2))] (mk (wr m 363 0 0) q w)) else (if iI v1 = iI 2 then (gv d rR273 41 [some (.ref 363), some (.int (iI v1))] [.int (iI ((wr m 363 0 0) 363 29))] (mk (wr m 363 0 0) q w)) else (gv d rR273 41 [some (.ref 363), some (.int (iI v1))] [.int (iI (-1))] (mk (wr m 363 0 0) q w)))) := by
  refine Eq.trans (k_ald0 rfl) ?_
  refine Eq.trans (k_con rfl) ?_
  refine Eq.trans (k_ptI rfl s_363 rfl rfl) ?_
  refine Eq.trans (k_ild1 rfl) ?_
  refine Eq.trans (k_i1ne rfl rfl) ?_
  refine ifc ?_ ?_
  · refine Eq.trans (k_ald0 rfl) ?_
    refine Eq.trans (k_gtI rfl s_363 rfl (by decide)) ?_
    refine Eq.trans (k_go rfl rfl) ?_
    exact rfl
  · refine Eq.trans (k_ild1 rfl) ?_
    refine Eq.trans (k_con rfl) ?_
    refine Eq.trans (k_i2ne rfl rfl) ?_
    refine ifc ?_ ?_
    · refine Eq.trans (k_ald0 rfl) ?_
      refine Eq.trans (k_gtI rfl s_363 rfl (by decide)) ?_
      refine Eq.trans (k_go rfl rfl) ?_
      exact rfl
    · refine Eq.trans (k_ild1 rfl) ?_
      refine Eq.trans (k_con rfl) ?_
      refine Eq.trans (k_i2ne rfl rfl) ?_
      refine ifc ?_ ?_
      · refine Eq.trans (k_ald0 rfl) ?_
        refine Eq.trans (k_gtI rfl s_363 rfl (by decide)) ?_
        refine Eq.trans (k_go rfl rfl) ?_
        exact rfl
      · refine Eq.trans (k_con rfl) ?_
        exact rfl
theorem b_273_41 {d : Nat} {m : Nat → Nat → Int} {q : Nat → Nat → Option Nat} {w : Option (Nat → Int64)} {u0 u1 : Option Value} {s0 : Int}   : gv d rR273 41 [u0, u1] [.int (iI s0)] (mk m q w) =
    some (.inl (some (.int (iI s0))), (mk m q w, (0, 0))) := by
  exact k_rtI rfl rfl
theorem e_273 {d : Nat} (hd : 1 ≤ d) {a0 a1 : Value} (M : rMem) (h0 : a0.category = 1) (h1 : a1.category = 1) : ev d 273 [a0, a1] M = gv (d - 1) rR273 0 [some a0, some a1] [] M := ev_at hd q_273 rfl (by simp [*]) rfl
