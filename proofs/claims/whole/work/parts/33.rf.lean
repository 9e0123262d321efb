/-! FanHouseModel.take()V -/
theorem b_200_0 {d : Nat} {m : Nat → Nat → Int} {q : Nat → Nat → Option Nat} {w : Option (Nat → Int64)}   : gv d rR200 0 [some (.ref 363)] [] (mk m q w) =
    rBd (ev d 163 [.ref 363, .ref 376, .ref 377, .int (iI 48)] (mk m q w)) (fun v M' => gv d rR200 14 [some (.ref 363)] (v.toList ++ []) M') := by
  refine Eq.trans (k_ald0 rfl) ?_
  refine Eq.trans (k_ald0 rfl) ?_
  refine Eq.trans (k_gtR rfl s_363 rfl (by decide)) ?_
  refine Eq.trans (k_ald0 rfl) ?_
  refine Eq.trans (k_gtR rfl s_363 rfl (by decide)) ?_
  refine Eq.trans (k_bip rfl (by decide)) ?_
  exact k_cV3 rfl s_363 q_163 rfl rfl rfl (bl rfl)
theorem b_200_14 {d : Nat} {m : Nat → Nat → Int} {q : Nat → Nat → Option Nat} {w : Option (Nat → Int64)} {u0 : Option Value}   : gv d rR200 14 [u0] [] (mk m q w) =
    some (.inl none, (mk m q w, (0, 0))) := by
  exact k_rtV rfl rfl
theorem e_200 {d : Nat} (hd : 1 ≤ d) {a0 : Value} (M : rMem) (h0 : a0.category = 1) : ev d 200 [a0] M = gv (d - 1) rR200 0 [some a0] [] M := ev_at hd q_200 rfl (by simp [*]) rfl
/-! FanHouseModel.turnedMany()I -/
theorem b_201_0 {d : Nat} {m : Nat → Nat → Int} {q : Nat → Nat → Option Nat} {w : Option (Nat → Int64)} {u1 u2 : Option Value}   : gv d rR201 0 [some (.ref 363), u1, u2] [] (mk m q w) =
    gv d rR201 4 [some (.ref 363), some (.int (iI 0)), some (.int (iI 0))] [] (mk m q w) := by
  refine Eq.trans (k_con rfl) ?_
  refine Eq.trans (k_ist1 rfl) ?_
  refine Eq.trans (k_con rfl) ?_
  refine Eq.trans (k_ist2 rfl) ?_
  exact rfl
theorem b_201_4 {d : Nat} {m : Nat → Nat → Int} {q : Nat → Nat → Option Nat} {w : Option (Nat → Int64)} {v1 v2 : Int}   : gv d rR201 4 [some (.ref 363), some (.int (iI v1)), some (.int (iI v2))] [] (mk m q w) =
    if iI v2 < iI (m 363 15) then (gv d rR201 12 [some (.ref 363), some (.int (iI v1)), some (.int (iI v2))] [] (mk m q w)) else (some (.inl (some (.int (iI v1))), (mk m q w, (0, 0)))) := by
  refine Eq.trans (k_ild2 rfl) ?_
  refine Eq.trans (k_ald0 rfl) ?_
  refine Eq.trans (k_gtI rfl s_363 rfl (by decide)) ?_
  refine Eq.trans (k_i2ge rfl rfl) ?_
  refine ifc ?_ ?_
  · exact rfl
  · refine Eq.trans (k_ild1 rfl) ?_
    exact k_rtI rfl rfl
theorem b_201_12 {d : Nat} {m : Nat → Nat → Int} {q : Nat → Nat → Option Nat} {w : Option (Nat → Int64)} {v1 v2 : Int}  (g0 : 0 ≤ (35 + v2)) (g1 : (35 + v2) < 48) : gv d rR201 12 [some (.ref 363), some (.int (iI v1)), some (.int (iI v2))] [] (mk m q w) =
    gv d rR201 4 [some (.ref 363), some (.int (iI (v1 + (m 377 (Int.toNat (35 + v2)))))), some (.int (iI (v2 + 1)))] [] (mk m q w) := by
  refine Eq.trans (k_ild1 rfl) ?_
  refine Eq.trans (k_ald0 rfl) ?_
  refine Eq.trans (k_gtR rfl s_363 rfl (by decide)) ?_
  refine Eq.trans (k_bip rfl (by decide)) ?_
  refine Eq.trans (k_ild2 rfl) ?_
  refine Eq.trans (k_add rfl) ?_
  refine Eq.trans (k_iald rfl s_377 (bl rfl) g0 g1) ?_
  refine Eq.trans (k_add rfl) ?_
  refine Eq.trans (k_ist1 rfl) ?_
  refine Eq.trans (k_inc2 rfl) ?_
  refine Eq.trans (k_go rfl rfl) ?_
  exact rfl
theorem e_201 {d : Nat} (hd : 1 ≤ d) {a0 : Value} (M : rMem) (h0 : a0.category = 1) : ev d 201 [a0] M = gv (d - 1) rR201 0 [some a0, none, none] [] M := ev_at hd q_201 rfl (by simp [*]) rfl
/-! FanHouseModel.strainOf(IIIIIII)I -/
theorem b_202_0 {d : Nat} {m : Nat → Nat → Int} {q : Nat → Nat → Option Nat} {w : Option (Nat → Int64)} {v1 v2 v3 v4 v5 v6 v7 : Int}   : gv d rR202 0 [some (.ref 363), some (.int (iI v1)), some (.int (iI v2)), some (.int (iI v3)), some (.int (iI v4)), some (.int (iI v5)), some (.int (iI v6)), some (.int (iI v7))] [] (mk m q w) =
    rBd (ev d 194 [.ref 363] (mk (wr (wr (wr (wr (wr (wr (wr m 373 0 v1) 373 1 v2) 373 2 v3) 373 3 v4) 373 4 v5) 373 5 v6) 373 6 v7) q w)) (fun v M' => gv d rR202 58 [some (.ref 363), some (.int (iI v1)), some (.int (iI v2)), some (.int (iI v3)), some (.int (iI v4)), some (.int (iI v5)), some (.int (iI v6)), some (.int (iI v7))] (v.toList ++ []) M') := by
  refine Eq.trans (k_ald0 rfl) ?_
  refine Eq.trans (k_gtR rfl s_363 rfl (by decide)) ?_
  refine Eq.trans (k_con rfl) ?_
  refine Eq.trans (k_ild1 rfl) ?_
  refine Eq.trans (k_iast rfl s_373 (bl rfl) (by decide) (by decide)) ?_
  refine Eq.trans (k_ald0 rfl) ?_
  refine Eq.trans (k_gtR rfl s_363 rfl (by decide)) ?_
  refine Eq.trans (k_con rfl) ?_
  refine Eq.trans (k_ild2 rfl) ?_
  refine Eq.trans (k_iast rfl s_373 (bl rfl) (by decide) (by decide)) ?_
  refine Eq.trans (k_ald0 rfl) ?_
  refine Eq.trans (k_gtR rfl s_363 rfl (by decide)) ?_
  refine Eq.trans (k_con rfl) ?_
  refine Eq.trans (k_ild3 rfl) ?_
  refine Eq.trans (k_iast rfl s_373 (bl rfl) (by decide) (by decide)) ?_
  refine Eq.trans (k_ald0 rfl) ?_
  refine Eq.trans (k_gtR rfl s_363 rfl (by decide)) ?_
  refine Eq.trans (k_con rfl) ?_
  refine Eq.trans (k_ild4 rfl) ?_
  refine Eq.trans (k_iast rfl s_373 (bl rfl) (by decide) (by decide)) ?_
  refine Eq.trans (k_ald0 rfl) ?_
  refine Eq.trans (k_gtR rfl s_363 rfl (by decide)) ?_
  refine Eq.trans (k_con rfl) ?_
  refine Eq.trans (k_ild5 rfl) ?_
  refine Eq.trans (k_iast rfl s_373 (bl rfl) (by decide) (by decide)) ?_
  refine Eq.trans (k_ald0 rfl) ?_
  refine Eq.trans (k_gtR rfl s_363 rfl (by decide)) ?_
  refine Eq.trans (k_con rfl) ?_
  refine Eq.trans (k_ild6 rfl) ?_
  refine Eq.trans (k_iast rfl s_373 (bl rfl) (by decide) (by decide)) ?_
  refine Eq.trans (k_ald0 rfl) ?_
  refine Eq.trans (k_gtR rfl s_363 rfl (by decide)) ?_
  refine Eq.trans (k_bip rfl (by decide)) ?_
  refine Eq.trans (k_ild7 rfl) ?_
  refine Eq.trans (k_iast rfl s_373 (bl rfl) (by decide) (by decide)) ?_
  refine Eq.trans (k_ald0 rfl) ?_
  exact k_cV0 rfl s_363 q_194 rfl rfl rfl (bl rfl)
theorem b_202_58 {d : Nat} {m : Nat → Nat → Int} {q : Nat → Nat → Option Nat} {w : Option (Nat → Int64)} {u0 u1 u2 u3 u4 u5 u6 u7 : Option Value} {s0 : Int}   : gv d rR202 58 [u0, u1, u2, u3, u4, u5, u6, u7] [.int (iI s0)] (mk m q w) =
    some (.inl (some (.int (iI s0))), (mk m q w, (0, 0))) := by
  exact k_rtI rfl rfl
theorem e_202 {d : Nat} (hd : 1 ≤ d) {a0 a1 a2 a3 a4 a5 a6 a7 : Value} (M : rMem) (h0 : a0.category = 1) (h1 : a1.category = 1) (h2 : a2.category = 1) (h3 : a3.category = 1) (h4 : a4.category = 1) (h5 : a5.category = 1) (h6 : a6.category = 1) (h7 : a7.category = 1) : ev d 202 [a0, a1, a2, a3, a4, a5, a6, a7] M = gv (d - 1) rR202 0 [some a0, some a1, some a2, some a3, some a4, some a5, some a6, some a7] [] M := ev_at hd q_202 rfl (by simp [*]) rfl
/-! FanHouseModel.strainBy(II)I -/
theorem b_203_0 {d : Nat} {m : Nat → Nat → Int} {q : Nat → Nat → Option Nat} {w : Option (Nat → Int64)} {v1 v2 : Int}   : gv d rR203 0 [some (.ref 363), some (.int (iI v1)), some (.int (iI v2))] [] (mk m q w) =
    rBd (ev d 201 [.ref 363] (mk m q w)) (fun v M' => gv d rR203 21 [some (.ref 363), some (.int (iI v1)), some (.int (iI v2))] (v.toList ++ [.int (iI (m 377 44)), .int (iI (m 377 42)), .int (iI v2), .int (iI v1), .ref 363]) M') := by
  refine Eq.trans (k_ald0 rfl) ?_
  refine Eq.trans (k_ild1 rfl) ?_
  refine Eq.trans (k_ild2 rfl) ?_
  refine Eq.trans (k_ald0 rfl) ?_
  refine Eq.trans (k_gtR rfl s_363 rfl (by decide)) ?_
  refine Eq.trans (k_bip rfl (by decide)) ?_
  refine Eq.trans (k_iald rfl s_377 (bl rfl) (by decide) (by decide)) ?_
  refine Eq.trans (k_ald0 rfl) ?_
  refine Eq.trans (k_gtR rfl s_363 rfl (by decide)) ?_
  refine Eq.trans (k_bip rfl (by decide)) ?_
  refine Eq.trans (k_iald rfl s_377 (bl rfl) (by decide) (by decide)) ?_
  refine Eq.trans (k_ald0 rfl) ?_
  exact k_cV0 rfl s_363 q_201 rfl rfl rfl (bl rfl)
theorem b_203_21 {d : Nat} {m : Nat → Nat → Int} {q : Nat → Nat → Option Nat} {w : Option (Nat → Int64)} {u1 u2 : Option Value} {s1 s2 s3 s4 s5 : Int}   : gv d rR203 21 [some (.ref 363), u1, u2] [.int (iI s5), .int (iI s4), .int (iI s3), .int (iI s2), .int (iI s1), .ref 363] (mk m q w) =
    rBd (ev d 202 [.ref 363, .int (iI s1), .int (iI s2), .int (iI s3), .int (iI s4), .int (iI s5), .int (iI (m 377 43)), .int (iI (m 377 47))] (mk m q w)) (fun v M' => gv d rR203 38 [some (.ref 363), u1, u2] (v.toList ++ []) M') := by
  refine Eq.trans (k_ald0 rfl) ?_
  refine Eq.trans (k_gtR rfl s_363 rfl (by decide)) ?_
  refine Eq.trans (k_bip rfl (by decide)) ?_
  refine Eq.trans (k_iald rfl s_377 (bl rfl) (by decide) (by decide)) ?_
  refine Eq.trans (k_ald0 rfl) ?_
  refine Eq.trans (k_gtR rfl s_363 rfl (by decide)) ?_
  refine Eq.trans (k_bip rfl (by decide)) ?_
  refine Eq.trans (k_iald rfl s_377 (bl rfl) (by decide) (by decide)) ?_
  exact k_cV7 rfl s_363 q_202 rfl rfl rfl (bl rfl)
theorem b_203_38 {d : Nat} {m : Nat → Nat → Int} {q : Nat → Nat → Option Nat} {w : Option (Nat → Int64)} {u0 u1 u2 : Option Value} {s0 : Int}   : gv d rR203 38 [u0, u1, u2] [.int (iI s0)] (mk m q w) =
    some (.inl (some (.int (iI s0))), (mk m q w, (0, 0))) := by
  exact k_rtI rfl rfl
theorem e_203 {d : Nat} (hd : 1 ≤ d) {a0 a1 a2 : Value} (M : rMem) (h0 : a0.category = 1) (h1 : a1.category = 1) (h2 : a2.category = 1) : ev d 203 [a0, a1, a2] M = gv (d - 1) rR203 0 [some a0, some a1, some a2] [] M := ev_at hd q_203 rfl (by simp [*]) rfl
/-! FanHouseModel.isOpened(II)Z -/
theorem b_204_0 {d : Nat} {m : Nat → Nat → Int} {q : Nat → Nat → Option Nat} {w : Option (Nat → Int64)} {v1 v2 : Int}   : gv d rR204 0 [some (.ref 363), some (.int (iI v1)), some (.int (iI v2))] [] (mk m q w) =
    if iI 0 < iI (m 377 46) then (gv d rR204 39 [some (.ref 363), some (.int (iI v1)), some (.int (iI v2))] [] (mk m q w)) else (if iI (m 363 15) < iI v2 then (gv d rR204 39 [some (.ref 363), some (.int (iI v1)), some (.int (iI v2))] [] (mk m q w)) else (rBd (ev d 203 [.ref 363, .int (iI v1), .int (iI v2)] (mk m q w)) (fun v M' => gv d rR204 31 [some (.ref 363), some (.int (iI v1)), some (.int (iI v2))] (v.toList ++ [.int (iI (m 377 42))]) M'))) := by
  refine Eq.trans (k_ald0 rfl) ?_
  refine Eq.trans (k_gtR rfl s_363 rfl (by decide)) ?_
  refine Eq.trans (k_bip rfl (by decide)) ?_
  refine Eq.trans (k_iald rfl s_377 (bl rfl) (by decide) (by decide)) ?_
  refine Eq.trans (k_i1gt rfl rfl) ?_
  refine ifc ?_ ?_
  · exact rfl
  · refine Eq.trans (k_ild2 rfl) ?_
    refine Eq.trans (k_ald0 rfl) ?_
    refine Eq.trans (k_gtI rfl s_363 rfl (by decide)) ?_
    refine Eq.trans (k_i2gt rfl rfl) ?_
    refine ifc ?_ ?_
    · exact rfl
    · refine Eq.trans (k_ald0 rfl) ?_
      refine Eq.trans (k_gtR rfl s_363 rfl (by decide)) ?_
      refine Eq.trans (k_bip rfl (by decide)) ?_
      refine Eq.trans (k_iald rfl s_377 (bl rfl) (by decide) (by decide)) ?_
      refine Eq.trans (k_ald0 rfl) ?_
      refine Eq.trans (k_ild1 rfl) ?_
      refine Eq.trans (k_ild2 rfl) ?_
      exact k_cV2 rfl s_363 q_203 rfl rfl rfl (bl rfl)
theorem b_204_31 {d : Nat} {m : Nat → Nat → Int} {q : Nat → Nat → Option Nat} {w : Option (Nat → Int64)} {v1 v2 s0 s1 : Int}   : gv d rR204 31 [some (.ref 363), some (.int (iI v1)), some (.int (iI v2))] [.int (iI s1), .int (iI s0)] (mk m q w) =
    if iI (m 363 16) < iI (s0 + s1) then (gv d rR204 39 [some (.ref 363), some (.int (iI v1)), some (.int (iI v2))] [] (mk m q w)) else (rBd (ev d 203 [.ref 363, .int (iI v1), .int (iI v2)] (mk m q w)) (fun v M' => gv d rR204 55 [some (.ref 363), some (.int (iI v1)), some (.int (iI v2))] (v.toList ++ [.int (iI (m 377 42)), .int (iI 42), .ref 377]) M')) := by
  refine Eq.trans (k_add rfl) ?_
  refine Eq.trans (k_ald0 rfl) ?_
  refine Eq.trans (k_gtI rfl s_363 rfl (by decide)) ?_
  refine Eq.trans (k_i2le rfl rfl) ?_
  refine ifc ?_ ?_
  · exact rfl
  · refine Eq.trans (k_ald0 rfl) ?_
    refine Eq.trans (k_gtR rfl s_363 rfl (by decide)) ?_
    refine Eq.trans (k_bip rfl (by decide)) ?_
    refine Eq.trans (k_du2 rfl ⟨rfl, rfl⟩) ?_
    refine Eq.trans (k_iald rfl s_377 (bl rfl) (by decide) (by decide)) ?_
    refine Eq.trans (k_ald0 rfl) ?_
    refine Eq.trans (k_ild1 rfl) ?_
    refine Eq.trans (k_ild2 rfl) ?_
    exact k_cV2 rfl s_363 q_203 rfl rfl rfl (bl rfl)
theorem b_204_39 {d : Nat} {m : Nat → Nat → Int} {q : Nat → Nat → Option Nat} {w : Option (Nat → Int64)} {u0 u1 u2 : Option Value}   : gv d rR204 39 [u0, u1, u2] [] (mk m q w) =
    some (.inl (some (.int (iI 0))), (mk m q w, (0, 0))) := by
  refine Eq.trans (k_con rfl) ?_
  exact k_rtZ rfl rfl (Or.inl rfl)
theorem b_204_55 {d : Nat} {m : Nat → Nat → Int} {q : Nat → Nat → Option Nat} {w : Option (Nat → Int64)} {v1 v2 s1 s2 s3 : Int}  (g0 : 0 ≤ s1) (g1 : s1 < 48) : gv d rR204 55 [some (.ref 363), some (.int (iI v1)), some (.int (iI v2))] [.int (iI s3), .int (iI s2), .int (iI s1), .ref 377] (mk m q w) =
    some (.inl (some (.int (iI 1))), (mk (wr (wr (wr (wr m 377 (Int.toNat s1) (s2 + s3)) 377 45 v1) 377 46 v2) 377 44 (((wr (wr (wr m 377 (Int.toNat s1) (s2 + s3)) 377 45 v1) 377 46 v2) 377 44) + 1)) q w, (0, 0))) := by
  refine Eq.trans (k_add rfl) ?_
  refine Eq.trans (k_iast rfl s_377 (bl rfl) g0 g1) ?_
  refine Eq.trans (k_ald0 rfl) ?_
  refine Eq.trans (k_gtR rfl s_363 rfl (by decide)) ?_
  refine Eq.trans (k_bip rfl (by decide)) ?_
  refine Eq.trans (k_ild1 rfl) ?_
  refine Eq.trans (k_iast rfl s_377 (bl rfl) (by decide) (by decide)) ?_
  refine Eq.trans (k_ald0 rfl) ?_
  refine Eq.trans (k_gtR rfl s_363 rfl (by decide)) ?_
  refine Eq.trans (k_bip rfl (by decide)) ?_
  refine Eq.trans (k_ild2 rfl) ?_
  refine Eq.trans (k_iast rfl s_377 (bl rfl) (by decide) (by decide)) ?_
  refine Eq.trans (k_ald0 rfl) ?_
  refine Eq.trans (k_gtR rfl s_363 rfl (by decide)) ?_
  refine Eq.trans (k_bip rfl (by decide)) ?_
  refine Eq.trans (k_du2 rfl ⟨rfl, rfl⟩) ?_
  refine Eq.trans (k_iald rfl s_377 (bl rfl) (by decide) (by decide)) ?_
  refine Eq.trans (k_con rfl) ?_
  refine Eq.trans (k_add rfl) ?_
  refine Eq.trans (k_iast rfl s_377 (bl rfl) (by decide) (by decide)) ?_
  refine Eq.trans (k_con rfl) ?_
  exact k_rtZ rfl rfl (Or.inr rfl)
theorem e_204 {d : Nat} (hd : 1 ≤ d) {a0 a1 a2 : Value} (M : rMem) (h0 : a0.category = 1) (h1 : a1.category = 1) (h2 : a2.category = 1) : ev d 204 [a0, a1, a2] M = gv (d - 1) rR204 0 [some a0, some a1, some a2] [] M := ev_at hd q_204 rfl (by simp [*]) rfl
/-! FanHouseModel.isShut()Z -/
theorem b_205_0 {d : Nat} {m : Nat → Nat → Int} {q : Nat → Nat → Option Nat} {w : Option (Nat → Int64)}   : gv d rR205 0 [some (.ref 363)] [] (mk m q w) =
    if iI (m 377 46) = iI 0 then (some (.inl (some (.int (iI 0))), (mk m q w, (0, 0)))) else (some (.inl (some (.int (iI 1))), (mk (wr (wr m 377 46 0) 377 45 (-1)) q w, (0, 0)))) := by
  refine Eq.trans (k_ald0 rfl) ?_
  refine Eq.trans (k_gtR rfl s_363 rfl (by decide)) ?_
  refine Eq.trans (k_bip rfl (by decide)) ?_
  refine Eq.trans (k_iald rfl s_377 (bl rfl) (by decide) (by decide)) ?_
  refine Eq.trans (k_i1ne rfl rfl) ?_
  refine ifc ?_ ?_
  · refine Eq.trans (k_con rfl) ?_
    exact k_rtZ rfl rfl (Or.inl rfl)
  · refine Eq.trans (k_ald0 rfl) ?_
    refine Eq.trans (k_gtR rfl s_363 rfl (by decide)) ?_
    refine Eq.trans (k_bip rfl (by decide)) ?_
    refine Eq.trans (k_con rfl) ?_
    refine Eq.trans (k_iast rfl s_377 (bl rfl) (by decide) (by decide)) ?_
    refine Eq.trans (k_ald0 rfl) ?_
    refine Eq.trans (k_gtR rfl s_363 rfl (by decide)) ?_
    refine Eq.trans (k_bip rfl (by decide)) ?_
    refine Eq.trans (k_con rfl) ?_
    refine Eq.trans (k_iast rfl s_377 (bl rfl) (by decide) (by decide)) ?_
    refine Eq.trans (k_con rfl) ?_
    exact k_rtZ rfl rfl (Or.inr rfl)
theorem e_205 {d : Nat} (hd : 1 ≤ d) {a0 : Value} (M : rMem) (h0 : a0.category = 1) : ev d 205 [a0] M = gv (d - 1) rR205 0 [some a0] [] M := ev_at hd q_205 rfl (by simp [*]) rfl
/-! FanHouseModel.isSwapped(II)Z -/
theorem b_206_0 {d : Nat} {m : Nat → Nat → Int} {q : Nat → Nat → Option Nat} {w : Option (Nat → Int64)} {u3 : Option Value} {v1 v2 : Int}   : gv d rR206 0 [some (.ref 363), some (.int (iI v1)), some (.int (iI v2)), u3] [] (mk m q w) =
    if iI 0 < iI (m 377 46) then (gv d rR206 15 [some (.ref 363), some (.int (iI v1)), some (.int (iI v2)), u3] [] (mk m q w)) else (if iI v1 = iI v2 then (gv d rR206 15 [some (.ref 363), some (.int (iI v1)), some (.int (iI v2)), u3] [] (mk m q w)) else (gv d rR206 17 [some (.ref 363), some (.int (iI v1)), some (.int (iI v2)), u3] [] (mk m q w))) := by
  refine Eq.trans (k_ald0 rfl) ?_
  refine Eq.trans (k_gtR rfl s_363 rfl (by decide)) ?_
  refine Eq.trans (k_bip rfl (by decide)) ?_
  refine Eq.trans (k_iald rfl s_377 (bl rfl) (by decide) (by decide)) ?_
  refine Eq.trans (k_i1gt rfl rfl) ?_
  refine ifc ?_ ?_
  · exact rfl
  · refine Eq.trans (k_ild1 rfl) ?_
    refine Eq.trans (k_ild2 rfl) ?_
    refine Eq.trans (k_i2ne rfl rfl) ?_
    refine ifc ?_ ?_
    · exact rfl
    · exact rfl
theorem b_206_15 {d : Nat} {m : Nat → Nat → Int} {q : Nat → Nat → Option Nat} {w : Option (Nat → Int64)} {u0 u1 u2 u3 : Option Value}   : gv d rR206 15 [u0, u1, u2, u3] [] (mk m q w) =
    some (.inl (some (.int (iI 0))), (mk m q w, (0, 0))) := by
  refine Eq.trans (k_con rfl) ?_
  exact k_rtZ rfl rfl (Or.inl rfl)
theorem b_206_17 {d : Nat} {m : Nat → Nat → Int} {q : Nat → Nat → Option Nat} {w : Option (Nat → Int64)} {u3 : Option Value} {v1 v2 : Int}  (g0 : 0 ≤ (28 + v1)) (g1 : (28 + v1) < 48) (g2 : 0 ≤ (28 + v2)) (g3 : (28 + v2) < 48) : gv d rR206 17 [some (.ref 363), some (.int (iI v1)), some (.int (iI v2)), u3] [] (mk m q w) =
    some (.inl (some (.int (iI 1))), (mk (wr (wr m 377 (Int.toNat (28 + v1)) (m 377 (Int.toNat (28 + v2)))) 377 (Int.toNat (28 + v2)) (m 377 (Int.toNat (28 + v1)))) q w, (0, 0))) := by
  refine Eq.trans (k_ald0 rfl) ?_
  refine Eq.trans (k_gtR rfl s_363 rfl (by decide)) ?_
  refine Eq.trans (k_bip rfl (by decide)) ?_
  refine Eq.trans (k_ild1 rfl) ?_
  refine Eq.trans (k_add rfl) ?_
  refine Eq.trans (k_iald rfl s_377 (bl rfl) g0 g1) ?_
  refine Eq.trans (k_ist3 rfl) ?_
  refine Eq.trans (k_ald0 rfl) ?_
  refine Eq.trans (k_gtR rfl s_363 rfl (by decide)) ?_
  refine Eq.trans (k_bip rfl (by decide)) ?_
  refine Eq.trans (k_ild1 rfl) ?_
  refine Eq.trans (k_add rfl) ?_
  refine Eq.trans (k_ald0 rfl) ?_
  refine Eq.trans (k_gtR rfl s_363 rfl (by decide)) ?_
  refine Eq.trans (k_bip rfl (by decide)) ?_
  refine Eq.trans (k_ild2 rfl) ?_
  refine Eq.trans (k_add rfl) ?_
  refine Eq.trans (k_iald rfl s_377 (bl rfl) g2 g3) ?_
  refine Eq.trans (k_iast rfl s_377 (bl rfl) g0 g1) ?_
  refine Eq.trans (k_ald0 rfl) ?_
  refine Eq.trans (k_gtR rfl s_363 rfl (by decide)) ?_
  refine Eq.trans (k_bip rfl (by decide)) ?_
  refine Eq.trans (k_ild2 rfl) ?_
  refine Eq.trans (k_add rfl) ?_
  refine Eq.trans (k_ild3 rfl) ?_
  refine Eq.trans (k_iast rfl s_377 (bl rfl) g2 g3) ?_
  refine Eq.trans (k_con rfl) ?_
  exact k_rtZ rfl rfl (Or.inr rfl)
theorem e_206 {d : Nat} (hd : 1 ≤ d) {a0 a1 a2 : Value} (M : rMem) (h0 : a0.category = 1) (h1 : a1.category = 1) (h2 : a2.category = 1) : ev d 206 [a0, a1, a2] M = gv (d - 1) rR206 0 [some a0, some a1, some a2, none] [] M := ev_at hd q_206 rfl (by simp [*]) rfl
/-! FanHouseModel.isTurned(I)Z -/
theorem b_207_0 {d : Nat} {m : Nat → Nat → Int} {q : Nat → Nat → Option Nat} {w : Option (Nat → Int64)} {v1 : Int}   : gv d rR207 0 [some (.ref 363), some (.int (iI v1))] [] (mk m q w) =
    if iI 0 < iI (m 377 46) then (some (.inl (some (.int (iI 0))), (mk m q w, (0, 0)))) else (gv d rR207 12 [some (.ref 363), some (.int (iI v1))] [] (mk m q w)) := by
  refine Eq.trans (k_ald0 rfl) ?_
  refine Eq.trans (k_gtR rfl s_363 rfl (by decide)) ?_
  refine Eq.trans (k_bip rfl (by decide)) ?_
  refine Eq.trans (k_iald rfl s_377 (bl rfl) (by decide) (by decide)) ?_
  refine Eq.trans (k_i1le rfl rfl) ?_
  refine ifc ?_ ?_
  · refine Eq.trans (k_con rfl) ?_
    exact k_rtZ rfl rfl (Or.inl rfl)
  · exact rfl
theorem b_207_12 {d : Nat} {m : Nat → Nat → Int} {q : Nat → Nat → Option Nat} {w : Option (Nat → Int64)} {v1 : Int}  (g0 : 0 ≤ (28 + v1)) (g1 : (28 + v1) < 48) (g2 : 0 ≤ (35 + (m 377 (Int.toNat (28 + v1))))) (g3 : (35 + (m 377 (Int.toNat (28 + v1)))) < 48) : gv d rR207 12 [some (.ref 363), some (.int (iI v1))] [] (mk m q w) =
    some (.inl (some (.int (iI 1))), (mk (wr m 377 (Int.toNat (35 + (m 377 (Int.toNat (28 + v1))))) (1 - (m 377 (Int.toNat (35 + (m 377 (Int.toNat (28 + v1)))))))) q w, (0, 0))) := by
  refine Eq.trans (k_ald0 rfl) ?_
  refine Eq.trans (k_gtR rfl s_363 rfl (by decide)) ?_
  refine Eq.trans (k_bip rfl (by decide)) ?_
  refine Eq.trans (k_ald0 rfl) ?_
  refine Eq.trans (k_gtR rfl s_363 rfl (by decide)) ?_
  refine Eq.trans (k_bip rfl (by decide)) ?_
  refine Eq.trans (k_ild1 rfl) ?_
  refine Eq.trans (k_add rfl) ?_
  refine Eq.trans (k_iald rfl s_377 (bl rfl) g0 g1) ?_
  refine Eq.trans (k_add rfl) ?_
  refine Eq.trans (k_con rfl) ?_
  refine Eq.trans (k_ald0 rfl) ?_
  refine Eq.trans (k_gtR rfl s_363 rfl (by decide)) ?_
  refine Eq.trans (k_bip rfl (by decide)) ?_
  refine Eq.trans (k_ald0 rfl) ?_
  refine Eq.trans (k_gtR rfl s_363 rfl (by decide)) ?_
  refine Eq.trans (k_bip rfl (by decide)) ?_
  refine Eq.trans (k_ild1 rfl) ?_
  refine Eq.trans (k_add rfl) ?_
  refine Eq.trans (k_iald rfl s_377 (bl rfl) g0 g1) ?_
  refine Eq.trans (k_add rfl) ?_
  refine Eq.trans (k_iald rfl s_377 (bl rfl) g2 g3) ?_
  refine Eq.trans (k_sub rfl) ?_
  refine Eq.trans (k_iast rfl s_377 (bl rfl) g2 g3) ?_
  refine Eq.trans (k_con rfl) ?_
  exact k_rtZ rfl rfl (Or.inr rfl)
theorem e_207 {d : Nat} (hd : 1 ≤ d) {a0 a1 : Value} (M : rMem) (h0 : a0.category = 1) (h1 : a1.category = 1) : ev d 207 [a0, a1] M = gv (d - 1) rR207 0 [some a0, some a1] [] M := ev_at hd q_207 rfl (by simp [*]) rfl
/-! FanHouseModel.markBy(III)I -/
theorem b_208_0 {d : Nat} {m : Nat → Nat → Int} {q : Nat → Nat → Option Nat} {w : Option (Nat → Int64)} {v1 v2 v3 : Int}   : gv d rR208 0 [some (.ref 363), some (.int (iI v1)), some (.int (iI v2)), some (.int (iI v3))] [] (mk m q w) =
    if iI v2 = iI 1 then (gv d rR208 19 [some (.ref 363), some (.int (iI v1)), some (.int (iI v2)), some (.int (iI v3))] [.int (iI (3 - v3)), .int (iI (4 * v1)), .ref 377] (mk m q w)) else (gv d rR208 19 [some (.ref 363), some (.int (iI v1)), some (.int (iI v2)), some (.int (iI v3))] [.int (iI v3), .int (iI (4 * v1)), .ref 377] (mk m q w)) := by
  refine Eq.trans (k_ald0 rfl) ?_
  refine Eq.trans (k_gtR rfl s_363 rfl (by decide)) ?_
  refine Eq.trans (k_con rfl) ?_
  refine Eq.trans (k_ild1 rfl) ?_
  refine Eq.trans (k_mul rfl) ?_
  refine Eq.trans (k_ild2 rfl) ?_
  refine Eq.trans (k_con rfl) ?_
  refine Eq.trans (k_i2ne rfl rfl) ?_
  refine ifc ?_ ?_
  · refine Eq.trans (k_con rfl) ?_
    refine Eq.trans (k_ild3 rfl) ?_
    refine Eq.trans (k_sub rfl) ?_
    refine Eq.trans (k_go rfl rfl) ?_
    exact rfl
  · refine Eq.trans (k_ild3 rfl) ?_
    exact rfl
theorem b_208_19 {d : Nat} {m : Nat → Nat → Int} {q : Nat → Nat → Option Nat} {w : Option (Nat → Int64)} {u0 u1 u2 u3 : Option Value} {s1 s2 : Int}  (g0 : 0 ≤ (s1 + s2)) (g1 : (s1 + s2) < 48) : gv d rR208 19 [u0, u1, u2, u3] [.int (iI s2), .int (iI s1), .ref 377] (mk m q w) =
    some (.inl (some (.int (iI (m 377 (Int.toNat (s1 + s2)))))), (mk m q w, (0, 0))) := by
  refine Eq.trans (k_add rfl) ?_
  refine Eq.trans (k_iald rfl s_377 (bl rfl) g0 g1) ?_
  exact k_rtI rfl rfl
theorem e_208 {d : Nat} (hd : 1 ≤ d) {a0 a1 a2 a3 : Value} (M : rMem) (h0 : a0.category = 1) (h1 : a1.category = 1) (h2 : a2.category = 1) (h3 : a3.category = 1) : ev d 208 [a0, a1, a2, a3] M = gv (d - 1) rR208 0 [some a0, some a1, some a2, some a3] [] M := ev_at hd q_208 rfl (by simp [*]) rfl
/-! FanHouseModel.markOf(II)I -/
theorem b_209_0 {d : Nat} {m : Nat → Nat → Int} {q : Nat → Nat → Option Nat} {w : Option (Nat → Int64)} {v1 v2 : Int}  (g0 : 0 ≤ (35 + v1)) (g1 : (35 + v1) < 48) : gv d rR209 0 [some (.ref 363), some (.int (iI v1)), some (.int (iI v2))] [] (mk m q w) =
    rBd (ev d 208 [.ref 363, .int (iI v1), .int (iI (m 377 (Int.toNat (35 + v1)))), .int (iI v2)] (mk m q w)) (fun v M' => gv d rR209 15 [some (.ref 363), some (.int (iI v1)), some (.int (iI v2))] (v.toList ++ []) M') := by
  refine Eq.trans (k_ald0 rfl) ?_
  refine Eq.trans (k_ild1 rfl) ?_
  refine Eq.trans (k_ald0 rfl) ?_
  refine Eq.trans (k_gtR rfl s_363 rfl (by decide)) ?_
  refine Eq.trans (k_bip rfl (by decide)) ?_
  refine Eq.trans (k_ild1 rfl) ?_
  refine Eq.trans (k_add rfl) ?_
  refine Eq.trans (k_iald rfl s_377 (bl rfl) g0 g1) ?_
  refine Eq.trans (k_ild2 rfl) ?_
  exact k_cV3 rfl s_363 q_208 rfl rfl rfl (bl rfl)
theorem b_209_15 {d : Nat} {m : Nat → Nat → Int} {q : Nat → Nat → Option Nat} {w : Option (Nat → Int64)} {u0 u1 u2 : Option Value} {s0 : Int}   : gv d rR209 15 [u0, u1, u2] [.int (iI s0)] (mk m q w) =
    some (.inl (some (.int (iI s0))), (mk m q w, (0, 0))) := by
  exact k_rtI rfl rfl
theorem e_209 {d : Nat} (hd : 1 ≤ d) {a0 a1 a2 : Value} (M : rMem) (h0 : a0.category = 1) (h1 : a1.category = 1) (h2 : a2.category = 1) : ev d 209 [a0, a1, a2] M = gv (d - 1) rR209 0 [some a0, some a1, some a2] [] M := ev_at hd q_209 rfl (by simp [*]) rfl
/-! FanHouseModel.isPainted(III)Z -/
theorem b_210_0 {d : Nat} {m : Nat → Nat → Int} {q : Nat → Nat → Option Nat} {w : Option (Nat → Int64)} {u4 : Option Value} {v1 v2 v3 : Int}  (g0 : 0 ≤ (28 + v1)) (g1 : (28 + v1) < 48) : gv d rR210 0 [some (.ref 363), some (.int (iI v1)), some (.int (iI v2)), some (.int (iI v3)), u4] [] (mk m q w) =
    if iI (m 377 43) = iI 0 then (gv d rR210 32 [some (.ref 363), some (.int (iI v1)), some (.int (iI v2)), some (.int (iI v3)), some (.int (iI (m 377 (Int.toNat (28 + v1)))))] [] (mk m q w)) else (rBd (ev d 209 [.ref 363, .int (iI (m 377 (Int.toNat (28 + v1)))), .int (iI v2)] (mk m q w)) (fun v M' => gv d rR210 28 [some (.ref 363), some (.int (iI v1)), some (.int (iI v2)), some (.int (iI v3)), some (.int (iI (m 377 (Int.toNat (28 + v1)))))] (v.toList ++ []) M')) := by
  refine Eq.trans (k_ald0 rfl) ?_
  refine Eq.trans (k_gtR rfl s_363 rfl (by decide)) ?_
  refine Eq.trans (k_bip rfl (by decide)) ?_
  refine Eq.trans (k_ild1 rfl) ?_
  refine Eq.trans (k_add rfl) ?_
  refine Eq.trans (k_iald rfl s_377 (bl rfl) g0 g1) ?_
  refine Eq.trans (k_ist4 rfl) ?_
  refine Eq.trans (k_ald0 rfl) ?_
  refine Eq.trans (k_gtR rfl s_363 rfl (by decide)) ?_
  refine Eq.trans (k_bip rfl (by decide)) ?_
  refine Eq.trans (k_iald rfl s_377 (bl rfl) (by decide) (by decide)) ?_
  refine Eq.trans (k_i1eq rfl rfl) ?_
  refine ifc ?_ ?_
  · exact rfl
  · refine Eq.trans (k_ald0 rfl) ?_
    refine Eq.trans (k_ild4 rfl) ?_
    refine Eq.trans (k_ild2 rfl) ?_
    exact k_cV2 rfl s_363 q_209 rfl rfl rfl (bl rfl)
theorem b_210_28 {d : Nat} {m : Nat → Nat → Int} {q : Nat → Nat → Option Nat} {w : Option (Nat → Int64)} {u1 : Option Value} {v2 v3 v4 s0 : Int}   : gv d rR210 28 [some (.ref 363), u1, some (.int (iI v2)), some (.int (iI v3)), some (.int (iI v4))] [.int (iI s0)] (mk m q w) =
    if iI s0 = iI v3 then (gv d rR210 32 [some (.ref 363), u1, some (.int (iI v2)), some (.int (iI v3)), some (.int (iI v4))] [] (mk m q w)) else (gv d rR210 34 [some (.ref 363), u1, some (.int (iI v2)), some (.int (iI v3)), some (.int (iI v4))] [] (mk m q w)) := by
  refine Eq.trans (k_ild3 rfl) ?_
  refine Eq.trans (k_i2ne rfl rfl) ?_
  refine ifc ?_ ?_
  · exact rfl
  · exact rfl
theorem b_210_32 {d : Nat} {m : Nat → Nat → Int} {q : Nat → Nat → Option Nat} {w : Option (Nat → Int64)} {u0 u1 u2 u3 u4 : Option Value}   : gv d rR210 32 [u0, u1, u2, u3, u4] [] (mk m q w) =
    some (.inl (some (.int (iI 0))), (mk m q w, (0, 0))) := by
  refine Eq.trans (k_con rfl) ?_
  exact k_rtZ rfl rfl (Or.inl rfl)
theorem b_210_34 {d : Nat} {m : Nat → Nat → Int} {q : Nat → Nat → Option Nat} {w : Option (Nat → Int64)} {u1 : Option Value} {v2 v3 v4 : Int}  (g0 : 0 ≤ (35 + v4)) (g1 : (35 + v4) < 48) : gv d rR210 34 [some (.ref 363), u1, some (.int (iI v2)), some (.int (iI v3)), some (.int (iI v4))] [] (mk m q w) =
    if iI (m 377 (Int.toNat (35 + v4))) = iI 1 then (gv d rR210 63 [some (.ref 363), u1, some (.int (iI v2)), some (.int (iI v3)), some (.int (iI v4))] [.int (iI (3 - v2)), .int (iI (4 * v4)), .ref 377] (mk m q w)) else (gv d rR210 63 [some (.ref 363), u1, some (.int (iI v2)), some (.int (iI v3)), some (.int (iI v4))] [.int (iI v2), .int (iI (4 * v4)), .ref 377] (mk m q w)) := by
  refine Eq.trans (k_ald0 rfl) ?_
  refine Eq.trans (k_gtR rfl s_363 rfl (by decide)) ?_
  refine Eq.trans (k_con rfl) ?_
  refine Eq.trans (k_ild4 rfl) ?_
  refine Eq.trans (k_mul rfl) ?_
  refine Eq.trans (k_ald0 rfl) ?_
  refine Eq.trans (k_gtR rfl s_363 rfl (by decide)) ?_
  refine Eq.trans (k_bip rfl (by decide)) ?_
  refine Eq.trans (k_ild4 rfl) ?_
  refine Eq.trans (k_add rfl) ?_
  refine Eq.trans (k_iald rfl s_377 (bl rfl) g0 g1) ?_
  refine Eq.trans (k_con rfl) ?_
  refine Eq.trans (k_i2ne rfl rfl) ?_
  refine ifc ?_ ?_
  · refine Eq.trans (k_con rfl) ?_
    refine Eq.trans (k_ild2 rfl) ?_
    refine Eq.trans (k_sub rfl) ?_
    refine Eq.trans (k_go rfl rfl) ?_
    exact rfl
  · refine Eq.trans (k_ild2 rfl) ?_
    exact rfl
theorem b_210_63 {d : Nat} {m : Nat → Nat → Int} {q : Nat → Nat → Option Nat} {w : Option (Nat → Int64)} {u1 u2 u4 : Option Value} {v3 s1 s2 : Int}  (g0 : 0 ≤ (s1 + s2)) (g1 : (s1 + s2) < 48) : gv d rR210 63 [some (.ref 363), u1, u2, some (.int (iI v3)), u4] [.int (iI s2), .int (iI s1), .ref 377] (mk m q w) =
    some (.inl (some (.int (iI 1))), (mk (wr (wr m 377 (Int.toNat (s1 + s2)) v3) 377 43 (((wr m 377 (Int.toNat (s1 + s2)) v3) 377 43) - 1)) q w, (0, 0))) := by
  refine Eq.trans (k_add rfl) ?_
  refine Eq.trans (k_ild3 rfl) ?_
  refine Eq.trans (k_iast rfl s_377 (bl rfl) g0 g1) ?_
  refine Eq.trans (k_ald0 rfl) ?_
  refine Eq.trans (k_gtR rfl s_363 rfl (by decide)) ?_
  refine Eq.trans (k_bip rfl (by decide)) ?_
  refine Eq.trans (k_du2 rfl ⟨rfl, rfl⟩) ?_
  refine Eq.trans (k_iald rfl s_377 (bl rfl) (by decide) (by decide)) ?_
  refine Eq.trans (k_con rfl) ?_
  refine Eq.trans (k_sub rfl) ?_
  refine Eq.trans (k_iast rfl s_377 (bl rfl) (by decide) (by decide)) ?_
  refine Eq.trans (k_con rfl) ?_
  exact k_rtZ rfl rfl (Or.inr rfl)
theorem e_210 {d : Nat} (hd : 1 ≤ d) {a0 a1 a2 a3 : Value} (M : rMem) (h0 : a0.category = 1) (h1 : a1.category = 1) (h2 : a2.category = 1) (h3 : a3.category = 1) : ev d 210 [a0, a1, a2, a3] M = gv (d - 1) rR210 0 [some a0, some a1, some a2, some a3, none] [] M := ev_at hd q_210 rfl (by simp [*]) rfl
/-! FanHouseModel.isOiled()Z -/
theorem b_211_0 {d : Nat} {m : Nat → Nat → Int} {q : Nat → Nat → Option Nat} {w : Option (Nat → Int64)}   : gv d rR211 0 [some (.ref 363)] [] (mk m q w) =
    if iI (m 377 42) = iI 0 then (some (.inl (some (.int (iI 0))), (mk m q w, (0, 0)))) else (some (.inl (some (.int (iI 1))), (mk (wr m 377 42 (zDiv (m 377 42) 2)) q w, (0, 0)))) := by
  refine Eq.trans (k_ald0 rfl) ?_
  refine Eq.trans (k_gtR rfl s_363 rfl (by decide)) ?_
  refine Eq.trans (k_bip rfl (by decide)) ?_
  refine Eq.trans (k_iald rfl s_377 (bl rfl) (by decide) (by decide)) ?_
  refine Eq.trans (k_i1ne rfl rfl) ?_
  refine ifc ?_ ?_
  · refine Eq.trans (k_con rfl) ?_
    exact k_rtZ rfl rfl (Or.inl rfl)
  · refine Eq.trans (k_ald0 rfl) ?_
    refine Eq.trans (k_gtR rfl s_363 rfl (by decide)) ?_
    refine Eq.trans (k_bip rfl (by decide)) ?_
    refine Eq.trans (k_du2 rfl ⟨rfl, rfl⟩) ?_
    refine Eq.trans (k_iald rfl s_377 (bl rfl) (by decide) (by decide)) ?_
    refine Eq.trans (k_con rfl) ?_
    refine Eq.trans (k_div rfl (by decide)) ?_
    refine Eq.trans (k_iast rfl s_377 (bl rfl) (by decide) (by decide)) ?_
    refine Eq.trans (k_con rfl) ?_
    exact k_rtZ rfl rfl (Or.inr rfl)
theorem e_211 {d : Nat} (hd : 1 ≤ d) {a0 : Value} (M : rMem) (h0 : a0.category = 1) : ev d 211 [a0] M = gv (d - 1) rR211 0 [some a0] [] M := ev_at hd q_211 rfl (by simp [*]) rfl
/-! FanHouseModel.passes()V -/
theorem b_212_0 {d : Nat} {m : Nat → Nat → Int} {q : Nat → Nat → Option Nat} {w : Option (Nat → Int64)}   : gv d rR212 0 [some (.ref 363)] [] (mk m q w) =
    if iI 3 < iI (m 377 42) then (gv d rR212 30 [some (.ref 363)] [.int (iI ((m 377 42) - 3)), .int (iI 42), .ref 377] (mk m q w)) else (gv d rR212 30 [some (.ref 363)] [.int (iI 0), .int (iI 42), .ref 377] (mk m q w)) := by
  refine Eq.trans (k_ald0 rfl) ?_
  refine Eq.trans (k_gtR rfl s_363 rfl (by decide)) ?_
  refine Eq.trans (k_bip rfl (by decide)) ?_
  refine Eq.trans (k_ald0 rfl) ?_
  refine Eq.trans (k_gtR rfl s_363 rfl (by decide)) ?_
  refine Eq.trans (k_bip rfl (by decide)) ?_
  refine Eq.trans (k_iald rfl s_377 (bl rfl) (by decide) (by decide)) ?_
  refine Eq.trans (k_con rfl) ?_
  refine Eq.trans (k_i2le rfl rfl) ?_
  refine ifc ?_ ?_
  · refine Eq.trans (k_ald0 rfl) ?_
    refine Eq.trans (k_gtR rfl s_363 rfl (by decide)) ?_
    refine Eq.trans (k_bip rfl (by decide)) ?_
    refine Eq.trans (k_iald rfl s_377 (bl rfl) (by decide) (by decide)) ?_
    refine Eq.trans (k_con rfl) ?_
    refine Eq.trans (k_sub rfl) ?_
    refine Eq.trans (k_go rfl rfl) ?_
    exact rfl
  · refine Eq.trans (k_con rfl) ?_
    exact rfl
theorem b_212_30 {d : Nat} {m : Nat → Nat → Int} {q : Nat → Nat → Option Nat} {w : Option (Nat → Int64)} {s1 s2 : Int}  (g0 : 0 ≤ s1) (g1 : s1 < 48) : gv d rR212 30 [some (.ref 363)] [.int (iI s2), .int (iI s1), .ref 377] (mk m q w) =
    if iI 99 < iI (((wr m 377 (Int.toNat s1) s2) 377 43) + 2) then (gv d rR212 65 [some (.ref 363)] [.int (iI 99), .int (iI 43), .ref 377] (mk (wr m 377 (Int.toNat s1) s2) q w)) else (gv d rR212 65 [some (.ref 363)] [.int (iI (((wr m 377 (Int.toNat s1) s2) 377 43) + 2)), .int (iI 43), .ref 377] (mk (wr m 377 (Int.toNat s1) s2) q w)) := by
  refine Eq.trans (k_iast rfl s_377 (bl rfl) g0 g1) ?_
  refine Eq.trans (k_ald0 rfl) ?_
  refine Eq.trans (k_gtR rfl s_363 rfl (by decide)) ?_
  refine Eq.trans (k_bip rfl (by decide)) ?_
  refine Eq.trans (k_ald0 rfl) ?_
  refine Eq.trans (k_gtR rfl s_363 rfl (by decide)) ?_
  refine Eq.trans (k_bip rfl (by decide)) ?_
  refine Eq.trans (k_iald rfl s_377 (bl rfl) (by decide) (by decide)) ?_
  refine Eq.trans (k_con rfl) ?_
  refine Eq.trans (k_add rfl) ?_
  refine Eq.trans (k_bip rfl (by decide)) ?_
  refine Eq.trans (k_i2le rfl rfl) ?_
  refine ifc ?_ ?_
  · refine Eq.trans (k_bip rfl (by decide)) ?_
    refine Eq.trans (k_go rfl rfl) ?_
    exact rfl
  · refine Eq.trans (k_ald0 rfl) ?_
    refine Eq.trans (k_gtR rfl s_363 rfl (by decide)) ?_
    refine Eq.trans (k_bip rfl (by decide)) ?_
    refine Eq.trans (k_iald rfl s_377 (bl rfl) (by decide) (by decide)) ?_
    refine Eq.trans (k_con rfl) ?_
    refine Eq.trans (k_add rfl) ?_
    exact rfl
theorem b_212_65 {d : Nat} {m : Nat → Nat → Int} {q : Nat → Nat → Option Nat} {w : Option (Nat → Int64)} {s1 s2 : Int}  (g0 : 0 ≤ s1) (g1 : s1 < 48) : gv d rR212 65 [some (.ref 363)] [.int (iI s2), .int (iI s1), .ref 377] (mk m q w) =
    some (.inl none, (mk (wr (wr m 377 (Int.toNat s1) s2) 377 47 (((wr m 377 (Int.toNat s1) s2) 377 47) + 1)) q w, (0, 0))) := by
  refine Eq.trans (k_iast rfl s_377 (bl rfl) g0 g1) ?_
  refine Eq.trans (k_ald0 rfl) ?_
  refine Eq.trans (k_gtR rfl s_363 rfl (by decide)) ?_
  refine Eq.trans (k_bip rfl (by decide)) ?_
  refine Eq.trans (k_du2 rfl ⟨rfl, rfl⟩) ?_
  refine Eq.trans (k_iald rfl s_377 (bl rfl) (by decide) (by decide)) ?_
  refine Eq.trans (k_con rfl) ?_
  refine Eq.trans (k_add rfl) ?_
  refine Eq.trans (k_iast rfl s_377 (bl rfl) (by decide) (by decide)) ?_
  exact k_rtV rfl rfl
theorem e_212 {d : Nat} (hd : 1 ≤ d) {a0 : Value} (M : rMem) (h0 : a0.category = 1) : ev d 212 [a0] M = gv (d - 1) rR212 0 [some a0] [] M := ev_at hd q_212 rfl (by simp [*]) rfl
/-! FanHouseModel.isDone(IIII)Z -/
theorem b_213_0 {d : Nat} {m : Nat → Nat → Int} {q : Nat → Nat → Option Nat} {w : Option (Nat → Int64)} {v1 v2 v3 v4 : Int}   : gv d rR213 0 [some (.ref 363), some (.int (iI v1)), some (.int (iI v2)), some (.int (iI v3)), some (.int (iI v4))] [] (mk m q w) =
    if iI v1 = iI 0 then (rBd (ev d 204 [.ref 363, .int (iI v2), .int (iI v3)] (mk m q w)) (fun v M' => gv d rR213 10 [some (.ref 363), some (.int (iI v1)), some (.int (iI v2)), some (.int (iI v3)), some (.int (iI v4))] (v.toList ++ []) M')) else (if iI v1 = iI 1 then (rBd (ev d 205 [.ref 363] (mk m q w)) (fun v M' => gv d rR213 20 [some (.ref 363), some (.int (iI v1)), some (.int (iI v2)), some (.int (iI v3)), some (.int (iI v4))] (v.toList ++ []) M')) else (if iI v1 = iI 2 then (rBd (ev d 206 [.ref 363, .int (iI v2), .int (iI v3)] (mk m q w)) (fun v M' => gv d rR213 32 [some (.ref 363), some (.int (iI v1)), some (.int (iI v2)), some (.int (iI v3)), some (.int (iI v4))] (v.toList ++ []) M')) else (if iI v1 = iI 3 then (rBd (ev d 207 [.ref 363, .int (iI v2)] (mk m q w)) (fun v M' => gv d rR213 43 [some (.ref 363), some (.int (iI v1)), some (.int (iI v2)), some (.int (iI v3)), some (.int (iI v4))] (v.toList ++ []) M')) else (if iI v1 = iI 4 then (rBd (ev d 210 [.ref 363, .int (iI v2), .int (iI v3), .int (iI v4)] (mk m q w)) (fun v M' => gv d rR213 57 [some (.ref 363), some (.int (iI v1)), some (.int (iI v2)), some (.int (iI v3)), some (.int (iI v4))] (v.toList ++ []) M')) else (if iI v1 = iI 5 then (rBd (ev d 211 [.ref 363] (mk m q w)) (fun v M' => gv d rR213 67 [some (.ref 363), some (.int (iI v1)), some (.int (iI v2)), some (.int (iI v3)), some (.int (iI v4))] (v.toList ++ []) M')) else (if iI (m 377 47) < iI 400 then (rBd (ev d 212 [.ref 363] (mk m q w)) (fun v M' => gv d rR213 87 [some (.ref 363), some (.int (iI v1)), some (.int (iI v2)), some (.int (iI v3)), some (.int (iI v4))] (v.toList ++ []) M')) else (some (.inl (some (.int (iI 0))), (mk m q w, (0, 0)))))))))) := by
  refine Eq.trans (k_ild1 rfl) ?_
  refine Eq.trans (k_i1ne rfl rfl) ?_
  refine ifc ?_ ?_
  · refine Eq.trans (k_ald0 rfl) ?_
    refine Eq.trans (k_ild2 rfl) ?_
    refine Eq.trans (k_ild3 rfl) ?_
    exact k_cV2 rfl s_363 q_204 rfl rfl rfl (bl rfl)
  · refine Eq.trans (k_ild1 rfl) ?_
    refine Eq.trans (k_con rfl) ?_
    refine Eq.trans (k_i2ne rfl rfl) ?_
    refine ifc ?_ ?_
    · refine Eq.trans (k_ald0 rfl) ?_
      exact k_cV0 rfl s_363 q_205 rfl rfl rfl (bl rfl)
    · refine Eq.trans (k_ild1 rfl) ?_
      refine Eq.trans (k_con rfl) ?_
      refine Eq.trans (k_i2ne rfl rfl) ?_
      refine ifc ?_ ?_
      · refine Eq.trans (k_ald0 rfl) ?_
        refine Eq.trans (k_ild2 rfl) ?_
        refine Eq.trans (k_ild3 rfl) ?_
        exact k_cV2 rfl s_363 q_206 rfl rfl rfl (bl rfl)
      · refine Eq.trans (k_ild1 rfl) ?_
        refine Eq.trans (k_con rfl) ?_
        refine Eq.trans (k_i2ne rfl rfl) ?_
        refine ifc ?_ ?_
        · refine Eq.trans (k_ald0 rfl) ?_
          refine Eq.trans (k_ild2 rfl) ?_
          exact k_cV1 rfl s_363 q_207 rfl rfl rfl (bl rfl)
        · refine Eq.trans (k_ild1 rfl) ?_
          refine Eq.trans (k_con rfl) ?_
          refine Eq.trans (k_i2ne rfl rfl) ?_
          refine ifc ?_ ?_
          · refine Eq.trans (k_ald0 rfl) ?_
            refine Eq.trans (k_ild2 rfl) ?_
            refine Eq.trans (k_ild3 rfl) ?_
            refine Eq.trans (k_ild4 rfl) ?_
            exact k_cV3 rfl s_363 q_210 rfl rfl rfl (bl rfl)
          · refine Eq.trans (k_ild1 rfl) ?_
            refine Eq.trans (k_con rfl) ?_
            refine Eq.trans (k_i2ne rfl rfl) ?_
            refine ifc ?_ ?_
            · refine Eq.trans (k_ald0 rfl) ?_
              exact k_cV0 rfl s_363 q_211 rfl rfl rfl (bl rfl)
            · refine Eq.trans (k_ald0 rfl) ?_
              refine Eq.trans (k_gtR rfl s_363 rfl (by decide)) ?_
              refine Eq.trans (k_bip rfl (by decide)) ?_
              refine Eq.trans (k_iald rfl s_377 (bl rfl) (by decide) (by decide)) ?_
              refine Eq.trans (k_sip rfl (by decide)) ?_
              refine Eq.trans (k_i2lt rfl rfl) ?_
              refine ifc ?_ ?_
              · refine Eq.trans (k_ald0 rfl) ?_
                exact k_cV0 rfl s_363 q_212 rfl rfl rfl (bl rfl)
              · refine Eq.trans (k_con rfl) ?_
                exact k_rtZ rfl rfl (Or.inl rfl)
theorem b_213_10 {d : Nat} {m : Nat → Nat → Int} {q : Nat → Nat → Option Nat} {w : Option (Nat → Int64)} {u0 u1 u2 u3 u4 : Option Value} {s0 : Int}  (g0 : iI s0 = iI 0 ∨ iI s0 = iI 1) : gv d rR213 10 [u0, u1, u2, u3, u4] [.int (iI s0)] (mk m q w) =
    some (.inl (some (.int (iI s0))), (mk m q w, (0, 0))) := by
  exact k_rtZ rfl rfl g0
theorem b_213_20 {d : Nat} {m : Nat → Nat → Int} {q : Nat → Nat → Option Nat} {w : Option (Nat → Int64)} {u0 u1 u2 u3 u4 : Option Value} {s0 : Int}  (g0 : iI s0 = iI 0 ∨ iI s0 = iI 1) : gv d rR213 20 [u0, u1, u2, u3, u4] [.int (iI s0)] (mk m q w) =
    some (.inl (some (.int (iI s0))), (mk m q w, (0, 0))) := by
  exact k_rtZ rfl rfl g0
theorem b_213_32 {d : Nat} {m : Nat → Nat → Int} {q : Nat → Nat → Option Nat} {w : Option (Nat → Int64)} {u0 u1 u2 u3 u4 : Option Value} {s0 : Int}  (g0 : iI s0 = iI 0 ∨ iI s0 = iI 1) : gv d rR213 32 [u0, u1, u2, u3, u4] [.int (iI s0)] (mk m q w) =
    some (.inl (some (.int (iI s0))), (mk m q w, (0, 0))) := by
  exact k_rtZ rfl rfl g0
theorem b_213_43 {d : Nat} {m : Nat → Nat → Int} {q : Nat → Nat → Option Nat} {w : Option (Nat → Int64)} {u0 u1 u2 u3 u4 : Option Value} {s0 : Int}  (g0 : iI s0 = iI 0 ∨ iI s0 = iI 1) : gv d rR213 43 [u0, u1, u2, u3, u4] [.int (iI s0)] (mk m q w) =
    some (.inl (some (.int (iI s0))), (mk m q w, (0, 0))) := by
  exact k_rtZ rfl rfl g0
theorem b_213_57 {d : Nat} {m : Nat → Nat → Int} {q : Nat → Nat → Option Nat} {w : Option (Nat → Int64)} {u0 u1 u2 u3 u4 : Option Value} {s0 : Int}  (g0 : iI s0 = iI 0 ∨ iI s0 = iI 1) : gv d rR213 57 [u0, u1, u2, u3, u4] [.int (iI s0)] (mk m q w) =
    some (.inl (some (.int (iI s0))), (mk m q w, (0, 0))) := by
  exact k_rtZ rfl rfl g0
theorem b_213_67 {d : Nat} {m : Nat → Nat → Int} {q : Nat → Nat → Option Nat} {w : Option (Nat → Int64)} {u0 u1 u2 u3 u4 : Option Value} {s0 : Int}  (g0 : iI s0 = iI 0 ∨ iI s0 = iI 1) : gv d rR213 67 [u0, u1, u2, u3, u4] [.int (iI s0)] (mk m q w) =
    some (.inl (some (.int (iI s0))), (mk m q w, (0, 0))) := by
  exact k_rtZ rfl rfl g0
theorem b_213_87 {d : Nat} {m : Nat → Nat → Int} {q : Nat → Nat → Option Nat} {w : Option (Nat → Int64)} {u0 u1 u2 u3 u4 : Option Value}   : gv d rR213 87 [u0, u1, u2, u3, u4] [] (mk m q w) =
    some (.inl (some (.int (iI 1))), (mk m q w, (0, 0))) := by
  refine Eq.trans (k_con rfl) ?_
  exact k_rtZ rfl rfl (Or.inr rfl)
theorem e_213 {d : Nat} (hd : 1 ≤ d) {a0 a1 a2 a3 a4 : Value} (M : rMem) (h0 : a0.category = 1) (h1 : a1.category = 1) (h2 : a2.category = 1) (h3 : a3.category = 1) (h4 : a4.category = 1) : ev d 213 [a0, a1, a2, a3, a4] M = gv (d - 1) rR213 0 [some a0, some a1, some a2, some a3, some a4] [] M := ev_at hd q_213 rfl (by simp [*]) rfl
/-! FanHouseModel.goesSteps(II)V -/
theorem b_214_0 {d : Nat} {m : Nat → Nat → Int} {q : Nat → Nat → Option Nat} {w : Option (Nat → Int64)} {u3 u4 u5 : Option Value} {v1 v2 : Int}   : gv d rR214 0 [some (.ref 363), some (.int (iI v1)), some (.int (iI v2)), u3, u4, u5] [] (mk m q w) =
    gv d rR214 2 [some (.ref 363), some (.int (iI v1)), some (.int (iI v2)), some (.int (iI v1)), u4, u5] [] (mk m q w) := by
  refine Eq.trans (k_ild1 rfl) ?_
  refine Eq.trans (k_ist3 rfl) ?_
  exact rfl
theorem b_214_2 {d : Nat} {m : Nat → Nat → Int} {q : Nat → Nat → Option Nat} {w : Option (Nat → Int64)} {u1 u4 u5 : Option Value} {v2 v3 : Int}   : gv d rR214 2 [some (.ref 363), u1, some (.int (iI v2)), some (.int (iI v3)), u4, u5] [] (mk m q w) =
    if iI v3 < iI v2 then (if iI (m 363 31) < iI 200 then (gv d rR214 17 [some (.ref 363), u1, some (.int (iI v2)), some (.int (iI v3)), u4, u5] [] (mk m q w)) else (gv d rR214 161 [some (.ref 363), u1, some (.int (iI v2)), some (.int (iI v3)), u4, u5] [] (mk m q w))) else (gv d rR214 161 [some (.ref 363), u1, some (.int (iI v2)), some (.int (iI v3)), u4, u5] [] (mk m q w)) := by
  refine Eq.trans (k_ild3 rfl) ?_
  refine Eq.trans (k_ild2 rfl) ?_
  refine Eq.trans (k_i2ge rfl rfl) ?_
  refine ifc ?_ ?_
  · refine Eq.trans (k_ald0 rfl) ?_
    refine Eq.trans (k_gtI rfl s_363 rfl (by decide)) ?_
    refine Eq.trans (k_sip rfl (by decide)) ?_
    refine Eq.trans (k_i2ge rfl rfl) ?_
    refine ifc ?_ ?_
    · exact rfl
    · exact rfl
  · exact rfl
theorem b_214_17 {d : Nat} {m : Nat → Nat → Int} {q : Nat → Nat → Option Nat} {w : Option (Nat → Int64)} {u1 u4 u5 : Option Value} {v2 v3 : Int}  (g0 : 0 ≤ v3) (g1 : v3 < 200) : gv d rR214 17 [some (.ref 363), u1, some (.int (iI v2)), some (.int (iI v3)), u4, u5] [] (mk m q w) =
    if iI ((wr m 363 31 ((m 363 31) + 1)) 375 (Int.toNat v3)) = iI 7 then (gv d rR214 38 [some (.ref 363), u1, some (.int (iI v2)), some (.int (iI v3)), u4, u5] [] (mk (wr m 363 31 ((m 363 31) + 1)) q w)) else (gv d rR214 95 [some (.ref 363), u1, some (.int (iI v2)), some (.int (iI v3)), u4, u5] [] (mk (wr m 363 31 ((m 363 31) + 1)) q w)) := by
  refine Eq.trans (k_ald0 rfl) ?_
  refine Eq.trans (k_dup rfl rfl) ?_
  refine Eq.trans (k_gtI rfl s_363 rfl (by decide)) ?_
  refine Eq.trans (k_con rfl) ?_
  refine Eq.trans (k_add rfl) ?_
  refine Eq.trans (k_ptI rfl s_363 rfl rfl) ?_
  refine Eq.trans (k_ald0 rfl) ?_
  refine Eq.trans (k_gtR rfl s_363 rfl (by decide)) ?_
  refine Eq.trans (k_ild3 rfl) ?_
  refine Eq.trans (k_iald rfl s_375 (bl rfl) g0 g1) ?_
  refine Eq.trans (k_bip rfl (by decide)) ?_
  refine Eq.trans (k_i2ne rfl rfl) ?_
  refine ifc ?_ ?_
  · exact rfl
  · exact rfl
theorem b_214_38 {d : Nat} {m : Nat → Nat → Int} {q : Nat → Nat → Option Nat} {w : Option (Nat → Int64)} {u1 u4 u5 : Option Value} {v2 v3 : Int}  (g0 : 0 ≤ (v3 + 2)) (g1 : (v3 + 2) < 200) : gv d rR214 38 [some (.ref 363), u1, some (.int (iI v2)), some (.int (iI v3)), u4, u5] [] (mk m q w) =
    gv d rR214 51 [some (.ref 363), u1, some (.int (iI v2)), some (.int (iI v3)), some (.int (iI (m 375 (Int.toNat (v3 + 2))))), some (.int (iI 0))] [] (mk m q w) := by
  refine Eq.trans (k_ald0 rfl) ?_
  refine Eq.trans (k_gtR rfl s_363 rfl (by decide)) ?_
  refine Eq.trans (k_ild3 rfl) ?_
  refine Eq.trans (k_con rfl) ?_
  refine Eq.trans (k_add rfl) ?_
  refine Eq.trans (k_iald rfl s_375 (bl rfl) g0 g1) ?_
  refine Eq.trans (k_ist4 rfl) ?_
  refine Eq.trans (k_con rfl) ?_
  refine Eq.trans (k_ist5 rfl) ?_
  exact rfl
theorem b_214_51 {d : Nat} {m : Nat → Nat → Int} {q : Nat → Nat → Option Nat} {w : Option (Nat → Int64)} {u1 : Option Value} {v2 v3 v4 v5 : Int}  (g0 : 0 ≤ (v3 + 1)) (g1 : (v3 + 1) < 200) : gv d rR214 51 [some (.ref 363), u1, some (.int (iI v2)), some (.int (iI v3)), some (.int (iI v4)), some (.int (iI v5))] [] (mk m q w) =
    if iI v5 < iI (m 375 (Int.toNat (v3 + 1))) then (if iI (m 363 31) < iI 200 then (rBd (ev d 214 [.ref 363, .int (iI (v3 + 4)), .int (iI v4)] (mk m q w)) (fun v M' => gv d rR214 83 [some (.ref 363), u1, some (.int (iI v2)), some (.int (iI v3)), some (.int (iI v4)), some (.int (iI v5))] (v.toList ++ []) M')) else (gv d rR214 89 [some (.ref 363), u1, some (.int (iI v2)), some (.int (iI v3)), some (.int (iI v4)), some (.int (iI v5))] [] (mk m q w))) else (gv d rR214 89 [some (.ref 363), u1, some (.int (iI v2)), some (.int (iI v3)), some (.int (iI v4)), some (.int (iI v5))] [] (mk m q w)) := by
  refine Eq.trans (k_ild5 rfl) ?_
  refine Eq.trans (k_ald0 rfl) ?_
  refine Eq.trans (k_gtR rfl s_363 rfl (by decide)) ?_
  refine Eq.trans (k_ild3 rfl) ?_
  refine Eq.trans (k_con rfl) ?_
  refine Eq.trans (k_add rfl) ?_
  refine Eq.trans (k_iald rfl s_375 (bl rfl) g0 g1) ?_
  refine Eq.trans (k_i2ge rfl rfl) ?_
  refine ifc ?_ ?_
  · refine Eq.trans (k_ald0 rfl) ?_
    refine Eq.trans (k_gtI rfl s_363 rfl (by decide)) ?_
    refine Eq.trans (k_sip rfl (by decide)) ?_
    refine Eq.trans (k_i2ge rfl rfl) ?_
    refine ifc ?_ ?_
    · refine Eq.trans (k_ald0 rfl) ?_
      refine Eq.trans (k_ild3 rfl) ?_
      refine Eq.trans (k_con rfl) ?_
      refine Eq.trans (k_add rfl) ?_
      refine Eq.trans (k_ild4 rfl) ?_
      exact k_cV2 rfl s_363 q_214 rfl rfl rfl (bl rfl)
    · exact rfl
  · exact rfl
theorem b_214_83 {d : Nat} {m : Nat → Nat → Int} {q : Nat → Nat → Option Nat} {w : Option (Nat → Int64)} {u1 : Option Value} {v2 v3 v4 v5 : Int}   : gv d rR214 83 [some (.ref 363), u1, some (.int (iI v2)), some (.int (iI v3)), some (.int (iI v4)), some (.int (iI v5))] [] (mk m q w) =
    gv d rR214 51 [some (.ref 363), u1, some (.int (iI v2)), some (.int (iI v3)), some (.int (iI v4)), some (.int (iI (v5 + 1)))] [] (mk m q w) := by
  refine Eq.trans (k_inc5 rfl) ?_
  refine Eq.trans (k_go rfl rfl) ?_
  exact rfl
theorem b_214_89 {d : Nat} {m : Nat → Nat → Int} {q : Nat → Nat → Option Nat} {w : Option (Nat → Int64)} {u1 u3 u5 : Option Value} {v2 v4 : Int}   : gv d rR214 89 [some (.ref 363), u1, some (.int (iI v2)), u3, some (.int (iI v4)), u5] [] (mk m q w) =
    gv d rR214 2 [some (.ref 363), u1, some (.int (iI v2)), some (.int (iI v4)), some (.int (iI v4)), u5] [] (mk m q w) := by
  refine Eq.trans (k_ild4 rfl) ?_
  refine Eq.trans (k_ist3 rfl) ?_
  refine Eq.trans (k_go rfl rfl) ?_
  exact rfl
theorem b_214_95 {d : Nat} {m : Nat → Nat → Int} {q : Nat → Nat → Option Nat} {w : Option (Nat → Int64)} {u1 u4 u5 : Option Value} {v2 v3 : Int}  (g0 : 0 ≤ v3) (g1 : v3 < 200) (g2 : 0 ≤ (v3 + 1)) (g3 : (v3 + 1) < 200) (g4 : 0 ≤ (v3 + 2)) (g5 : (v3 + 2) < 200) (g6 : 0 ≤ (v3 + 3)) (g7 : (v3 + 3) < 200) : gv d rR214 95 [some (.ref 363), u1, some (.int (iI v2)), some (.int (iI v3)), u4, u5] [] (mk m q w) =
    rBd (ev d 213 [.ref 363, .int (iI (m 375 (Int.toNat v3))), .int (iI (m 375 (Int.toNat (v3 + 1)))), .int (iI (m 375 (Int.toNat (v3 + 2)))), .int (iI (m 375 (Int.toNat (v3 + 3))))] (mk m q w)) (fun v M' => gv d rR214 129 [some (.ref 363), u1, some (.int (iI v2)), some (.int (iI v3)), u4, u5] (v.toList ++ []) M') := by
  refine Eq.trans (k_ald0 rfl) ?_
  refine Eq.trans (k_ald0 rfl) ?_
  refine Eq.trans (k_gtR rfl s_363 rfl (by decide)) ?_
  refine Eq.trans (k_ild3 rfl) ?_
  refine Eq.trans (k_iald rfl s_375 (bl rfl) g0 g1) ?_
  refine Eq.trans (k_ald0 rfl) ?_
  refine Eq.trans (k_gtR rfl s_363 rfl (by decide)) ?_
  refine Eq.trans (k_ild3 rfl) ?_
  refine Eq.trans (k_con rfl) ?_
  refine Eq.trans (k_add rfl) ?_
  refine Eq.trans (k_iald rfl s_375 (bl rfl) g2 g3) ?_
  refine Eq.trans (k_ald0 rfl) ?_
  refine Eq.trans (k_gtR rfl s_363 rfl (by decide)) ?_
  refine Eq.trans (k_ild3 rfl) ?_
  refine Eq.trans (k_con rfl) ?_
  refine Eq.trans (k_add rfl) ?_
  refine Eq.trans (k_iald rfl s_375 (bl rfl) g4 g5) ?_
  refine Eq.trans (k_ald0 rfl) ?_
  refine Eq.trans (k_gtR rfl s_363 rfl (by decide)) ?_
  refine Eq.trans (k_ild3 rfl) ?_
  refine Eq.trans (k_con rfl) ?_
  refine Eq.trans (k_add rfl) ?_
  refine Eq.trans (k_iald rfl s_375 (bl rfl) g6 g7) ?_
  exact k_cV4 rfl s_363 q_213 rfl rfl rfl (bl rfl)
theorem b_214_129 {d : Nat} {m : Nat → Nat → Int} {q : Nat → Nat → Option Nat} {w : Option (Nat → Int64)} {u1 u4 u5 : Option Value} {v2 v3 s0 : Int}   : gv d rR214 129 [some (.ref 363), u1, some (.int (iI v2)), some (.int (iI v3)), u4, u5] [.int (iI s0)] (mk m q w) =
    if iI s0 = iI 0 then (gv d rR214 155 [some (.ref 363), u1, some (.int (iI v2)), some (.int (iI v3)), u4, u5] [] (mk (wr m 363 33 ((m 363 33) + 1)) q w)) else (gv d rR214 155 [some (.ref 363), u1, some (.int (iI v2)), some (.int (iI v3)), u4, u5] [] (mk (wr m 363 32 ((m 363 32) + 1)) q w)) := by
  refine Eq.trans (k_i1eq rfl rfl) ?_
  refine ifc ?_ ?_
  · refine Eq.trans (k_ald0 rfl) ?_
    refine Eq.trans (k_dup rfl rfl) ?_
    refine Eq.trans (k_gtI rfl s_363 rfl (by decide)) ?_
    refine Eq.trans (k_con rfl) ?_
    refine Eq.trans (k_add rfl) ?_
    refine Eq.trans (k_ptI rfl s_363 rfl rfl) ?_
    exact rfl
  · refine Eq.trans (k_ald0 rfl) ?_
    refine Eq.trans (k_dup rfl rfl) ?_
    refine Eq.trans (k_gtI rfl s_363 rfl (by decide)) ?_
    refine Eq.trans (k_con rfl) ?_
    refine Eq.trans (k_add rfl) ?_
    refine Eq.trans (k_ptI rfl s_363 rfl rfl) ?_
    refine Eq.trans (k_go rfl rfl) ?_
    exact rfl
theorem b_214_155 {d : Nat} {m : Nat → Nat → Int} {q : Nat → Nat → Option Nat} {w : Option (Nat → Int64)} {u1 u4 u5 : Option Value} {v2 v3 : Int}   : gv d rR214 155 [some (.ref 363), u1, some (.int (iI v2)), some (.int (iI v3)), u4, u5] [] (mk m q w) =
    gv d rR214 2 [some (.ref 363), u1, some (.int (iI v2)), some (.int (iI (v3 + 4))), u4, u5] [] (mk m q w) := by
  refine Eq.trans (k_inc3 rfl) ?_
  refine Eq.trans (k_go rfl rfl) ?_
  exact rfl
theorem b_214_161 {d : Nat} {m : Nat → Nat → Int} {q : Nat → Nat → Option Nat} {w : Option (Nat → Int64)} {u0 u1 u2 u3 u4 u5 : Option Value}   : gv d rR214 161 [u0, u1, u2, u3, u4, u5] [] (mk m q w) =
    some (.inl none, (mk m q w, (0, 0))) := by
  exact k_rtV rfl rfl
theorem e_214 {d : Nat} (hd : 1 ≤ d) {a0 a1 a2 : Value} (M : rMem) (h0 : a0.category = 1) (h1 : a1.category = 1) (h2 : a2.category = 1) : ev d 214 [a0, a1, a2] M = gv (d - 1) rR214 0 [some a0, some a1, some a2, none, none, none] [] M := ev_at hd q_214 rfl (by simp [*]) rfl
/-! FanHouseModel.work(I)I -/
theorem b_215_0 {d : Nat} {m : Nat → Nat → Int} {q : Nat → Nat → Option Nat} {w : Option (Nat → Int64)} {u2 u3 : Option Value} {v1 : Int}   : gv d rR215 0 [some (.ref 363), some (.int (iI v1)), u2, u3] [] (mk m q w) =
    if iI v1 < iI 0 then (gv d rR215 29 [some (.ref 363), some (.int (iI v1)), u2, u3] [.ref 363] (mk (wr m 363 0 0) q w)) else (if iI ((wr m 363 0 0) 363 2) < iI v1 then (gv d rR215 29 [some (.ref 363), some (.int (iI v1)), u2, u3] [.ref 363] (mk (wr m 363 0 0) q w)) else (if iI 150 < iI v1 then (gv d rR215 29 [some (.ref 363), some (.int (iI v1)), u2, u3] [.ref 363] (mk (wr m 363 0 0) q w)) else (gv d rR215 30 [some (.ref 363), some (.int (iI v1)), u2, u3] [.int (iI 1), .ref 363] (mk (wr m 363 0 0) q w)))) := by
  refine Eq.trans (k_ald0 rfl) ?_
  refine Eq.trans (k_con rfl) ?_
  refine Eq.trans (k_ptI rfl s_363 rfl rfl) ?_
  refine Eq.trans (k_ald0 rfl) ?_
  refine Eq.trans (k_ild1 rfl) ?_
  refine Eq.trans (k_i1lt rfl rfl) ?_
  refine ifc ?_ ?_
  · exact rfl
  · refine Eq.trans (k_ild1 rfl) ?_
    refine Eq.trans (k_ald0 rfl) ?_
    refine Eq.trans (k_gtI rfl s_363 rfl (by decide)) ?_
    refine Eq.trans (k_i2gt rfl rfl) ?_
    refine ifc ?_ ?_
    · exact rfl
    · refine Eq.trans (k_ild1 rfl) ?_
      refine Eq.trans (k_sip rfl (by decide)) ?_
      refine Eq.trans (k_i2gt rfl rfl) ?_
      refine ifc ?_ ?_
      · exact rfl
      · refine Eq.trans (k_con rfl) ?_
        refine Eq.trans (k_go rfl rfl) ?_
        exact rfl
theorem b_215_29 {d : Nat} {m : Nat → Nat → Int} {q : Nat → Nat → Option Nat} {w : Option (Nat → Int64)} {u2 u3 : Option Value} {v1 : Int}   : gv d rR215 29 [some (.ref 363), some (.int (iI v1)), u2, u3] [.ref 363] (mk m q w) =
    gv d rR215 30 [some (.ref 363), some (.int (iI v1)), u2, u3] [.int (iI 0), .ref 363] (mk m q w) := by
  refine Eq.trans (k_con rfl) ?_
  exact rfl
theorem b_215_30 {d : Nat} {m : Nat → Nat → Int} {q : Nat → Nat → Option Nat} {w : Option (Nat → Int64)} {u2 u3 : Option Value} {v1 s1 : Int}   : gv d rR215 30 [some (.ref 363), some (.int (iI v1)), u2, u3] [.int (iI s1), .ref 363] (mk m q w) =
    rBd (ev d 160 [.ref 363, .int (iI s1), .int (iI 1), .int (iI 1)] (mk m q w)) (fun v M' => gv d rR215 35 [some (.ref 363), some (.int (iI v1)), u2, u3] (v.toList ++ []) M') := by
  refine Eq.trans (k_con rfl) ?_
  refine Eq.trans (k_con rfl) ?_
  exact k_cV3 rfl s_363 q_160 rfl rfl rfl (bl rfl)
theorem b_215_35 {d : Nat} {m : Nat → Nat → Int} {q : Nat → Nat → Option Nat} {w : Option (Nat → Int64)} {u2 u3 : Option Value} {v1 s0 : Int}   : gv d rR215 35 [some (.ref 363), some (.int (iI v1)), u2, u3] [.int (iI s0)] (mk m q w) =
    if iI s0 = iI 0 then (some (.inl (some (.int (iI 0))), (mk m q w, (0, 0)))) else (rBd (ev d 178 [.ref 363, .int (iI v1)] (mk m q w)) (fun v M' => gv d rR215 45 [some (.ref 363), some (.int (iI v1)), u2, u3] (v.toList ++ []) M')) := by
  refine Eq.trans (k_i1ne rfl rfl) ?_
  refine ifc ?_ ?_
  · refine Eq.trans (k_con rfl) ?_
    exact k_rtI rfl rfl
  · refine Eq.trans (k_ald0 rfl) ?_
    refine Eq.trans (k_ild1 rfl) ?_
    exact k_cV1 rfl s_363 q_178 rfl rfl rfl (bl rfl)
theorem b_215_45 {d : Nat} {m : Nat → Nat → Int} {q : Nat → Nat → Option Nat} {w : Option (Nat → Int64)} {u1 u2 u3 : Option Value}   : gv d rR215 45 [some (.ref 363), u1, u2, u3] [] (mk m q w) =
    if iI (m 363 29) = iI 16 then (rBd (ev d 179 [.ref 363, .int (iI 0)] (mk m q w)) (fun v M' => gv d rR215 59 [some (.ref 363), u1, u2, u3] (v.toList ++ []) M')) else (gv d rR215 68 [some (.ref 363), u1, u2, u3] [] (mk (wr m 363 28 0) q w)) := by
  refine Eq.trans (k_ald0 rfl) ?_
  refine Eq.trans (k_gtI rfl s_363 rfl (by decide)) ?_
  refine Eq.trans (k_bip rfl (by decide)) ?_
  refine Eq.trans (k_i2ne rfl rfl) ?_
  refine ifc ?_ ?_
  · refine Eq.trans (k_ald0 rfl) ?_
    refine Eq.trans (k_con rfl) ?_
    exact k_cV1 rfl s_363 q_179 rfl rfl rfl (bl rfl)
  · refine Eq.trans (k_ald0 rfl) ?_
    refine Eq.trans (k_con rfl) ?_
    refine Eq.trans (k_ptI rfl s_363 rfl rfl) ?_
    exact rfl
theorem b_215_59 {d : Nat} {m : Nat → Nat → Int} {q : Nat → Nat → Option Nat} {w : Option (Nat → Int64)} {u0 u1 u2 u3 : Option Value} {s0 : Int}   : gv d rR215 59 [u0, u1, u2, u3] [.int (iI s0)] (mk m q w) =
    some (.inl (some (.int (iI (-20)))), (mk m q w, (0, 0))) := by
  refine Eq.trans (k_pop rfl rfl) ?_
  refine Eq.trans (k_bip rfl (by decide)) ?_
  exact k_rtI rfl rfl
theorem b_215_68 {d : Nat} {m : Nat → Nat → Int} {q : Nat → Nat → Option Nat} {w : Option (Nat → Int64)} {u1 u2 u3 : Option Value}   : gv d rR215 68 [some (.ref 363), u1, u2, u3] [] (mk m q w) =
    rBd (ev d 167 [.ref 363] (mk m q w)) (fun v M' => gv d rR215 72 [some (.ref 363), u1, u2, u3] (v.toList ++ []) M') := by
  refine Eq.trans (k_ald0 rfl) ?_
  exact k_cV0 rfl s_363 q_167 rfl rfl rfl (bl rfl)
theorem b_215_72 {d : Nat} {m : Nat → Nat → Int} {q : Nat → Nat → Option Nat} {w : Option (Nat → Int64)} {u1 u2 u3 : Option Value} {s0 : Int}   : gv d rR215 72 [some (.ref 363), u1, u2, u3] [.int (iI s0)] (mk m q w) =
    if iI s0 = iI 0 then (gv d rR215 89 [some (.ref 363), u1, u2, u3] [] (mk m q w)) else (rBd (ev d 177 [.ref 363] (mk m q w)) (fun v M' => gv d rR215 79 [some (.ref 363), u1, u2, u3] (v.toList ++ []) M')) := by
  refine Eq.trans (k_i1eq rfl rfl) ?_
  refine ifc ?_ ?_
  · exact rfl
  · refine Eq.trans (k_ald0 rfl) ?_
    exact k_cV0 rfl s_363 q_177 rfl rfl rfl (bl rfl)
theorem b_215_79 {d : Nat} {m : Nat → Nat → Int} {q : Nat → Nat → Option Nat} {w : Option (Nat → Int64)} {u1 u2 u3 : Option Value} {s0 : Int}   : gv d rR215 79 [some (.ref 363), u1, u2, u3] [.int (iI s0)] (mk m q w) =
    if iI s0 = iI 0 then (gv d rR215 89 [some (.ref 363), u1, u2, u3] [] (mk m q w)) else (rBd (ev d 199 [.ref 363] (mk m q w)) (fun v M' => gv d rR215 86 [some (.ref 363), u1, u2, u3] (v.toList ++ []) M')) := by
  refine Eq.trans (k_i1eq rfl rfl) ?_
  refine ifc ?_ ?_
  · exact rfl
  · refine Eq.trans (k_ald0 rfl) ?_
    exact k_cV0 rfl s_363 q_199 rfl rfl rfl (bl rfl)
theorem b_215_86 {d : Nat} {m : Nat → Nat → Int} {q : Nat → Nat → Option Nat} {w : Option (Nat → Int64)} {u1 u2 u3 : Option Value}   : gv d rR215 86 [some (.ref 363), u1, u2, u3] [] (mk m q w) =
    gv d rR215 68 [some (.ref 363), u1, u2, u3] [] (mk m q w) := by
  refine Eq.trans (k_go rfl rfl) ?_
  exact rfl
theorem b_215_89 {d : Nat} {m : Nat → Nat → Int} {q : Nat → Nat → Option Nat} {w : Option (Nat → Int64)} {u1 u2 u3 : Option Value}   : gv d rR215 89 [some (.ref 363), u1, u2, u3] [] (mk m q w) =
    rBd (ev d 179 [.ref 363, .int (iI 0)] (mk m q w)) (fun v M' => gv d rR215 94 [some (.ref 363), u1, u2, u3] (v.toList ++ []) M') := by
  refine Eq.trans (k_ald0 rfl) ?_
  refine Eq.trans (k_con rfl) ?_
  exact k_cV1 rfl s_363 q_179 rfl rfl rfl (bl rfl)
theorem b_215_94 {d : Nat} {m : Nat → Nat → Int} {q : Nat → Nat → Option Nat} {w : Option (Nat → Int64)} {u1 u2 u3 : Option Value} {s0 : Int}   : gv d rR215 94 [some (.ref 363), u1, u2, u3] [.int (iI s0)] (mk m q w) =
    if iI (m 363 5) = iI (-1) then (rBd (ev d 163 [.ref 363, .ref 374, .ref 375, .int (iI (m 363 28))] (mk m q w)) (fun v M' => gv d rR215 121 [some (.ref 363), u1, some (.int (iI s0)), u3] (v.toList ++ []) M')) else (some (.inl (some (.int (iI s0))), (mk m q w, (0, 0)))) := by
  refine Eq.trans (k_ist2 rfl) ?_
  refine Eq.trans (k_ald0 rfl) ?_
  refine Eq.trans (k_gtI rfl s_363 rfl (by decide)) ?_
  refine Eq.trans (k_con rfl) ?_
  refine Eq.trans (k_i2eq rfl rfl) ?_
  refine ifc ?_ ?_
  · refine Eq.trans (k_ald0 rfl) ?_
    refine Eq.trans (k_ald0 rfl) ?_
    refine Eq.trans (k_gtR rfl s_363 rfl (by decide)) ?_
    refine Eq.trans (k_ald0 rfl) ?_
    refine Eq.trans (k_gtR rfl s_363 rfl (by decide)) ?_
    refine Eq.trans (k_ald0 rfl) ?_
    refine Eq.trans (k_gtI rfl s_363 rfl (by decide)) ?_
    exact k_cV3 rfl s_363 q_163 rfl rfl rfl (bl rfl)
  · refine Eq.trans (k_ild2 rfl) ?_
    exact k_rtI rfl rfl
theorem b_215_121 {d : Nat} {m : Nat → Nat → Int} {q : Nat → Nat → Option Nat} {w : Option (Nat → Int64)} {u1 u2 u3 : Option Value}   : gv d rR215 121 [some (.ref 363), u1, u2, u3] [] (mk m q w) =
    gv d rR215 123 [some (.ref 363), u1, u2, some (.int (iI 0))] [] (mk m q w) := by
  refine Eq.trans (k_con rfl) ?_
  refine Eq.trans (k_ist3 rfl) ?_
  exact rfl
theorem b_215_123 {d : Nat} {m : Nat → Nat → Int} {q : Nat → Nat → Option Nat} {w : Option (Nat → Int64)} {u1 u2 : Option Value} {v3 : Int}   : gv d rR215 123 [some (.ref 363), u1, u2, some (.int (iI v3))] [] (mk m q w) =
    if iI v3 < iI 48 then (gv d rR215 129 [some (.ref 363), u1, u2, some (.int (iI v3))] [] (mk m q w)) else (rBd (ev d 200 [.ref 363] (mk (wr m 363 29 ((m 363 29) + 1)) q w)) (fun v M' => gv d rR215 169 [some (.ref 363), u1, u2, some (.int (iI v3))] (v.toList ++ []) M')) := by
  refine Eq.trans (k_ild3 rfl) ?_
  refine Eq.trans (k_bip rfl (by decide)) ?_
  refine Eq.trans (k_i2ge rfl rfl) ?_
  refine ifc ?_ ?_
  · exact rfl
  · refine Eq.trans (k_ald0 rfl) ?_
    refine Eq.trans (k_dup rfl rfl) ?_
    refine Eq.trans (k_gtI rfl s_363 rfl (by decide)) ?_
    refine Eq.trans (k_con rfl) ?_
    refine Eq.trans (k_add rfl) ?_
    refine Eq.trans (k_ptI rfl s_363 rfl rfl) ?_
    refine Eq.trans (k_ald0 rfl) ?_
    exact k_cV0 rfl s_363 q_200 rfl rfl rfl (bl rfl)
theorem b_215_129 {d : Nat} {m : Nat → Nat → Int} {q : Nat → Nat → Option Nat} {w : Option (Nat → Int64)} {u1 u2 : Option Value} {v3 : Int}  (g0 : 0 ≤ v3) (g1 : v3 < 48) (g2 : 0 ≤ ((48 * (m 363 29)) + v3)) (g3 : ((48 * (m 363 29)) + v3) < 768) : gv d rR215 129 [some (.ref 363), u1, u2, some (.int (iI v3))] [] (mk m q w) =
    gv d rR215 123 [some (.ref 363), u1, u2, some (.int (iI (v3 + 1)))] [] (mk (wr m 378 (Int.toNat ((48 * (m 363 29)) + v3)) (m 376 (Int.toNat v3))) q w) := by
  refine Eq.trans (k_ald0 rfl) ?_
  refine Eq.trans (k_gtR rfl s_363 rfl (by decide)) ?_
  refine Eq.trans (k_bip rfl (by decide)) ?_
  refine Eq.trans (k_ald0 rfl) ?_
  refine Eq.trans (k_gtI rfl s_363 rfl (by decide)) ?_
  refine Eq.trans (k_mul rfl) ?_
  refine Eq.trans (k_ild3 rfl) ?_
  refine Eq.trans (k_add rfl) ?_
  refine Eq.trans (k_ald0 rfl) ?_
  refine Eq.trans (k_gtR rfl s_363 rfl (by decide)) ?_
  refine Eq.trans (k_ild3 rfl) ?_
  refine Eq.trans (k_iald rfl s_376 (bl rfl) g0 g1) ?_
  refine Eq.trans (k_iast rfl s_378 (bl rfl) g2 g3) ?_
  refine Eq.trans (k_inc3 rfl) ?_
  refine Eq.trans (k_go rfl rfl) ?_
  exact rfl
theorem b_215_169 {d : Nat} {m : Nat → Nat → Int} {q : Nat → Nat → Option Nat} {w : Option (Nat → Int64)} {u1 u2 u3 : Option Value}   : gv d rR215 169 [some (.ref 363), u1, u2, u3] [] (mk m q w) =
    rBd (ev d 214 [.ref 363, .int (iI 0), .int (iI ((wr (wr (wr m 363 31 0) 363 32 0) 363 33 0) 363 28))] (mk (wr (wr (wr m 363 31 0) 363 32 0) 363 33 0) q w)) (fun v M' => gv d rR215 193 [some (.ref 363), u1, u2, u3] (v.toList ++ []) M') := by
  refine Eq.trans (k_ald0 rfl) ?_
  refine Eq.trans (k_con rfl) ?_
  refine Eq.trans (k_ptI rfl s_363 rfl rfl) ?_
  refine Eq.trans (k_ald0 rfl) ?_
  refine Eq.trans (k_con rfl) ?_
  refine Eq.trans (k_ptI rfl s_363 rfl rfl) ?_
  refine Eq.trans (k_ald0 rfl) ?_
  refine Eq.trans (k_con rfl) ?_
  refine Eq.trans (k_ptI rfl s_363 rfl rfl) ?_
  refine Eq.trans (k_ald0 rfl) ?_
  refine Eq.trans (k_con rfl) ?_
  refine Eq.trans (k_ald0 rfl) ?_
  refine Eq.trans (k_gtI rfl s_363 rfl (by decide)) ?_
  exact k_cV2 rfl s_363 q_214 rfl rfl rfl (bl rfl)
theorem b_215_193 {d : Nat} {m : Nat → Nat → Int} {q : Nat → Nat → Option Nat} {w : Option (Nat → Int64)} {u1 u2 u3 : Option Value}   : gv d rR215 193 [some (.ref 363), u1, u2, u3] [] (mk m q w) =
    rBd (ev d 163 [.ref 363, .ref 377, .ref 376, .int (iI 48)] (mk m q w)) (fun v M' => gv d rR215 207 [some (.ref 363), u1, u2, u3] (v.toList ++ []) M') := by
  refine Eq.trans (k_ald0 rfl) ?_
  refine Eq.trans (k_ald0 rfl) ?_
  refine Eq.trans (k_gtR rfl s_363 rfl (by decide)) ?_
  refine Eq.trans (k_ald0 rfl) ?_
  refine Eq.trans (k_gtR rfl s_363 rfl (by decide)) ?_
  refine Eq.trans (k_bip rfl (by decide)) ?_
  exact k_cV3 rfl s_363 q_163 rfl rfl rfl (bl rfl)
theorem b_215_207 {d : Nat} {m : Nat → Nat → Int} {q : Nat → Nat → Option Nat} {w : Option (Nat → Int64)} {u1 u2 u3 : Option Value}   : gv d rR215 207 [some (.ref 363), u1, u2, u3] [] (mk m q w) =
    some (.inl (some (.int (iI ((wr m 363 30 (m 363 33)) 363 32)))), (mk (wr m 363 30 (m 363 33)) q w, (0, 0))) := by
  refine Eq.trans (k_ald0 rfl) ?_
  refine Eq.trans (k_ald0 rfl) ?_
  refine Eq.trans (k_gtI rfl s_363 rfl (by decide)) ?_
  refine Eq.trans (k_ptI rfl s_363 rfl rfl) ?_
  refine Eq.trans (k_ald0 rfl) ?_
  refine Eq.trans (k_gtI rfl s_363 rfl (by decide)) ?_
  exact k_rtI rfl rfl
theorem e_215 {d : Nat} (hd : 1 ≤ d) {a0 a1 : Value} (M : rMem) (h0 : a0.category = 1) (h1 : a1.category = 1) : ev d 215 [a0, a1] M = gv (d - 1) rR215 0 [some a0, some a1, none, none] [] M := ev_at hd q_215 rfl (by simp [*]) rfl
/-! FanHouseModel.placeIn(II)I -/
theorem b_216_0 {d : Nat} {m : Nat → Nat → Int} {q : Nat → Nat → Option Nat} {w : Option (Nat → Int64)} {v1 v2 : Int}   : gv d rR216 0 [some (.ref 363), some (.int (iI v1)), some (.int (iI v2))] [] (mk m q w) =
    if iI v1 < iI 2 then (gv d rR216 17 [some (.ref 363), some (.int (iI v1)), some (.int (iI v2))] [.int (iI v2)] (mk m q w)) else (gv d rR216 17 [some (.ref 363), some (.int (iI v1)), some (.int (iI v2))] [.int (iI (((m 363 15) - 1) - v2))] (mk m q w)) := by
  refine Eq.trans (k_ild1 rfl) ?_
  refine Eq.trans (k_con rfl) ?_
  refine Eq.trans (k_i2ge rfl rfl) ?_
  refine ifc ?_ ?_
  · refine Eq.trans (k_ild2 rfl) ?_
    refine Eq.trans (k_go rfl rfl) ?_
    exact rfl
  · refine Eq.trans (k_ald0 rfl) ?_
    refine Eq.trans (k_gtI rfl s_363 rfl (by decide)) ?_
    refine Eq.trans (k_con rfl) ?_
    refine Eq.trans (k_sub rfl) ?_
    refine Eq.trans (k_ild2 rfl) ?_
    refine Eq.trans (k_sub rfl) ?_
    exact rfl
theorem b_216_17 {d : Nat} {m : Nat → Nat → Int} {q : Nat → Nat → Option Nat} {w : Option (Nat → Int64)} {u0 u1 u2 : Option Value} {s0 : Int}   : gv d rR216 17 [u0, u1, u2] [.int (iI s0)] (mk m q w) =
    some (.inl (some (.int (iI s0))), (mk m q w, (0, 0))) := by
  exact k_rtI rfl rfl
theorem e_216 {d : Nat} (hd : 1 ≤ d) {a0 a1 a2 : Value} (M : rMem) (h0 : a0.category = 1) (h1 : a1.category = 1) (h2 : a2.category = 1) : ev d 216 [a0, a1, a2] M = gv (d - 1) rR216 0 [some a0, some a1, some a2] [] M := ev_at hd q_216 rfl (by simp [*]) rfl
/-! FanHouseModel.markIn(II)I -/
theorem b_217_0 {d : Nat} {m : Nat → Nat → Int} {q : Nat → Nat → Option Nat} {w : Option (Nat → Int64)} {v1 v2 : Int}   : gv d rR217 0 [some (.ref 363), some (.int (iI v1)), some (.int (iI v2))] [] (mk m q w) =
    rBd (ev d 216 [.ref 363, .int (iI v1), .int (iI v2)] (mk m q w)) (fun v M' => gv d rR217 13 [some (.ref 363), some (.int (iI v1)), some (.int (iI v2))] (v.toList ++ [.int (iI 28), .ref 377, .ref 363]) M') := by
  refine Eq.trans (k_ald0 rfl) ?_
  refine Eq.trans (k_ald0 rfl) ?_
  refine Eq.trans (k_gtR rfl s_363 rfl (by decide)) ?_
  refine Eq.trans (k_bip rfl (by decide)) ?_
  refine Eq.trans (k_ald0 rfl) ?_
  refine Eq.trans (k_ild1 rfl) ?_
  refine Eq.trans (k_ild2 rfl) ?_
  exact k_cV2 rfl s_363 q_216 rfl rfl rfl (bl rfl)
theorem b_217_13 {d : Nat} {m : Nat → Nat → Int} {q : Nat → Nat → Option Nat} {w : Option (Nat → Int64)} {u0 u2 : Option Value} {v1 s2 s3 : Int}  (g0 : 0 ≤ (s2 + s3)) (g1 : (s2 + s3) < 48) : gv d rR217 13 [u0, some (.int (iI v1)), u2] [.int (iI s3), .int (iI s2), .ref 377, .ref 363] (mk m q w) =
    rBd (ev d 209 [.ref 363, .int (iI (m 377 (Int.toNat (s2 + s3)))), .int (iI v1)] (mk m q w)) (fun v M' => gv d rR217 19 [u0, some (.int (iI v1)), u2] (v.toList ++ []) M') := by
  refine Eq.trans (k_add rfl) ?_
  refine Eq.trans (k_iald rfl s_377 (bl rfl) g0 g1) ?_
  refine Eq.trans (k_ild1 rfl) ?_
  exact k_cV2 rfl s_363 q_209 rfl rfl rfl (bl rfl)
theorem b_217_19 {d : Nat} {m : Nat → Nat → Int} {q : Nat → Nat → Option Nat} {w : Option (Nat → Int64)} {u0 u1 u2 : Option Value} {s0 : Int}   : gv d rR217 19 [u0, u1, u2] [.int (iI s0)] (mk m q w) =
    some (.inl (some (.int (iI s0))), (mk m q w, (0, 0))) := by
  exact k_rtI rfl rfl
theorem e_217 {d : Nat} (hd : 1 ≤ d) {a0 a1 a2 : Value} (M : rMem) (h0 : a0.category = 1) (h1 : a1.category = 1) (h2 : a2.category = 1) : ev d 217 [a0, a1, a2] M = gv (d - 1) rR217 0 [some a0, some a1, some a2] [] M := ev_at hd q_217 rfl (by simp [*]) rfl
/-! FanHouseModel.picture(II)I -/
theorem b_218_0 {d : Nat} {m : Nat → Nat → Int} {q : Nat → Nat → Option Nat} {w : Option (Nat → Int64)} {u3 u4 u5 : Option Value} {v1 v2 : Int}   : gv d rR218 0 [some (.ref 363), some (.int (iI v1)), some (.int (iI v2)), u3, u4, u5] [] (mk m q w) =
    if iI v1 < iI 0 then (gv d rR218 37 [some (.ref 363), some (.int (iI v1)), some (.int (iI v2)), u3, u4, u5] [.ref 363] (mk (wr m 363 0 0) q w)) else (if iI ((wr m 363 0 0) 363 2) < iI v1 then (gv d rR218 37 [some (.ref 363), some (.int (iI v1)), some (.int (iI v2)), u3, u4, u5] [.ref 363] (mk (wr m 363 0 0) q w)) else (if iI 60 < iI v1 then (gv d rR218 37 [some (.ref 363), some (.int (iI v1)), some (.int (iI v2)), u3, u4, u5] [.ref 363] (mk (wr m 363 0 0) q w)) else (rBd (ev d 161 [.int (iI v2), .int (iI 0), .int (iI 1)] (mk (wr m 363 0 0) q w)) (fun v M' => gv d rR218 30 [some (.ref 363), some (.int (iI v1)), some (.int (iI v2)), u3, u4, u5] (v.toList ++ [.ref 363]) M')))) := by
  refine Eq.trans (k_ald0 rfl) ?_
  refine Eq.trans (k_con rfl) ?_
  refine Eq.trans (k_ptI rfl s_363 rfl rfl) ?_
  refine Eq.trans (k_ald0 rfl) ?_
  refine Eq.trans (k_ild1 rfl) ?_
  refine Eq.trans (k_i1lt rfl rfl) ?_
  refine ifc ?_ ?_
  · exact rfl
  · refine Eq.trans (k_ild1 rfl) ?_
    refine Eq.trans (k_ald0 rfl) ?_
    refine Eq.trans (k_gtI rfl s_363 rfl (by decide)) ?_
    refine Eq.trans (k_i2gt rfl rfl) ?_
    refine ifc ?_ ?_
    · exact rfl
    · refine Eq.trans (k_ild1 rfl) ?_
      refine Eq.trans (k_bip rfl (by decide)) ?_
      refine Eq.trans (k_i2gt rfl rfl) ?_
      refine ifc ?_ ?_
      · exact rfl
      · refine Eq.trans (k_ild2 rfl) ?_
        refine Eq.trans (k_con rfl) ?_
        refine Eq.trans (k_con rfl) ?_
        exact k_cS3 rfl (by decide) q_161 rfl rfl (bl rfl)
theorem b_218_30 {d : Nat} {m : Nat → Nat → Int} {q : Nat → Nat → Option Nat} {w : Option (Nat → Int64)} {u3 u4 u5 : Option Value} {v1 v2 s1 : Int}   : gv d rR218 30 [some (.ref 363), some (.int (iI v1)), some (.int (iI v2)), u3, u4, u5] [.int (iI s1), .ref 363] (mk m q w) =
    if iI s1 = iI 0 then (gv d rR218 37 [some (.ref 363), some (.int (iI v1)), some (.int (iI v2)), u3, u4, u5] [.ref 363] (mk m q w)) else (gv d rR218 38 [some (.ref 363), some (.int (iI v1)), some (.int (iI v2)), u3, u4, u5] [.int (iI 1), .ref 363] (mk m q w)) := by
  refine Eq.trans (k_i1eq rfl rfl) ?_
  refine ifc ?_ ?_
  · exact rfl
  · refine Eq.trans (k_con rfl) ?_
    refine Eq.trans (k_go rfl rfl) ?_
    exact rfl
theorem b_218_37 {d : Nat} {m : Nat → Nat → Int} {q : Nat → Nat → Option Nat} {w : Option (Nat → Int64)} {u3 u4 u5 : Option Value} {v1 v2 : Int}   : gv d rR218 37 [some (.ref 363), some (.int (iI v1)), some (.int (iI v2)), u3, u4, u5] [.ref 363] (mk m q w) =
    gv d rR218 38 [some (.ref 363), some (.int (iI v1)), some (.int (iI v2)), u3, u4, u5] [.int (iI 0), .ref 363] (mk m q w) := by
  refine Eq.trans (k_con rfl) ?_
  exact rfl
theorem b_218_38 {d : Nat} {m : Nat → Nat → Int} {q : Nat → Nat → Option Nat} {w : Option (Nat → Int64)} {u3 u4 u5 : Option Value} {v1 v2 s1 : Int}   : gv d rR218 38 [some (.ref 363), some (.int (iI v1)), some (.int (iI v2)), u3, u4, u5] [.int (iI s1), .ref 363] (mk m q w) =
    rBd (ev d 160 [.ref 363, .int (iI s1), .int (iI 1), .int (iI 1)] (mk m q w)) (fun v M' => gv d rR218 43 [some (.ref 363), some (.int (iI v1)), some (.int (iI v2)), u3, u4, u5] (v.toList ++ []) M') := by
  refine Eq.trans (k_con rfl) ?_
  refine Eq.trans (k_con rfl) ?_
  exact k_cV3 rfl s_363 q_160 rfl rfl rfl (bl rfl)
theorem b_218_43 {d : Nat} {m : Nat → Nat → Int} {q : Nat → Nat → Option Nat} {w : Option (Nat → Int64)} {u3 u4 u5 : Option Value} {v1 v2 s0 : Int}   : gv d rR218 43 [some (.ref 363), some (.int (iI v1)), some (.int (iI v2)), u3, u4, u5] [.int (iI s0)] (mk m q w) =
    if iI s0 = iI 0 then (some (.inl (some (.int (iI 0))), (mk m q w, (0, 0)))) else (rBd (ev d 178 [.ref 363, .int (iI v1)] (mk m q w)) (fun v M' => gv d rR218 53 [some (.ref 363), some (.int (iI v1)), some (.int (iI v2)), u3, u4, u5] (v.toList ++ []) M')) := by
  refine Eq.trans (k_i1ne rfl rfl) ?_
  refine ifc ?_ ?_
  · refine Eq.trans (k_con rfl) ?_
    exact k_rtI rfl rfl
  · refine Eq.trans (k_ald0 rfl) ?_
    refine Eq.trans (k_ild1 rfl) ?_
    exact k_cV1 rfl s_363 q_178 rfl rfl rfl (bl rfl)
theorem b_218_53 {d : Nat} {m : Nat → Nat → Int} {q : Nat → Nat → Option Nat} {w : Option (Nat → Int64)} {u1 u3 u4 u5 : Option Value} {v2 : Int}   : gv d rR218 53 [some (.ref 363), u1, some (.int (iI v2)), u3, u4, u5] [] (mk m q w) =
    gv d rR218 55 [some (.ref 363), u1, some (.int (iI v2)), some (.int (iI 0)), u4, u5] [] (mk m q w) := by
  refine Eq.trans (k_con rfl) ?_
  refine Eq.trans (k_ist3 rfl) ?_
  exact rfl
theorem b_218_55 {d : Nat} {m : Nat → Nat → Int} {q : Nat → Nat → Option Nat} {w : Option (Nat → Int64)} {u1 u4 u5 : Option Value} {v2 v3 : Int}   : gv d rR218 55 [some (.ref 363), u1, some (.int (iI v2)), some (.int (iI v3)), u4, u5] [] (mk m q w) =
    rBd (ev d 167 [.ref 363] (mk m q w)) (fun v M' => gv d rR218 59 [some (.ref 363), u1, some (.int (iI v2)), some (.int (iI v3)), u4, u5] (v.toList ++ []) M') := by
  refine Eq.trans (k_ald0 rfl) ?_
  exact k_cV0 rfl s_363 q_167 rfl rfl rfl (bl rfl)
theorem b_218_59 {d : Nat} {m : Nat → Nat → Int} {q : Nat → Nat → Option Nat} {w : Option (Nat → Int64)} {u1 u4 u5 : Option Value} {v2 v3 s0 : Int}   : gv d rR218 59 [some (.ref 363), u1, some (.int (iI v2)), some (.int (iI v3)), u4, u5] [.int (iI s0)] (mk m q w) =
    if iI s0 = iI 0 then (gv d rR218 134 [some (.ref 363), u1, some (.int (iI v2)), some (.int (iI v3)), u4, u5] [] (mk m q w)) else (rBd (ev d 177 [.ref 363] (mk m q w)) (fun v M' => gv d rR218 66 [some (.ref 363), u1, some (.int (iI v2)), some (.int (iI v3)), u4, u5] (v.toList ++ []) M')) := by
  refine Eq.trans (k_i1eq rfl rfl) ?_
  refine ifc ?_ ?_
  · exact rfl
  · refine Eq.trans (k_ald0 rfl) ?_
    exact k_cV0 rfl s_363 q_177 rfl rfl rfl (bl rfl)
theorem b_218_66 {d : Nat} {m : Nat → Nat → Int} {q : Nat → Nat → Option Nat} {w : Option (Nat → Int64)} {u1 u4 u5 : Option Value} {v2 v3 s0 : Int}   : gv d rR218 66 [some (.ref 363), u1, some (.int (iI v2)), some (.int (iI v3)), u4, u5] [.int (iI s0)] (mk m q w) =
    if iI s0 = iI 0 then (gv d rR218 134 [some (.ref 363), u1, some (.int (iI v2)), some (.int (iI v3)), u4, u5] [] (mk m q w)) else (rBd (ev d 175 [.ref 363, .int (iI 0), .int (iI 16)] (mk m q w)) (fun v M' => gv d rR218 82 [some (.ref 363), u1, some (.int (iI v2)), some (.int (iI v3)), some (.int (iI (m 363 4))), u5] (v.toList ++ []) M')) := by
  refine Eq.trans (k_i1eq rfl rfl) ?_
  refine ifc ?_ ?_
  · exact rfl
  · refine Eq.trans (k_ald0 rfl) ?_
    refine Eq.trans (k_gtI rfl s_363 rfl (by decide)) ?_
    refine Eq.trans (k_ist4 rfl) ?_
    refine Eq.trans (k_ald0 rfl) ?_
    refine Eq.trans (k_con rfl) ?_
    refine Eq.trans (k_bip rfl (by decide)) ?_
    exact k_cV2 rfl s_363 q_175 rfl rfl rfl (bl rfl)
theorem b_218_82 {d : Nat} {m : Nat → Nat → Int} {q : Nat → Nat → Option Nat} {w : Option (Nat → Int64)} {u1 u5 : Option Value} {v2 v3 v4 s0 : Int}   : gv d rR218 82 [some (.ref 363), u1, some (.int (iI v2)), some (.int (iI v3)), some (.int (iI v4)), u5] [.int (iI s0)] (mk m q w) =
    rBd (ev d 167 [.ref 363] (mk m q w)) (fun v M' => gv d rR218 88 [some (.ref 363), u1, some (.int (iI v2)), some (.int (iI v3)), some (.int (iI v4)), some (.int (iI s0))] (v.toList ++ []) M') := by
  refine Eq.trans (k_ist5 rfl) ?_
  refine Eq.trans (k_ald0 rfl) ?_
  exact k_cV0 rfl s_363 q_167 rfl rfl rfl (bl rfl)
theorem b_218_88 {d : Nat} {m : Nat → Nat → Int} {q : Nat → Nat → Option Nat} {w : Option (Nat → Int64)} {u1 : Option Value} {v2 v3 v4 v5 s0 : Int}   : gv d rR218 88 [some (.ref 363), u1, some (.int (iI v2)), some (.int (iI v3)), some (.int (iI v4)), some (.int (iI v5))] [.int (iI s0)] (mk m q w) =
    if iI s0 = iI 0 then (gv d rR218 104 [some (.ref 363), u1, some (.int (iI v2)), some (.int (iI v3)), some (.int (iI v4)), some (.int (iI v5))] [] (mk m q w)) else (if iI v3 = iI 7 then (rBd (ev d 168 [.ref 363, .int (iI 3), .int (iI v4)] (mk m q w)) (fun v M' => gv d rR218 104 [some (.ref 363), u1, some (.int (iI v2)), some (.int (iI v3)), some (.int (iI v4)), some (.int (iI v5))] (v.toList ++ []) M')) else (gv d rR218 104 [some (.ref 363), u1, some (.int (iI v2)), some (.int (iI v3)), some (.int (iI v4)), some (.int (iI v5))] [] (mk m q w))) := by
  refine Eq.trans (k_i1eq rfl rfl) ?_
  refine ifc ?_ ?_
  · exact rfl
  · refine Eq.trans (k_ild3 rfl) ?_
    refine Eq.trans (k_bip rfl (by decide)) ?_
    refine Eq.trans (k_i2ne rfl rfl) ?_
    refine ifc ?_ ?_
    · refine Eq.trans (k_ald0 rfl) ?_
      refine Eq.trans (k_con rfl) ?_
      refine Eq.trans (k_ild4 rfl) ?_
      exact k_cV2 rfl s_363 q_168 rfl rfl rfl (bl rfl)
    · exact rfl
theorem b_218_104 {d : Nat} {m : Nat → Nat → Int} {q : Nat → Nat → Option Nat} {w : Option (Nat → Int64)} {u1 u4 : Option Value} {v2 v3 v5 : Int}   : gv d rR218 104 [some (.ref 363), u1, some (.int (iI v2)), some (.int (iI v3)), u4, some (.int (iI v5))] [] (mk m q w) =
    rBd (ev d 176 [.ref 363, .int (iI 59)] (mk m q w)) (fun v M' => gv d rR218 110 [some (.ref 363), u1, some (.int (iI v2)), some (.int (iI v3)), u4, some (.int (iI v5))] (v.toList ++ []) M') := by
  refine Eq.trans (k_ald0 rfl) ?_
  refine Eq.trans (k_bip rfl (by decide)) ?_
  exact k_cV1 rfl s_363 q_176 rfl rfl rfl (bl rfl)
theorem b_218_110 {d : Nat} {m : Nat → Nat → Int} {q : Nat → Nat → Option Nat} {w : Option (Nat → Int64)} {u1 u4 : Option Value} {v2 v3 v5 : Int}   : gv d rR218 110 [some (.ref 363), u1, some (.int (iI v2)), some (.int (iI v3)), u4, some (.int (iI v5))] [] (mk m q w) =
    rBd (ev d 167 [.ref 363] (mk m q w)) (fun v M' => gv d rR218 114 [some (.ref 363), u1, some (.int (iI v2)), some (.int (iI v3)), u4, some (.int (iI v5))] (v.toList ++ []) M') := by
  refine Eq.trans (k_ald0 rfl) ?_
  exact k_cV0 rfl s_363 q_167 rfl rfl rfl (bl rfl)
theorem b_218_114 {d : Nat} {m : Nat → Nat → Int} {q : Nat → Nat → Option Nat} {w : Option (Nat → Int64)} {u1 u4 : Option Value} {v2 v3 v5 s0 : Int}   : gv d rR218 114 [some (.ref 363), u1, some (.int (iI v2)), some (.int (iI v3)), u4, some (.int (iI v5))] [.int (iI s0)] (mk m q w) =
    if iI s0 = iI 0 then (gv d rR218 134 [some (.ref 363), u1, some (.int (iI v2)), some (.int (iI v3)), u4, some (.int (iI v5))] [] (mk m q w)) else (gv d rR218 120 [some (.ref 363), u1, some (.int (iI v2)), some (.int (iI v3)), u4, some (.int (iI v5))] [] (mk m q w)) := by
  refine Eq.trans (k_i1ne rfl rfl) ?_
  refine ifc ?_ ?_
  · refine Eq.trans (k_go rfl rfl) ?_
    exact rfl
  · exact rfl
theorem b_218_120 {d : Nat} {m : Nat → Nat → Int} {q : Nat → Nat → Option Nat} {w : Option (Nat → Int64)} {u1 u4 : Option Value} {v2 v3 v5 : Int}  (g0 : 0 ≤ v3) (g1 : v3 < 7) : gv d rR218 120 [some (.ref 363), u1, some (.int (iI v2)), some (.int (iI v3)), u4, some (.int (iI v5))] [] (mk m q w) =
    gv d rR218 55 [some (.ref 363), u1, some (.int (iI v2)), some (.int (iI (v3 + 1))), u4, some (.int (iI v5))] [] (mk (wr m 379 (Int.toNat v3) v5) q w) := by
  refine Eq.trans (k_ald0 rfl) ?_
  refine Eq.trans (k_gtR rfl s_363 rfl (by decide)) ?_
  refine Eq.trans (k_ild3 rfl) ?_
  refine Eq.trans (k_ild5 rfl) ?_
  refine Eq.trans (k_iast rfl s_379 (bl rfl) g0 g1) ?_
  refine Eq.trans (k_inc3 rfl) ?_
  refine Eq.trans (k_go rfl rfl) ?_
  exact rfl
theorem b_218_134 {d : Nat} {m : Nat → Nat → Int} {q : Nat → Nat → Option Nat} {w : Option (Nat → Int64)} {u1 u4 u5 : Option Value} {v2 v3 : Int}   : gv d rR218 134 [some (.ref 363), u1, some (.int (iI v2)), some (.int (iI v3)), u4, u5] [] (mk m q w) =
    rBd (ev d 179 [.ref 363, .int (iI v3)] (mk m q w)) (fun v M' => gv d rR218 139 [some (.ref 363), u1, some (.int (iI v2)), some (.int (iI v3)), u4, u5] (v.toList ++ []) M') := by
  refine Eq.trans (k_ald0 rfl) ?_
  refine Eq.trans (k_ild3 rfl) ?_
  exact k_cV1 rfl s_363 q_179 rfl rfl rfl (bl rfl)
theorem b_218_139 {d : Nat} {m : Nat → Nat → Int} {q : Nat → Nat → Option Nat} {w : Option (Nat → Int64)} {u1 u4 u5 : Option Value} {v2 v3 s0 : Int}   : gv d rR218 139 [some (.ref 363), u1, some (.int (iI v2)), some (.int (iI v3)), u4, u5] [.int (iI s0)] (mk m q w) =
    if iI (m 363 5) = iI (-1) then (gv d rR218 152 [some (.ref 363), u1, some (.int (iI v2)), some (.int (iI v3)), some (.int (iI s0)), u5] [] (mk m q w)) else (some (.inl (some (.int (iI s0))), (mk m q w, (0, 0)))) := by
  refine Eq.trans (k_ist4 rfl) ?_
  refine Eq.trans (k_ald0 rfl) ?_
  refine Eq.trans (k_gtI rfl s_363 rfl (by decide)) ?_
  refine Eq.trans (k_con rfl) ?_
  refine Eq.trans (k_i2eq rfl rfl) ?_
  refine ifc ?_ ?_
  · exact rfl
  · refine Eq.trans (k_ild4 rfl) ?_
    exact k_rtI rfl rfl
theorem b_218_152 {d : Nat} {m : Nat → Nat → Int} {q : Nat → Nat → Option Nat} {w : Option (Nat → Int64)} {u1 u5 : Option Value} {v2 v3 v4 : Int}  (g0 : 0 ≤ v2) (g1 : v2 < 2) : gv d rR218 152 [some (.ref 363), u1, some (.int (iI v2)), some (.int (iI v3)), some (.int (iI v4)), u5] [] (mk m q w) =
    gv d rR218 162 [some (.ref 363), u1, some (.int (iI v2)), some (.int (iI v3)), some (.int (iI v4)), some (.int (iI 0))] [] (mk (wr m 381 (Int.toNat v2) v3) q w) := by
  refine Eq.trans (k_ald0 rfl) ?_
  refine Eq.trans (k_gtR rfl s_363 rfl (by decide)) ?_
  refine Eq.trans (k_ild2 rfl) ?_
  refine Eq.trans (k_ild3 rfl) ?_
  refine Eq.trans (k_iast rfl s_381 (bl rfl) g0 g1) ?_
  refine Eq.trans (k_con rfl) ?_
  refine Eq.trans (k_ist5 rfl) ?_
  exact rfl
theorem b_218_162 {d : Nat} {m : Nat → Nat → Int} {q : Nat → Nat → Option Nat} {w : Option (Nat → Int64)} {u1 : Option Value} {v2 v3 v4 v5 : Int}   : gv d rR218 162 [some (.ref 363), u1, some (.int (iI v2)), some (.int (iI v3)), some (.int (iI v4)), some (.int (iI v5))] [] (mk m q w) =
    if iI v5 < iI v3 then (gv d rR218 168 [some (.ref 363), u1, some (.int (iI v2)), some (.int (iI v3)), some (.int (iI v4)), some (.int (iI v5))] [] (mk m q w)) else (some (.inl (some (.int (iI v4))), (mk m q w, (0, 0)))) := by
  refine Eq.trans (k_ild5 rfl) ?_
  refine Eq.trans (k_ild3 rfl) ?_
  refine Eq.trans (k_i2ge rfl rfl) ?_
  refine ifc ?_ ?_
  · exact rfl
  · refine Eq.trans (k_ild4 rfl) ?_
    exact k_rtI rfl rfl
theorem b_218_168 {d : Nat} {m : Nat → Nat → Int} {q : Nat → Nat → Option Nat} {w : Option (Nat → Int64)} {u1 : Option Value} {v2 v3 v4 v5 : Int}  (g0 : 0 ≤ v5) (g1 : v5 < 7) (g2 : 0 ≤ ((7 * v2) + v5)) (g3 : ((7 * v2) + v5) < 14) : gv d rR218 168 [some (.ref 363), u1, some (.int (iI v2)), some (.int (iI v3)), some (.int (iI v4)), some (.int (iI v5))] [] (mk m q w) =
    gv d rR218 162 [some (.ref 363), u1, some (.int (iI v2)), some (.int (iI v3)), some (.int (iI v4)), some (.int (iI (v5 + 1)))] [] (mk (wr m 380 (Int.toNat ((7 * v2) + v5)) (m 379 (Int.toNat v5))) q w) := by
  refine Eq.trans (k_ald0 rfl) ?_
  refine Eq.trans (k_gtR rfl s_363 rfl (by decide)) ?_
  refine Eq.trans (k_bip rfl (by decide)) ?_
  refine Eq.trans (k_ild2 rfl) ?_
  refine Eq.trans (k_mul rfl) ?_
  refine Eq.trans (k_ild5 rfl) ?_
  refine Eq.trans (k_add rfl) ?_
  refine Eq.trans (k_ald0 rfl) ?_
  refine Eq.trans (k_gtR rfl s_363 rfl (by decide)) ?_
  refine Eq.trans (k_ild5 rfl) ?_
  refine Eq.trans (k_iald rfl s_379 (bl rfl) g0 g1) ?_
  refine Eq.trans (k_iast rfl s_380 (bl rfl) g2 g3) ?_
  refine Eq.trans (k_inc5 rfl) ?_
  refine Eq.trans (k_go rfl rfl) ?_
  exact rfl
theorem e_218 {d : Nat} (hd : 1 ≤ d) {a0 a1 a2 : Value} (M : rMem) (h0 : a0.category = 1) (h1 : a1.category = 1) (h2 : a2.category = 1) : ev d 218 [a0, a1, a2] M = gv (d - 1) rR218 0 [some a0, some a1, some a2, none, none, none] [] M := ev_at hd q_218 rfl (by simp [*]) rfl
/-! FanHouseModel.book(I)I -/
theorem b_219_0 {d : Nat} {m : Nat → Nat → Int} {q : Nat → Nat → Option Nat} {w : Option (Nat → Int64)} {u2 u3 u4 u5 u6 : Option Value} {v1 : Int}   : gv d rR219 0 [some (.ref 363), some (.int (iI v1)), u2, u3, u4, u5, u6] [] (mk m q w) =
    if iI v1 < iI 0 then (gv d rR219 28 [some (.ref 363), some (.int (iI v1)), u2, u3, u4, u5, u6] [.ref 363] (mk (wr m 363 0 0) q w)) else (if iI ((wr m 363 0 0) 363 2) < iI v1 then (gv d rR219 28 [some (.ref 363), some (.int (iI v1)), u2, u3, u4, u5, u6] [.ref 363] (mk (wr m 363 0 0) q w)) else (if iI 60 < iI v1 then (gv d rR219 28 [some (.ref 363), some (.int (iI v1)), u2, u3, u4, u5, u6] [.ref 363] (mk (wr m 363 0 0) q w)) else (gv d rR219 29 [some (.ref 363), some (.int (iI v1)), u2, u3, u4, u5, u6] [.int (iI 1), .ref 363] (mk (wr m 363 0 0) q w)))) := by
  refine Eq.trans (k_ald0 rfl) ?_
  refine Eq.trans (k_con rfl) ?_
  refine Eq.trans (k_ptI rfl s_363 rfl rfl) ?_
  refine Eq.trans (k_ald0 rfl) ?_
  refine Eq.trans (k_ild1 rfl) ?_
  refine Eq.trans (k_i1lt rfl rfl) ?_
  refine ifc ?_ ?_
  · exact rfl
  · refine Eq.trans (k_ild1 rfl) ?_
    refine Eq.trans (k_ald0 rfl) ?_
    refine Eq.trans (k_gtI rfl s_363 rfl (by decide)) ?_
    refine Eq.trans (k_i2gt rfl rfl) ?_
    refine ifc ?_ ?_
    · exact rfl
    · refine Eq.trans (k_ild1 rfl) ?_
      refine Eq.trans (k_bip rfl (by decide)) ?_
      refine Eq.trans (k_i2gt rfl rfl) ?_
      refine ifc ?_ ?_
      · exact rfl
      · refine Eq.trans (k_con rfl) ?_
        refine Eq.trans (k_go rfl rfl) ?_
        exact rfl
theorem b_219_28 {d : Nat} {m : Nat → Nat → Int} {q : Nat → Nat → Option Nat} {w : Option (Nat → Int64)} {u2 u3 u4 u5 u6 : Option Value} {v1 : Int}   : gv d rR219 28 [some (.ref 363), some (.int (iI v1)), u2, u3, u4, u5, u6] [.ref 363] (mk m q w) =
    gv d rR219 29 [some (.ref 363), some (.int (iI v1)), u2, u3, u4, u5, u6] [.int (iI 0), .ref 363] (mk m q w) := by
  refine Eq.trans (k_con rfl) ?_
  exact rfl
theorem b_219_29 {d : Nat} {m : Nat → Nat → Int} {q : Nat → Nat → Option Nat} {w : Option (Nat → Int64)} {u2 u3 u4 u5 u6 : Option Value} {v1 s1 : Int}   : gv d rR219 29 [some (.ref 363), some (.int (iI v1)), u2, u3, u4, u5, u6] [.int (iI s1), .ref 363] (mk m q w) =
    rBd (ev d 160 [.ref 363, .int (iI s1), .int (iI 1), .int (iI 1)] (mk m q w)) (fun v M' => gv d rR219 34 [some (.ref 363), some (.int (iI v1)), u2, u3, u4, u5, u6] (v.toList ++ []) M') := by
  refine Eq.trans (k_con rfl) ?_
  refine Eq.trans (k_con rfl) ?_
  exact k_cV3 rfl s_363 q_160 rfl rfl rfl (bl rfl)
theorem b_219_34 {d : Nat} {m : Nat → Nat → Int} {q : Nat → Nat → Option Nat} {w : Option (Nat → Int64)} {u2 u3 u4 u5 u6 : Option Value} {v1 s0 : Int}   : gv d rR219 34 [some (.ref 363), some (.int (iI v1)), u2, u3, u4, u5, u6] [.int (iI s0)] (mk m q w) =
    if iI s0 = iI 0 then (some (.inl (some (.int (iI 0))), (mk m q w, (0, 0)))) else (rBd (ev d 178 [.ref 363, .int (iI v1)] (mk m q w)) (fun v M' => gv d rR219 44 [some (.ref 363), some (.int (iI v1)), u2, u3, u4, u5, u6] (v.toList ++ []) M')) := by
  refine Eq.trans (k_i1ne rfl rfl) ?_
  refine ifc ?_ ?_
  · refine Eq.trans (k_con rfl) ?_
    exact k_rtI rfl rfl
  · refine Eq.trans (k_ald0 rfl) ?_
    refine Eq.trans (k_ild1 rfl) ?_
    exact k_cV1 rfl s_363 q_178 rfl rfl rfl (bl rfl)
theorem b_219_44 {d : Nat} {m : Nat → Nat → Int} {q : Nat → Nat → Option Nat} {w : Option (Nat → Int64)} {u1 u2 u3 u4 u5 u6 : Option Value}   : gv d rR219 44 [some (.ref 363), u1, u2, u3, u4, u5, u6] [] (mk m q w) =
    gv d rR219 46 [some (.ref 363), u1, some (.int (iI 0)), u3, u4, u5, u6] [] (mk m q w) := by
  refine Eq.trans (k_con rfl) ?_
  refine Eq.trans (k_ist2 rfl) ?_
  exact rfl
theorem b_219_46 {d : Nat} {m : Nat → Nat → Int} {q : Nat → Nat → Option Nat} {w : Option (Nat → Int64)} {u1 u3 u4 u5 u6 : Option Value} {v2 : Int}   : gv d rR219 46 [some (.ref 363), u1, some (.int (iI v2)), u3, u4, u5, u6] [] (mk m q w) =
    rBd (ev d 167 [.ref 363] (mk m q w)) (fun v M' => gv d rR219 50 [some (.ref 363), u1, some (.int (iI v2)), u3, u4, u5, u6] (v.toList ++ []) M') := by
  refine Eq.trans (k_ald0 rfl) ?_
  exact k_cV0 rfl s_363 q_167 rfl rfl rfl (bl rfl)
theorem b_219_50 {d : Nat} {m : Nat → Nat → Int} {q : Nat → Nat → Option Nat} {w : Option (Nat → Int64)} {u1 u3 u4 u5 u6 : Option Value} {v2 s0 : Int}   : gv d rR219 50 [some (.ref 363), u1, some (.int (iI v2)), u3, u4, u5, u6] [.int (iI s0)] (mk m q w) =
    if iI s0 = iI 0 then (gv d rR219 166 [some (.ref 363), u1, some (.int (iI v2)), u3, u4, u5, u6] [] (mk m q w)) else (rBd (ev d 177 [.ref 363] (mk m q w)) (fun v M' => gv d rR219 57 [some (.ref 363), u1, some (.int (iI v2)), u3, u4, u5, u6] (v.toList ++ []) M')) := by
  refine Eq.trans (k_i1eq rfl rfl) ?_
  refine ifc ?_ ?_
  · exact rfl
  · refine Eq.trans (k_ald0 rfl) ?_
    exact k_cV0 rfl s_363 q_177 rfl rfl rfl (bl rfl)
theorem b_219_57 {d : Nat} {m : Nat → Nat → Int} {q : Nat → Nat → Option Nat} {w : Option (Nat → Int64)} {u1 u3 u4 u5 u6 : Option Value} {v2 s0 : Int}   : gv d rR219 57 [some (.ref 363), u1, some (.int (iI v2)), u3, u4, u5, u6] [.int (iI s0)] (mk m q w) =
    if iI s0 = iI 0 then (gv d rR219 166 [some (.ref 363), u1, some (.int (iI v2)), u3, u4, u5, u6] [] (mk m q w)) else (rBd (ev d 175 [.ref 363, .int (iI 0), .int (iI 3)] (mk m q w)) (fun v M' => gv d rR219 71 [some (.ref 363), u1, some (.int (iI v2)), some (.int (iI (m 363 4))), u4, u5, u6] (v.toList ++ []) M')) := by
  refine Eq.trans (k_i1eq rfl rfl) ?_
  refine ifc ?_ ?_
  · exact rfl
  · refine Eq.trans (k_ald0 rfl) ?_
    refine Eq.trans (k_gtI rfl s_363 rfl (by decide)) ?_
    refine Eq.trans (k_ist3 rfl) ?_
    refine Eq.trans (k_ald0 rfl) ?_
    refine Eq.trans (k_con rfl) ?_
    refine Eq.trans (k_con rfl) ?_
    exact k_cV2 rfl s_363 q_175 rfl rfl rfl (bl rfl)
theorem b_219_71 {d : Nat} {m : Nat → Nat → Int} {q : Nat → Nat → Option Nat} {w : Option (Nat → Int64)} {u1 u4 u5 u6 : Option Value} {v2 v3 s0 : Int}   : gv d rR219 71 [some (.ref 363), u1, some (.int (iI v2)), some (.int (iI v3)), u4, u5, u6] [.int (iI s0)] (mk m q w) =
    rBd (ev d 167 [.ref 363] (mk m q w)) (fun v M' => gv d rR219 77 [some (.ref 363), u1, some (.int (iI v2)), some (.int (iI v3)), some (.int (iI s0)), u5, u6] (v.toList ++ []) M') := by
  refine Eq.trans (k_ist4 rfl) ?_
  refine Eq.trans (k_ald0 rfl) ?_
  exact k_cV0 rfl s_363 q_167 rfl rfl rfl (bl rfl)
theorem b_219_77 {d : Nat} {m : Nat → Nat → Int} {q : Nat → Nat → Option Nat} {w : Option (Nat → Int64)} {u1 u5 u6 : Option Value} {v2 v3 v4 s0 : Int}   : gv d rR219 77 [some (.ref 363), u1, some (.int (iI v2)), some (.int (iI v3)), some (.int (iI v4)), u5, u6] [.int (iI s0)] (mk m q w) =
    if iI s0 = iI 0 then (gv d rR219 92 [some (.ref 363), u1, some (.int (iI v2)), some (.int (iI v3)), some (.int (iI v4)), u5, u6] [] (mk m q w)) else (if iI v2 = iI 7 then (rBd (ev d 168 [.ref 363, .int (iI 3), .int (iI v3)] (mk m q w)) (fun v M' => gv d rR219 92 [some (.ref 363), u1, some (.int (iI v2)), some (.int (iI v3)), some (.int (iI v4)), u5, u6] (v.toList ++ []) M')) else (gv d rR219 92 [some (.ref 363), u1, some (.int (iI v2)), some (.int (iI v3)), some (.int (iI v4)), u5, u6] [] (mk m q w))) := by
  refine Eq.trans (k_i1eq rfl rfl) ?_
  refine ifc ?_ ?_
  · exact rfl
  · refine Eq.trans (k_ild2 rfl) ?_
    refine Eq.trans (k_bip rfl (by decide)) ?_
    refine Eq.trans (k_i2ne rfl rfl) ?_
    refine ifc ?_ ?_
    · refine Eq.trans (k_ald0 rfl) ?_
      refine Eq.trans (k_con rfl) ?_
      refine Eq.trans (k_ild3 rfl) ?_
      exact k_cV2 rfl s_363 q_168 rfl rfl rfl (bl rfl)
    · exact rfl
theorem b_219_92 {d : Nat} {m : Nat → Nat → Int} {q : Nat → Nat → Option Nat} {w : Option (Nat → Int64)} {u1 u3 u5 u6 : Option Value} {v2 v4 : Int}   : gv d rR219 92 [some (.ref 363), u1, some (.int (iI v2)), u3, some (.int (iI v4)), u5, u6] [] (mk m q w) =
    rBd (ev d 175 [.ref 363, .int (iI 0), .int (iI 6)] (mk m q w)) (fun v M' => gv d rR219 99 [some (.ref 363), u1, some (.int (iI v2)), u3, some (.int (iI v4)), u5, u6] (v.toList ++ []) M') := by
  refine Eq.trans (k_ald0 rfl) ?_
  refine Eq.trans (k_con rfl) ?_
  refine Eq.trans (k_bip rfl (by decide)) ?_
  exact k_cV2 rfl s_363 q_175 rfl rfl rfl (bl rfl)
theorem b_219_99 {d : Nat} {m : Nat → Nat → Int} {q : Nat → Nat → Option Nat} {w : Option (Nat → Int64)} {u1 u3 u5 u6 : Option Value} {v2 v4 s0 : Int}   : gv d rR219 99 [some (.ref 363), u1, some (.int (iI v2)), u3, some (.int (iI v4)), u5, u6] [.int (iI s0)] (mk m q w) =
    rBd (ev d 175 [.ref 363, .int (iI 0), .int (iI 15)] (mk m q w)) (fun v M' => gv d rR219 108 [some (.ref 363), u1, some (.int (iI v2)), u3, some (.int (iI v4)), some (.int (iI s0)), u6] (v.toList ++ []) M') := by
  refine Eq.trans (k_ist5 rfl) ?_
  refine Eq.trans (k_ald0 rfl) ?_
  refine Eq.trans (k_con rfl) ?_
  refine Eq.trans (k_bip rfl (by decide)) ?_
  exact k_cV2 rfl s_363 q_175 rfl rfl rfl (bl rfl)
theorem b_219_108 {d : Nat} {m : Nat → Nat → Int} {q : Nat → Nat → Option Nat} {w : Option (Nat → Int64)} {u1 u3 u6 : Option Value} {v2 v4 v5 s0 : Int}   : gv d rR219 108 [some (.ref 363), u1, some (.int (iI v2)), u3, some (.int (iI v4)), some (.int (iI v5)), u6] [.int (iI s0)] (mk m q w) =
    rBd (ev d 176 [.ref 363, .int (iI 59)] (mk m q w)) (fun v M' => gv d rR219 116 [some (.ref 363), u1, some (.int (iI v2)), u3, some (.int (iI v4)), some (.int (iI v5)), some (.int (iI s0))] (v.toList ++ []) M') := by
  refine Eq.trans (k_ist6 rfl) ?_
  refine Eq.trans (k_ald0 rfl) ?_
  refine Eq.trans (k_bip rfl (by decide)) ?_
  exact k_cV1 rfl s_363 q_176 rfl rfl rfl (bl rfl)
theorem b_219_116 {d : Nat} {m : Nat → Nat → Int} {q : Nat → Nat → Option Nat} {w : Option (Nat → Int64)} {u1 u3 : Option Value} {v2 v4 v5 v6 : Int}   : gv d rR219 116 [some (.ref 363), u1, some (.int (iI v2)), u3, some (.int (iI v4)), some (.int (iI v5)), some (.int (iI v6))] [] (mk m q w) =
    rBd (ev d 167 [.ref 363] (mk m q w)) (fun v M' => gv d rR219 120 [some (.ref 363), u1, some (.int (iI v2)), u3, some (.int (iI v4)), some (.int (iI v5)), some (.int (iI v6))] (v.toList ++ []) M') := by
  refine Eq.trans (k_ald0 rfl) ?_
  exact k_cV0 rfl s_363 q_167 rfl rfl rfl (bl rfl)
theorem b_219_120 {d : Nat} {m : Nat → Nat → Int} {q : Nat → Nat → Option Nat} {w : Option (Nat → Int64)} {u1 u3 : Option Value} {v2 v4 v5 v6 s0 : Int}   : gv d rR219 120 [some (.ref 363), u1, some (.int (iI v2)), u3, some (.int (iI v4)), some (.int (iI v5)), some (.int (iI v6))] [.int (iI s0)] (mk m q w) =
    if iI s0 = iI 0 then (gv d rR219 166 [some (.ref 363), u1, some (.int (iI v2)), u3, some (.int (iI v4)), some (.int (iI v5)), some (.int (iI v6))] [] (mk m q w)) else (gv d rR219 126 [some (.ref 363), u1, some (.int (iI v2)), u3, some (.int (iI v4)), some (.int (iI v5)), some (.int (iI v6))] [] (mk m q w)) := by
  refine Eq.trans (k_i1ne rfl rfl) ?_
  refine ifc ?_ ?_
  · refine Eq.trans (k_go rfl rfl) ?_
    exact rfl
  · exact rfl
theorem b_219_126 {d : Nat} {m : Nat → Nat → Int} {q : Nat → Nat → Option Nat} {w : Option (Nat → Int64)} {u1 u3 : Option Value} {v2 v4 v5 v6 : Int}  (g0 : 0 ≤ (3 * v2)) (g1 : (3 * v2) < 21) (g2 : 0 ≤ ((3 * v2) + 1)) (g3 : ((3 * v2) + 1) < 21) (g4 : 0 ≤ ((3 * v2) + 2)) (g5 : ((3 * v2) + 2) < 21) : gv d rR219 126 [some (.ref 363), u1, some (.int (iI v2)), u3, some (.int (iI v4)), some (.int (iI v5)), some (.int (iI v6))] [] (mk m q w) =
    gv d rR219 46 [some (.ref 363), u1, some (.int (iI (v2 + 1))), u3, some (.int (iI v4)), some (.int (iI v5)), some (.int (iI v6))] [] (mk (wr (wr (wr m 382 (Int.toNat (3 * v2)) v4) 382 (Int.toNat ((3 * v2) + 1)) v5) 382 (Int.toNat ((3 * v2) + 2)) v6) q w) := by
  refine Eq.trans (k_ald0 rfl) ?_
  refine Eq.trans (k_gtR rfl s_363 rfl (by decide)) ?_
  refine Eq.trans (k_con rfl) ?_
  refine Eq.trans (k_ild2 rfl) ?_
  refine Eq.trans (k_mul rfl) ?_
  refine Eq.trans (k_ild4 rfl) ?_
  refine Eq.trans (k_iast rfl s_382 (bl rfl) g0 g1) ?_
  refine Eq.trans (k_ald0 rfl) ?_
  refine Eq.trans (k_gtR rfl s_363 rfl (by decide)) ?_
  refine Eq.trans (k_con rfl) ?_
  refine Eq.trans (k_ild2 rfl) ?_
  refine Eq.trans (k_mul rfl) ?_
  refine Eq.trans (k_con rfl) ?_
  refine Eq.trans (k_add rfl) ?_
  refine Eq.trans (k_ild5 rfl) ?_
  refine Eq.trans (k_iast rfl s_382 (bl rfl) g2 g3) ?_
  refine Eq.trans (k_ald0 rfl) ?_
  refine Eq.trans (k_gtR rfl s_363 rfl (by decide)) ?_
  refine Eq.trans (k_con rfl) ?_
  refine Eq.trans (k_ild2 rfl) ?_
  refine Eq.trans (k_mul rfl) ?_
  refine Eq.trans (k_con rfl) ?_
  refine Eq.trans (k_add rfl) ?_
  refine Eq.trans (k_ild6 rfl) ?_
  refine Eq.trans (k_iast rfl s_382 (bl rfl) g4 g5) ?_
  refine Eq.trans (k_inc2 rfl) ?_
  refine Eq.trans (k_go rfl rfl) ?_
  exact rfl
theorem b_219_166 {d : Nat} {m : Nat → Nat → Int} {q : Nat → Nat → Option Nat} {w : Option (Nat → Int64)} {u1 u3 u4 u5 u6 : Option Value} {v2 : Int}   : gv d rR219 166 [some (.ref 363), u1, some (.int (iI v2)), u3, u4, u5, u6] [] (mk m q w) =
    rBd (ev d 179 [.ref 363, .int (iI v2)] (mk m q w)) (fun v M' => gv d rR219 171 [some (.ref 363), u1, some (.int (iI v2)), u3, u4, u5, u6] (v.toList ++ []) M') := by
  refine Eq.trans (k_ald0 rfl) ?_
  refine Eq.trans (k_ild2 rfl) ?_
  exact k_cV1 rfl s_363 q_179 rfl rfl rfl (bl rfl)
theorem b_219_171 {d : Nat} {m : Nat → Nat → Int} {q : Nat → Nat → Option Nat} {w : Option (Nat → Int64)} {u1 u3 u4 u5 u6 : Option Value} {v2 s0 : Int}   : gv d rR219 171 [some (.ref 363), u1, some (.int (iI v2)), u3, u4, u5, u6] [.int (iI s0)] (mk m q w) =
    if iI (m 363 5) = iI (-1) then (rBd (ev d 163 [.ref 363, .ref 382, .ref 383, .int (iI 21)] (mk (wr m 363 42 v2) q w)) (fun v M' => gv d rR219 201 [some (.ref 363), u1, some (.int (iI v2)), some (.int (iI s0)), u4, u5, u6] (v.toList ++ []) M')) else (some (.inl (some (.int (iI s0))), (mk m q w, (0, 0)))) := by
  refine Eq.trans (k_ist3 rfl) ?_
  refine Eq.trans (k_ald0 rfl) ?_
  refine Eq.trans (k_gtI rfl s_363 rfl (by decide)) ?_
  refine Eq.trans (k_con rfl) ?_
  refine Eq.trans (k_i2eq rfl rfl) ?_
  refine ifc ?_ ?_
  · refine Eq.trans (k_ald0 rfl) ?_
    refine Eq.trans (k_ild2 rfl) ?_
    refine Eq.trans (k_ptI rfl s_363 rfl rfl) ?_
    refine Eq.trans (k_ald0 rfl) ?_
    refine Eq.trans (k_ald0 rfl) ?_
    refine Eq.trans (k_gtR rfl s_363 rfl (by decide)) ?_
    refine Eq.trans (k_ald0 rfl) ?_
    refine Eq.trans (k_gtR rfl s_363 rfl (by decide)) ?_
    refine Eq.trans (k_bip rfl (by decide)) ?_
    exact k_cV3 rfl s_363 q_163 rfl rfl rfl (bl rfl)
  · refine Eq.trans (k_ild3 rfl) ?_
    exact k_rtI rfl rfl
theorem b_219_201 {d : Nat} {m : Nat → Nat → Int} {q : Nat → Nat → Option Nat} {w : Option (Nat → Int64)} {u0 u1 u2 u4 u5 u6 : Option Value} {v3 : Int}   : gv d rR219 201 [u0, u1, u2, some (.int (iI v3)), u4, u5, u6] [] (mk m q w) =
    some (.inl (some (.int (iI v3))), (mk m q w, (0, 0))) := by
  refine Eq.trans (k_ild3 rfl) ?_
  exact k_rtI rfl rfl
theorem e_219 {d : Nat} (hd : 1 ≤ d) {a0 a1 : Value} (M : rMem) (h0 : a0.category = 1) (h1 : a1.category = 1) : ev d 219 [a0, a1] M = gv (d - 1) rR219 0 [some a0, some a1, none, none, none, none, none] [] M := ev_at hd q_219 rfl (by simp [*]) rfl
/-! FanHouseModel.undo()I -/
theorem b_220_0 {d : Nat} {m : Nat → Nat → Int} {q : Nat → Nat → Option Nat} {w : Option (Nat → Int64)} {u1 : Option Value}   : gv d rR220 0 [some (.ref 363), u1] [] (mk m q w) =
    if iI ((wr m 363 0 0) 363 29) = iI 0 then (some (.inl (some (.int (iI (-1)))), (mk (wr m 363 0 0) q w, (0, 0)))) else (gv d rR220 26 [some (.ref 363), some (.int (iI 0))] [] (mk (wr (wr m 363 0 0) 363 29 (((wr m 363 0 0) 363 29) - 1)) q w)) := by
  refine Eq.trans (k_ald0 rfl) ?_
  refine Eq.trans (k_con rfl) ?_
  refine Eq.trans (k_ptI rfl s_363 rfl rfl) ?_
  refine Eq.trans (k_ald0 rfl) ?_
  refine Eq.trans (k_gtI rfl s_363 rfl (by decide)) ?_
  refine Eq.trans (k_i1ne rfl rfl) ?_
  refine ifc ?_ ?_
  · refine Eq.trans (k_con rfl) ?_
    exact k_rtI rfl rfl
  · refine Eq.trans (k_ald0 rfl) ?_
    refine Eq.trans (k_dup rfl rfl) ?_
    refine Eq.trans (k_gtI rfl s_363 rfl (by decide)) ?_
    refine Eq.trans (k_con rfl) ?_
    refine Eq.trans (k_sub rfl) ?_
    refine Eq.trans (k_ptI rfl s_363 rfl rfl) ?_
    refine Eq.trans (k_con rfl) ?_
    refine Eq.trans (k_ist1 rfl) ?_
    exact rfl
theorem b_220_26 {d : Nat} {m : Nat → Nat → Int} {q : Nat → Nat → Option Nat} {w : Option (Nat → Int64)} {v1 : Int}   : gv d rR220 26 [some (.ref 363), some (.int (iI v1))] [] (mk m q w) =
    if iI v1 < iI 48 then (gv d rR220 32 [some (.ref 363), some (.int (iI v1))] [] (mk m q w)) else (some (.inl (some (.int (iI ((wr m 363 30 0) 363 29)))), (mk (wr m 363 30 0) q w, (0, 0)))) := by
  refine Eq.trans (k_ild1 rfl) ?_
  refine Eq.trans (k_bip rfl (by decide)) ?_
  refine Eq.trans (k_i2ge rfl rfl) ?_
  refine ifc ?_ ?_
  · exact rfl
  · refine Eq.trans (k_ald0 rfl) ?_
    refine Eq.trans (k_con rfl) ?_
    refine Eq.trans (k_ptI rfl s_363 rfl rfl) ?_
    refine Eq.trans (k_ald0 rfl) ?_
    refine Eq.trans (k_gtI rfl s_363 rfl (by decide)) ?_
    exact k_rtI rfl rfl
theorem b_220_32 {d : Nat} {m : Nat → Nat → Int} {q : Nat → Nat → Option Nat} {w : Option (Nat → Int64)} {v1 : Int}  (g0 : 0 ≤ ((48 * (m 363 29)) + v1)) (g1 : ((48 * (m 363 29)) + v1) < 768) (g2 : 0 ≤ v1) (g3 : v1 < 48) : gv d rR220 32 [some (.ref 363), some (.int (iI v1))] [] (mk m q w) =
    gv d rR220 26 [some (.ref 363), some (.int (iI (v1 + 1)))] [] (mk (wr m 376 (Int.toNat v1) (m 378 (Int.toNat ((48 * (m 363 29)) + v1)))) q w) := by
  refine Eq.trans (k_ald0 rfl) ?_
  refine Eq.trans (k_gtR rfl s_363 rfl (by decide)) ?_
  refine Eq.trans (k_ild1 rfl) ?_
  refine Eq.trans (k_ald0 rfl) ?_
  refine Eq.trans (k_gtR rfl s_363 rfl (by decide)) ?_
  refine Eq.trans (k_bip rfl (by decide)) ?_
  refine Eq.trans (k_ald0 rfl) ?_
  refine Eq.trans (k_gtI rfl s_363 rfl (by decide)) ?_
  refine Eq.trans (k_mul rfl) ?_
  refine Eq.trans (k_ild1 rfl) ?_
  refine Eq.trans (k_add rfl) ?_
  refine Eq.trans (k_iald rfl s_378 (bl rfl) g0 g1) ?_
  refine Eq.trans (k_iast rfl s_376 (bl rfl) g2 g3) ?_
  refine Eq.trans (k_inc1 rfl) ?_
  refine Eq.trans (k_go rfl rfl) ?_
  exact rfl
theorem e_220 {d : Nat} (hd : 1 ≤ d) {a0 : Value} (M : rMem) (h0 : a0.category = 1) : ev d 220 [a0] M = gv (d - 1) rR220 0 [some a0, none] [] M := ev_at hd q_220 rfl (by simp [*]) rfl
/-! FanHouseModel.turnedBits()I -/
theorem b_221_0 {d : Nat} {m : Nat → Nat → Int} {q : Nat → Nat → Option Nat} {w : Option (Nat → Int64)} {u1 u2 : Option Value}   : gv d rR221 0 [some (.ref 363), u1, u2] [] (mk m q w) =
    gv d rR221 4 [some (.ref 363), some (.int (iI 0)), some (.int (iI 0))] [] (mk m q w) := by
  refine Eq.trans (k_con rfl) ?_
  refine Eq.trans (k_ist1 rfl) ?_
  refine Eq.trans (k_con rfl) ?_
  refine Eq.trans (k_ist2 rfl) ?_
  exact rfl
theorem b_221_4 {d : Nat} {m : Nat → Nat → Int} {q : Nat → Nat → Option Nat} {w : Option (Nat → Int64)} {v1 v2 : Int}   : gv d rR221 4 [some (.ref 363), some (.int (iI v1)), some (.int (iI v2))] [] (mk m q w) =
    if iI v2 < iI (m 363 15) then (gv d rR221 12 [some (.ref 363), some (.int (iI v1)), some (.int (iI v2))] [] (mk m q w)) else (some (.inl (some (.int (iI v1))), (mk m q w, (0, 0)))) := by
  refine Eq.trans (k_ild2 rfl) ?_
  refine Eq.trans (k_ald0 rfl) ?_
  refine Eq.trans (k_gtI rfl s_363 rfl (by decide)) ?_
  refine Eq.trans (k_i2ge rfl rfl) ?_
  refine ifc ?_ ?_
  · exact rfl
  · refine Eq.trans (k_ild1 rfl) ?_
    exact k_rtI rfl rfl
theorem b_221_12 {d : Nat} {m : Nat → Nat → Int} {q : Nat → Nat → Option Nat} {w : Option (Nat → Int64)} {v1 v2 : Int}  (g0 : 0 ≤ (35 + v2)) (g1 : (35 + v2) < 48) : gv d rR221 12 [some (.ref 363), some (.int (iI v1)), some (.int (iI v2))] [] (mk m q w) =
    gv d rR221 4 [some (.ref 363), some (.int (iI (zOr v1 (zShl (m 377 (Int.toNat (35 + v2))) v2)))), some (.int (iI (v2 + 1)))] [] (mk m q w) := by
  refine Eq.trans (k_ild1 rfl) ?_
  refine Eq.trans (k_ald0 rfl) ?_
  refine Eq.trans (k_gtR rfl s_363 rfl (by decide)) ?_
  refine Eq.trans (k_bip rfl (by decide)) ?_
  refine Eq.trans (k_ild2 rfl) ?_
  refine Eq.trans (k_add rfl) ?_
  refine Eq.trans (k_iald rfl s_377 (bl rfl) g0 g1) ?_
  refine Eq.trans (k_ild2 rfl) ?_
  refine Eq.trans (k_shl rfl) ?_
  refine Eq.trans (k_ior rfl) ?_
  refine Eq.trans (k_ist1 rfl) ?_
  refine Eq.trans (k_inc2 rfl) ?_
  refine Eq.trans (k_go rfl rfl) ?_
  exact rfl
theorem e_221 {d : Nat} (hd : 1 ≤ d) {a0 : Value} (M : rMem) (h0 : a0.category = 1) : ev d 221 [a0] M = gv (d - 1) rR221 0 [some a0, none, none] [] M := ev_at hd q_221 rfl (by simp [*]) rfl
/-! FanHouseModel.told(I)I -/
theorem b_222_0 {d : Nat} {m : Nat → Nat → Int} {q : Nat → Nat → Option Nat} {w : Option (Nat → Int64)} {v1 : Int}   : gv d rR222 0 [some (.ref 363), some (.int (iI v1))] [] (mk m q w) =
    rBd (ev d 161 [.int (iI v1), .int (iI 0), .int (iI 12)] (mk (wr m 363 0 0) q w)) (fun v M' => gv d rR222 13 [some (.ref 363), some (.int (iI v1))] (v.toList ++ [.ref 363]) M') := by
  refine Eq.trans (k_ald0 rfl) ?_
  refine Eq.trans (k_con rfl) ?_
  refine Eq.trans (k_ptI rfl s_363 rfl rfl) ?_
  refine Eq.trans (k_ald0 rfl) ?_
  refine Eq.trans (k_ild1 rfl) ?_
  refine Eq.trans (k_con rfl) ?_
  refine Eq.trans (k_bip rfl (by decide)) ?_
  exact k_cS3 rfl (by decide) q_161 rfl rfl (bl rfl)
theorem b_222_13 {d : Nat} {m : Nat → Nat → Int} {q : Nat → Nat → Option Nat} {w : Option (Nat → Int64)} {v1 s1 : Int}   : gv d rR222 13 [some (.ref 363), some (.int (iI v1))] [.int (iI s1), .ref 363] (mk m q w) =
    rBd (ev d 160 [.ref 363, .int (iI s1), .int (iI 1), .int (iI 1)] (mk m q w)) (fun v M' => gv d rR222 18 [some (.ref 363), some (.int (iI v1))] (v.toList ++ []) M') := by
  refine Eq.trans (k_con rfl) ?_
  refine Eq.trans (k_con rfl) ?_
  exact k_cV3 rfl s_363 q_160 rfl rfl rfl (bl rfl)
theorem b_222_18 {d : Nat} {m : Nat → Nat → Int} {q : Nat → Nat → Option Nat} {w : Option (Nat → Int64)} {v1 s0 : Int}   : gv d rR222 18 [some (.ref 363), some (.int (iI v1))] [.int (iI s0)] (mk m q w) =
    if iI s0 = iI 0 then (some (.inl (some (.int (iI 0))), (mk m q w, (0, 0)))) else (rBd (ev d 200 [.ref 363] (mk m q w)) (fun v M' => gv d rR222 27 [some (.ref 363), some (.int (iI v1))] (v.toList ++ []) M')) := by
  refine Eq.trans (k_i1ne rfl rfl) ?_
  refine ifc ?_ ?_
  · refine Eq.trans (k_con rfl) ?_
    exact k_rtI rfl rfl
  · refine Eq.trans (k_ald0 rfl) ?_
    exact k_cV0 rfl s_363 q_200 rfl rfl rfl (bl rfl)
theorem b_222_27 {d : Nat} {m : Nat → Nat → Int} {q : Nat → Nat → Option Nat} {w : Option (Nat → Int64)} {v1 : Int}   : gv d rR222 27 [some (.ref 363), some (.int (iI v1))] [] (mk m q w) =
    if iI v1 < iI 3 then (if iI v1 = iI 0 then (gv d rR222 62 [some (.ref 363), some (.int (iI v1))] [.int (iI (m 363 15))] (mk m q w)) else (if iI v1 = iI 1 then (gv d rR222 62 [some (.ref 363), some (.int (iI v1))] [.int (iI (m 363 16))] (mk m q w)) else (gv d rR222 62 [some (.ref 363), some (.int (iI v1))] [.int (iI (m 377 42))] (mk m q w)))) else (if iI v1 < iI 6 then (if iI v1 = iI 3 then (gv d rR222 95 [some (.ref 363), some (.int (iI v1))] [.int (iI 43), .ref 377] (mk m q w)) else (if iI v1 = iI 4 then (gv d rR222 95 [some (.ref 363), some (.int (iI v1))] [.int (iI 47), .ref 377] (mk m q w)) else (gv d rR222 95 [some (.ref 363), some (.int (iI v1))] [.int (iI 44), .ref 377] (mk m q w)))) else (if iI v1 < iI 9 then (if iI v1 = iI 6 then (rBd (ev d 221 [.ref 363] (mk m q w)) (fun v M' => gv d rR222 113 [some (.ref 363), some (.int (iI v1))] (v.toList ++ []) M')) else (if iI v1 = iI 7 then (gv d rR222 133 [some (.ref 363), some (.int (iI v1))] [.int (iI 45), .ref 377] (mk m q w)) else (gv d rR222 133 [some (.ref 363), some (.int (iI v1))] [.int (iI 46), .ref 377] (mk m q w)))) else (if iI v1 = iI 9 then (gv d rR222 170 [some (.ref 363), some (.int (iI v1))] [.int (iI (m 363 42))] (mk m q w)) else (if iI v1 = iI 10 then (gv d rR222 170 [some (.ref 363), some (.int (iI v1))] [.int (iI (m 363 30))] (mk m q w)) else (gv d rR222 161 [some (.ref 363), some (.int (iI v1))] [] (mk m q w)))))) := by
  refine Eq.trans (k_ild1 rfl) ?_
  refine Eq.trans (k_con rfl) ?_
  refine Eq.trans (k_i2ge rfl rfl) ?_
  refine ifc ?_ ?_
  · refine Eq.trans (k_ild1 rfl) ?_
    refine Eq.trans (k_i1ne rfl rfl) ?_
    refine ifc ?_ ?_
    · refine Eq.trans (k_ald0 rfl) ?_
      refine Eq.trans (k_gtI rfl s_363 rfl (by decide)) ?_
      refine Eq.trans (k_go rfl rfl) ?_
      exact rfl
    · refine Eq.trans (k_ild1 rfl) ?_
      refine Eq.trans (k_con rfl) ?_
      refine Eq.trans (k_i2ne rfl rfl) ?_
      refine ifc ?_ ?_
      · refine Eq.trans (k_ald0 rfl) ?_
        refine Eq.trans (k_gtI rfl s_363 rfl (by decide)) ?_
        refine Eq.trans (k_go rfl rfl) ?_
        exact rfl
      · refine Eq.trans (k_ald0 rfl) ?_
        refine Eq.trans (k_gtR rfl s_363 rfl (by decide)) ?_
        refine Eq.trans (k_bip rfl (by decide)) ?_
        refine Eq.trans (k_iald rfl s_377 (bl rfl) (by decide) (by decide)) ?_
        exact rfl
  · refine Eq.trans (k_ild1 rfl) ?_
    refine Eq.trans (k_bip rfl (by decide)) ?_
    refine Eq.trans (k_i2ge rfl rfl) ?_
    refine ifc ?_ ?_
    · refine Eq.trans (k_ald0 rfl) ?_
      refine Eq.trans (k_gtR rfl s_363 rfl (by decide)) ?_
      refine Eq.trans (k_ild1 rfl) ?_
      refine Eq.trans (k_con rfl) ?_
      refine Eq.trans (k_i2ne rfl rfl) ?_
      refine ifc ?_ ?_
      · refine Eq.trans (k_bip rfl (by decide)) ?_
        refine Eq.trans (k_go rfl rfl) ?_
        exact rfl
      · refine Eq.trans (k_ild1 rfl) ?_
        refine Eq.trans (k_con rfl) ?_
        refine Eq.trans (k_i2ne rfl rfl) ?_
        refine ifc ?_ ?_
        · refine Eq.trans (k_bip rfl (by decide)) ?_
          refine Eq.trans (k_go rfl rfl) ?_
          exact rfl
        · refine Eq.trans (k_bip rfl (by decide)) ?_
          exact rfl
    · refine Eq.trans (k_ild1 rfl) ?_
      refine Eq.trans (k_bip rfl (by decide)) ?_
      refine Eq.trans (k_i2ge rfl rfl) ?_
      refine ifc ?_ ?_
      · refine Eq.trans (k_ild1 rfl) ?_
        refine Eq.trans (k_bip rfl (by decide)) ?_
        refine Eq.trans (k_i2ne rfl rfl) ?_
        refine ifc ?_ ?_
        · refine Eq.trans (k_ald0 rfl) ?_
          exact k_cV0 rfl s_363 q_221 rfl rfl rfl (bl rfl)
        · refine Eq.trans (k_ald0 rfl) ?_
          refine Eq.trans (k_gtR rfl s_363 rfl (by decide)) ?_
          refine Eq.trans (k_ild1 rfl) ?_
          refine Eq.trans (k_bip rfl (by decide)) ?_
          refine Eq.trans (k_i2ne rfl rfl) ?_
          refine ifc ?_ ?_
          · refine Eq.trans (k_bip rfl (by decide)) ?_
            refine Eq.trans (k_go rfl rfl) ?_
            exact rfl
          · refine Eq.trans (k_bip rfl (by decide)) ?_
            exact rfl
      · refine Eq.trans (k_ild1 rfl) ?_
        refine Eq.trans (k_bip rfl (by decide)) ?_
        refine Eq.trans (k_i2ne rfl rfl) ?_
        refine ifc ?_ ?_
        · refine Eq.trans (k_ald0 rfl) ?_
          refine Eq.trans (k_gtI rfl s_363 rfl (by decide)) ?_
          refine Eq.trans (k_go rfl rfl) ?_
          exact rfl
        · refine Eq.trans (k_ild1 rfl) ?_
          refine Eq.trans (k_bip rfl (by decide)) ?_
          refine Eq.trans (k_i2ne rfl rfl) ?_
          refine ifc ?_ ?_
          · refine Eq.trans (k_ald0 rfl) ?_
            refine Eq.trans (k_gtI rfl s_363 rfl (by decide)) ?_
            refine Eq.trans (k_go rfl rfl) ?_
            exact rfl
          · exact rfl
theorem b_222_62 {d : Nat} {m : Nat → Nat → Int} {q : Nat → Nat → Option Nat} {w : Option (Nat → Int64)} {u0 u1 : Option Value} {s0 : Int}   : gv d rR222 62 [u0, u1] [.int (iI s0)] (mk m q w) =
    some (.inl (some (.int (iI s0))), (mk m q w, (0, 0))) := by
  exact k_rtI rfl rfl
theorem b_222_95 {d : Nat} {m : Nat → Nat → Int} {q : Nat → Nat → Option Nat} {w : Option (Nat → Int64)} {u0 u1 : Option Value} {s1 : Int}  (g0 : 0 ≤ s1) (g1 : s1 < 48) : gv d rR222 95 [u0, u1] [.int (iI s1), .ref 377] (mk m q w) =
    some (.inl (some (.int (iI (m 377 (Int.toNat s1))))), (mk m q w, (0, 0))) := by
  refine Eq.trans (k_iald rfl s_377 (bl rfl) g0 g1) ?_
  exact k_rtI rfl rfl
theorem b_222_113 {d : Nat} {m : Nat → Nat → Int} {q : Nat → Nat → Option Nat} {w : Option (Nat → Int64)} {u0 u1 : Option Value} {s0 : Int}   : gv d rR222 113 [u0, u1] [.int (iI s0)] (mk m q w) =
    gv d rR222 134 [u0, u1] [.int (iI s0)] (mk m q w) := by
  refine Eq.trans (k_go rfl rfl) ?_
  exact rfl
theorem b_222_133 {d : Nat} {m : Nat → Nat → Int} {q : Nat → Nat → Option Nat} {w : Option (Nat → Int64)} {u0 u1 : Option Value} {s1 : Int}  (g0 : 0 ≤ s1) (g1 : s1 < 48) : gv d rR222 133 [u0, u1] [.int (iI s1), .ref 377] (mk m q w) =
    gv d rR222 134 [u0, u1] [.int (iI (m 377 (Int.toNat s1)))] (mk m q w) := by
  refine Eq.trans (k_iald rfl s_377 (bl rfl) g0 g1) ?_
  exact rfl
theorem b_222_134 {d : Nat} {m : Nat → Nat → Int} {q : Nat → Nat → Option Nat} {w : Option (Nat → Int64)} {u0 u1 : Option Value} {s0 : Int}   : gv d rR222 134 [u0, u1] [.int (iI s0)] (mk m q w) =
    some (.inl (some (.int (iI s0))), (mk m q w, (0, 0))) := by
  exact k_rtI rfl rfl
theorem b_222_161 {d : Nat} {m : Nat → Nat → Int} {q : Nat → Nat → Option Nat} {w : Option (Nat → Int64)} {v1 : Int}  (g0 : 0 ≤ (v1 - 11)) (g1 : (v1 - 11) < 2) : gv d rR222 161 [some (.ref 363), some (.int (iI v1))] [] (mk m q w) =
    gv d rR222 170 [some (.ref 363), some (.int (iI v1))] [.int (iI (m 381 (Int.toNat (v1 - 11))))] (mk m q w) := by
  refine Eq.trans (k_ald0 rfl) ?_
  refine Eq.trans (k_gtR rfl s_363 rfl (by decide)) ?_
  refine Eq.trans (k_ild1 rfl) ?_
  refine Eq.trans (k_bip rfl (by decide)) ?_
  refine Eq.trans (k_sub rfl) ?_
  refine Eq.trans (k_iald rfl s_381 (bl rfl) g0 g1) ?_
  exact rfl
theorem b_222_170 {d : Nat} {m : Nat → Nat → Int} {q : Nat → Nat → Option Nat} {w : Option (Nat → Int64)} {u0 u1 : Option Value} {s0 : Int}   : gv d rR222 170 [u0, u1] [.int (iI s0)] (mk m q w) =
    some (.inl (some (.int (iI s0))), (mk m q w, (0, 0))) := by
  exact k_rtI rfl rfl
theorem e_222 {d : Nat} (hd : 1 ≤ d) {a0 a1 : Value} (M : rMem) (h0 : a0.category = 1) (h1 : a1.category = 1) : ev d 222 [a0, a1] M = gv (d - 1) rR222 0 [some a0, some a1] [] M := ev_at hd q_222 rfl (by simp [*]) rfl
/-! FanHouseModel.isPlace(I)Z -/
theorem b_223_0 {d : Nat} {m : Nat → Nat → Int} {q : Nat → Nat → Option Nat} {w : Option (Nat → Int64)} {v1 : Int}   : gv d rR223 0 [some (.ref 363), some (.int (iI v1))] [] (mk m q w) =
    rBd (ev d 161 [.int (iI v1), .int (iI 0), .int (iI ((m 363 15) - 1))] (mk m q w)) (fun v M' => gv d rR223 12 [some (.ref 363), some (.int (iI v1))] (v.toList ++ [.ref 363]) M') := by
  refine Eq.trans (k_ald0 rfl) ?_
  refine Eq.trans (k_ild1 rfl) ?_
  refine Eq.trans (k_con rfl) ?_
  refine Eq.trans (k_ald0 rfl) ?_
  refine Eq.trans (k_gtI rfl s_363 rfl (by decide)) ?_
  refine Eq.trans (k_con rfl) ?_
  refine Eq.trans (k_sub rfl) ?_
  exact k_cS3 rfl (by decide) q_161 rfl rfl (bl rfl)
theorem b_223_12 {d : Nat} {m : Nat → Nat → Int} {q : Nat → Nat → Option Nat} {w : Option (Nat → Int64)} {u0 u1 : Option Value} {s1 : Int}   : gv d rR223 12 [u0, u1] [.int (iI s1), .ref 363] (mk m q w) =
    rBd (ev d 160 [.ref 363, .int (iI s1), .int (iI 1), .int (iI 0)] (mk m q w)) (fun v M' => gv d rR223 17 [u0, u1] (v.toList ++ []) M') := by
  refine Eq.trans (k_con rfl) ?_
  refine Eq.trans (k_con rfl) ?_
  exact k_cV3 rfl s_363 q_160 rfl rfl rfl (bl rfl)
theorem b_223_17 {d : Nat} {m : Nat → Nat → Int} {q : Nat → Nat → Option Nat} {w : Option (Nat → Int64)} {u0 u1 : Option Value} {s0 : Int}  (g0 : iI s0 = iI 0 ∨ iI s0 = iI 1) : gv d rR223 17 [u0, u1] [.int (iI s0)] (mk m q w) =
    some (.inl (some (.int (iI s0))), (mk m q w, (0, 0))) := by
  exact k_rtZ rfl rfl g0
theorem e_223 {d : Nat} (hd : 1 ≤ d) {a0 a1 : Value} (M : rMem) (h0 : a0.category = 1) (h1 : a1.category = 1) : ev d 223 [a0, a1] M = gv (d - 1) rR223 0 [some a0, some a1] [] M := ev_at hd q_223 rfl (by simp [*]) rfl
/-! FanHouseModel.isView(I)Z -/
theorem b_224_0 {d : Nat} {m : Nat → Nat → Int} {q : Nat → Nat → Option Nat} {w : Option (Nat → Int64)} {v0 : Int}   : gv d rR224 0 [some (.int (iI v0))] [] (mk m q w) =
    if iI v0 < iI 0 then (gv d rR224 13 [some (.int (iI v0))] [] (mk m q w)) else (if iI v0 < iI 4 then (gv d rR224 14 [some (.int (iI v0))] [.int (iI 1)] (mk m q w)) else (gv d rR224 13 [some (.int (iI v0))] [] (mk m q w))) := by
  refine Eq.trans (k_ild0 rfl) ?_
  refine Eq.trans (k_i1lt rfl rfl) ?_
  refine ifc ?_ ?_
  · exact rfl
  · refine Eq.trans (k_ild0 rfl) ?_
    refine Eq.trans (k_con rfl) ?_
    refine Eq.trans (k_i2ge rfl rfl) ?_
    refine ifc ?_ ?_
    · refine Eq.trans (k_con rfl) ?_
      refine Eq.trans (k_go rfl rfl) ?_
      exact rfl
    · exact rfl
theorem b_224_13 {d : Nat} {m : Nat → Nat → Int} {q : Nat → Nat → Option Nat} {w : Option (Nat → Int64)} {u0 : Option Value}   : gv d rR224 13 [u0] [] (mk m q w) =
    gv d rR224 14 [u0] [.int (iI 0)] (mk m q w) := by
  refine Eq.trans (k_con rfl) ?_
  exact rfl
theorem b_224_14 {d : Nat} {m : Nat → Nat → Int} {q : Nat → Nat → Option Nat} {w : Option (Nat → Int64)} {u0 : Option Value} {s0 : Int}  (g0 : iI s0 = iI 0 ∨ iI s0 = iI 1) : gv d rR224 14 [u0] [.int (iI s0)] (mk m q w) =
    some (.inl (some (.int (iI s0))), (mk m q w, (0, 0))) := by
  exact k_rtZ rfl rfl g0
theorem e_224 {d : Nat} (hd : 1 ≤ d) {a0 : Value} (M : rMem) (h0 : a0.category = 1) : ev d 224 [a0] M = gv (d - 1) rR224 0 [some a0] [] M := ev_at hd q_224 rfl (by simp [*]) rfl
/-! FanHouseModel.areAlike(II)Z -/
theorem b_225_0 {d : Nat} {m : Nat → Nat → Int} {q : Nat → Nat → Option Nat} {w : Option (Nat → Int64)} {u3 u4 : Option Value} {v1 v2 : Int}   : gv d rR225 0 [some (.ref 363), some (.int (iI v1)), some (.int (iI v2)), u3, u4] [] (mk m q w) =
    gv d rR225 5 [some (.ref 363), some (.int (iI v1)), some (.int (iI v2)), some (.int (iI 1)), some (.int (iI 0))] [] (mk m q w) := by
  refine Eq.trans (k_con rfl) ?_
  refine Eq.trans (k_ist3 rfl) ?_
  refine Eq.trans (k_con rfl) ?_
  refine Eq.trans (k_ist4 rfl) ?_
  exact rfl
theorem b_225_5 {d : Nat} {m : Nat → Nat → Int} {q : Nat → Nat → Option Nat} {w : Option (Nat → Int64)} {v1 v2 v3 v4 : Int}   : gv d rR225 5 [some (.ref 363), some (.int (iI v1)), some (.int (iI v2)), some (.int (iI v3)), some (.int (iI v4))] [] (mk m q w) =
    if iI v4 < iI 4 then (if iI v3 = iI 0 then (gv d rR225 36 [some (.ref 363), some (.int (iI v1)), some (.int (iI v2)), some (.int (iI v3)), some (.int (iI v4))] [] (mk m q w)) else (rBd (ev d 209 [.ref 363, .int (iI v1), .int (iI v4)] (mk m q w)) (fun v M' => gv d rR225 22 [some (.ref 363), some (.int (iI v1)), some (.int (iI v2)), some (.int (iI v3)), some (.int (iI v4))] (v.toList ++ []) M'))) else (gv d rR225 44 [some (.ref 363), some (.int (iI v1)), some (.int (iI v2)), some (.int (iI v3)), some (.int (iI v4))] [] (mk m q w)) := by
  refine Eq.trans (k_ild4 rfl) ?_
  refine Eq.trans (k_con rfl) ?_
  refine Eq.trans (k_i2ge rfl rfl) ?_
  refine ifc ?_ ?_
  · refine Eq.trans (k_ild3 rfl) ?_
    refine Eq.trans (k_i1eq rfl rfl) ?_
    refine ifc ?_ ?_
    · exact rfl
    · refine Eq.trans (k_ald0 rfl) ?_
      refine Eq.trans (k_ild1 rfl) ?_
      refine Eq.trans (k_ild4 rfl) ?_
      exact k_cV2 rfl s_363 q_209 rfl rfl rfl (bl rfl)
  · exact rfl
theorem b_225_22 {d : Nat} {m : Nat → Nat → Int} {q : Nat → Nat → Option Nat} {w : Option (Nat → Int64)} {u3 : Option Value} {v1 v2 v4 s0 : Int}   : gv d rR225 22 [some (.ref 363), some (.int (iI v1)), some (.int (iI v2)), u3, some (.int (iI v4))] [.int (iI s0)] (mk m q w) =
    rBd (ev d 209 [.ref 363, .int (iI v2), .int (iI v4)] (mk m q w)) (fun v M' => gv d rR225 29 [some (.ref 363), some (.int (iI v1)), some (.int (iI v2)), u3, some (.int (iI v4))] (v.toList ++ [.int (iI s0)]) M') := by
  refine Eq.trans (k_ald0 rfl) ?_
  refine Eq.trans (k_ild2 rfl) ?_
  refine Eq.trans (k_ild4 rfl) ?_
  exact k_cV2 rfl s_363 q_209 rfl rfl rfl (bl rfl)
theorem b_225_29 {d : Nat} {m : Nat → Nat → Int} {q : Nat → Nat → Option Nat} {w : Option (Nat → Int64)} {u3 : Option Value} {v1 v2 v4 s0 s1 : Int}   : gv d rR225 29 [some (.ref 363), some (.int (iI v1)), some (.int (iI v2)), u3, some (.int (iI v4))] [.int (iI s1), .int (iI s0)] (mk m q w) =
    if iI s0 = iI s1 then (gv d rR225 37 [some (.ref 363), some (.int (iI v1)), some (.int (iI v2)), u3, some (.int (iI v4))] [.int (iI 1)] (mk m q w)) else (gv d rR225 36 [some (.ref 363), some (.int (iI v1)), some (.int (iI v2)), u3, some (.int (iI v4))] [] (mk m q w)) := by
  refine Eq.trans (k_i2ne rfl rfl) ?_
  refine ifc ?_ ?_
  · refine Eq.trans (k_con rfl) ?_
    refine Eq.trans (k_go rfl rfl) ?_
    exact rfl
  · exact rfl
theorem b_225_36 {d : Nat} {m : Nat → Nat → Int} {q : Nat → Nat → Option Nat} {w : Option (Nat → Int64)} {u3 : Option Value} {v1 v2 v4 : Int}   : gv d rR225 36 [some (.ref 363), some (.int (iI v1)), some (.int (iI v2)), u3, some (.int (iI v4))] [] (mk m q w) =
    gv d rR225 37 [some (.ref 363), some (.int (iI v1)), some (.int (iI v2)), u3, some (.int (iI v4))] [.int (iI 0)] (mk m q w) := by
  refine Eq.trans (k_con rfl) ?_
  exact rfl
theorem b_225_37 {d : Nat} {m : Nat → Nat → Int} {q : Nat → Nat → Option Nat} {w : Option (Nat → Int64)} {u3 : Option Value} {v1 v2 v4 s0 : Int}   : gv d rR225 37 [some (.ref 363), some (.int (iI v1)), some (.int (iI v2)), u3, some (.int (iI v4))] [.int (iI s0)] (mk m q w) =
    gv d rR225 5 [some (.ref 363), some (.int (iI v1)), some (.int (iI v2)), some (.int (iI s0)), some (.int (iI (v4 + 1)))] [] (mk m q w) := by
  refine Eq.trans (k_ist3 rfl) ?_
  refine Eq.trans (k_inc4 rfl) ?_
  refine Eq.trans (k_go rfl rfl) ?_
  exact rfl
theorem b_225_44 {d : Nat} {m : Nat → Nat → Int} {q : Nat → Nat → Option Nat} {w : Option (Nat → Int64)} {u0 u1 u2 u4 : Option Value} {v3 : Int}  (g0 : iI v3 = iI 0 ∨ iI v3 = iI 1) : gv d rR225 44 [u0, u1, u2, some (.int (iI v3)), u4] [] (mk m q w) =
    some (.inl (some (.int (iI v3))), (mk m q w, (0, 0))) := by
  refine Eq.trans (k_ild3 rfl) ?_
  exact k_rtZ rfl rfl g0
theorem e_225 {d : Nat} (hd : 1 ≤ d) {a0 a1 a2 : Value} (M : rMem) (h0 : a0.category = 1) (h1 : a1.category = 1) (h2 : a2.category = 1) : ev d 225 [a0, a1, a2] M = gv (d - 1) rR225 0 [some a0, some a1, some a2, none, none] [] M := ev_at hd q_225 rfl (by simp [*]) rfl
/-! FanHouseModel.stick(II)I -/
theorem b_226_0 {d : Nat} {m : Nat → Nat → Int} {q : Nat → Nat → Option Nat} {w : Option (Nat → Int64)} {u3 u4 u5 : Option Value} {v1 v2 : Int}   : gv d rR226 0 [some (.ref 363), some (.int (iI v1)), some (.int (iI v2)), u3, u4, u5] [] (mk m q w) =
    rBd (ev d 223 [.ref 363, .int (iI v1)] (mk (wr m 363 0 0) q w)) (fun v M' => gv d rR226 10 [some (.ref 363), some (.int (iI v1)), some (.int (iI v2)), u3, u4, u5] (v.toList ++ []) M') := by
  refine Eq.trans (k_ald0 rfl) ?_
  refine Eq.trans (k_con rfl) ?_
  refine Eq.trans (k_ptI rfl s_363 rfl rfl) ?_
  refine Eq.trans (k_ald0 rfl) ?_
  refine Eq.trans (k_ild1 rfl) ?_
  exact k_cV1 rfl s_363 q_223 rfl rfl rfl (bl rfl)
theorem b_226_10 {d : Nat} {m : Nat → Nat → Int} {q : Nat → Nat → Option Nat} {w : Option (Nat → Int64)} {u3 u4 u5 : Option Value} {v1 v2 s0 : Int}   : gv d rR226 10 [some (.ref 363), some (.int (iI v1)), some (.int (iI v2)), u3, u4, u5] [.int (iI s0)] (mk m q w) =
    if iI s0 = iI 0 then (gv d rR226 29 [some (.ref 363), some (.int (iI v1)), some (.int (iI v2)), u3, u4, u5] [] (mk m q w)) else (rBd (ev d 161 [.int (iI v2), .int (iI 0), .int (iI 6)] (mk m q w)) (fun v M' => gv d rR226 21 [some (.ref 363), some (.int (iI v1)), some (.int (iI v2)), u3, u4, u5] (v.toList ++ [.ref 363]) M')) := by
  refine Eq.trans (k_i1eq rfl rfl) ?_
  refine ifc ?_ ?_
  · exact rfl
  · refine Eq.trans (k_ald0 rfl) ?_
    refine Eq.trans (k_ild2 rfl) ?_
    refine Eq.trans (k_con rfl) ?_
    refine Eq.trans (k_bip rfl (by decide)) ?_
    exact k_cS3 rfl (by decide) q_161 rfl rfl (bl rfl)
theorem b_226_21 {d : Nat} {m : Nat → Nat → Int} {q : Nat → Nat → Option Nat} {w : Option (Nat → Int64)} {u3 u4 u5 : Option Value} {v1 v2 s1 : Int}   : gv d rR226 21 [some (.ref 363), some (.int (iI v1)), some (.int (iI v2)), u3, u4, u5] [.int (iI s1), .ref 363] (mk m q w) =
    rBd (ev d 160 [.ref 363, .int (iI s1), .int (iI 2), .int (iI 1)] (mk m q w)) (fun v M' => gv d rR226 26 [some (.ref 363), some (.int (iI v1)), some (.int (iI v2)), u3, u4, u5] (v.toList ++ []) M') := by
  refine Eq.trans (k_con rfl) ?_
  refine Eq.trans (k_con rfl) ?_
  exact k_cV3 rfl s_363 q_160 rfl rfl rfl (bl rfl)
theorem b_226_26 {d : Nat} {m : Nat → Nat → Int} {q : Nat → Nat → Option Nat} {w : Option (Nat → Int64)} {u3 u4 u5 : Option Value} {v1 v2 s0 : Int}   : gv d rR226 26 [some (.ref 363), some (.int (iI v1)), some (.int (iI v2)), u3, u4, u5] [.int (iI s0)] (mk m q w) =
    if iI s0 = iI 0 then (gv d rR226 29 [some (.ref 363), some (.int (iI v1)), some (.int (iI v2)), u3, u4, u5] [] (mk m q w)) else (rBd (ev d 200 [.ref 363] (mk m q w)) (fun v M' => gv d rR226 35 [some (.ref 363), some (.int (iI v1)), some (.int (iI v2)), u3, u4, u5] (v.toList ++ []) M')) := by
  refine Eq.trans (k_i1ne rfl rfl) ?_
  refine ifc ?_ ?_
  · exact rfl
  · refine Eq.trans (k_ald0 rfl) ?_
    exact k_cV0 rfl s_363 q_200 rfl rfl rfl (bl rfl)
theorem b_226_29 {d : Nat} {m : Nat → Nat → Int} {q : Nat → Nat → Option Nat} {w : Option (Nat → Int64)} {u0 u1 u2 u3 u4 u5 : Option Value}   : gv d rR226 29 [u0, u1, u2, u3, u4, u5] [] (mk m q w) =
    some (.inl (some (.int (iI 0))), (mk m q w, (0, 0))) := by
  refine Eq.trans (k_con rfl) ?_
  exact k_rtI rfl rfl
theorem b_226_35 {d : Nat} {m : Nat → Nat → Int} {q : Nat → Nat → Option Nat} {w : Option (Nat → Int64)} {u3 u4 u5 : Option Value} {v1 v2 : Int}   : gv d rR226 35 [some (.ref 363), some (.int (iI v1)), some (.int (iI v2)), u3, u4, u5] [] (mk m q w) =
    if iI 1 < iI v2 then (if iI v2 < iI 6 then (rBd (ev d 209 [.ref 363, .int (iI v1), .int (iI (v2 - 2))] (mk m q w)) (fun v M' => gv d rR226 54 [some (.ref 363), some (.int (iI v1)), some (.int (iI v2)), u3, u4, u5] (v.toList ++ []) M')) else (gv d rR226 55 [some (.ref 363), some (.int (iI v1)), some (.int (iI v2)), u3, u4, u5] [] (mk m q w))) else (gv d rR226 55 [some (.ref 363), some (.int (iI v1)), some (.int (iI v2)), u3, u4, u5] [] (mk m q w)) := by
  refine Eq.trans (k_ild2 rfl) ?_
  refine Eq.trans (k_con rfl) ?_
  refine Eq.trans (k_i2le rfl rfl) ?_
  refine ifc ?_ ?_
  · refine Eq.trans (k_ild2 rfl) ?_
    refine Eq.trans (k_bip rfl (by decide)) ?_
    refine Eq.trans (k_i2ge rfl rfl) ?_
    refine ifc ?_ ?_
    · refine Eq.trans (k_ald0 rfl) ?_
      refine Eq.trans (k_ild1 rfl) ?_
      refine Eq.trans (k_ild2 rfl) ?_
      refine Eq.trans (k_con rfl) ?_
      refine Eq.trans (k_sub rfl) ?_
      exact k_cV2 rfl s_363 q_209 rfl rfl rfl (bl rfl)
    · exact rfl
  · exact rfl
theorem b_226_54 {d : Nat} {m : Nat → Nat → Int} {q : Nat → Nat → Option Nat} {w : Option (Nat → Int64)} {u0 u1 u2 u3 u4 u5 : Option Value} {s0 : Int}   : gv d rR226 54 [u0, u1, u2, u3, u4, u5] [.int (iI s0)] (mk m q w) =
    some (.inl (some (.int (iI s0))), (mk m q w, (0, 0))) := by
  exact k_rtI rfl rfl
theorem b_226_55 {d : Nat} {m : Nat → Nat → Int} {q : Nat → Nat → Option Nat} {w : Option (Nat → Int64)} {u3 u4 u5 : Option Value} {v1 v2 : Int}   : gv d rR226 55 [some (.ref 363), some (.int (iI v1)), some (.int (iI v2)), u3, u4, u5] [] (mk m q w) =
    if iI v2 = iI 1 then (gv d rR226 60 [some (.ref 363), some (.int (iI v1)), some (.int (iI v2)), u3, u4, u5] [] (mk m q w)) else (gv d rR226 78 [some (.ref 363), some (.int (iI v1)), some (.int (iI v2)), some (.int (iI 0)), some (.int (iI 0)), some (.int (iI 0))] [] (mk m q w)) := by
  refine Eq.trans (k_ild2 rfl) ?_
  refine Eq.trans (k_con rfl) ?_
  refine Eq.trans (k_i2ne rfl rfl) ?_
  refine ifc ?_ ?_
  · exact rfl
  · refine Eq.trans (k_con rfl) ?_
    refine Eq.trans (k_ist3 rfl) ?_
    refine Eq.trans (k_con rfl) ?_
    refine Eq.trans (k_ist4 rfl) ?_
    refine Eq.trans (k_con rfl) ?_
    refine Eq.trans (k_ist5 rfl) ?_
    exact rfl
theorem b_226_60 {d : Nat} {m : Nat → Nat → Int} {q : Nat → Nat → Option Nat} {w : Option (Nat → Int64)} {u2 u3 u4 u5 : Option Value} {v1 : Int}  (g0 : 0 ≤ (35 + v1)) (g1 : (35 + v1) < 48) : gv d rR226 60 [some (.ref 363), some (.int (iI v1)), u2, u3, u4, u5] [] (mk m q w) =
    some (.inl (some (.int (iI (m 377 (Int.toNat (35 + v1)))))), (mk m q w, (0, 0))) := by
  refine Eq.trans (k_ald0 rfl) ?_
  refine Eq.trans (k_gtR rfl s_363 rfl (by decide)) ?_
  refine Eq.trans (k_bip rfl (by decide)) ?_
  refine Eq.trans (k_ild1 rfl) ?_
  refine Eq.trans (k_add rfl) ?_
  refine Eq.trans (k_iald rfl s_377 (bl rfl) g0 g1) ?_
  exact k_rtI rfl rfl
theorem b_226_78 {d : Nat} {m : Nat → Nat → Int} {q : Nat → Nat → Option Nat} {w : Option (Nat → Int64)} {v1 v2 v3 v4 v5 : Int}   : gv d rR226 78 [some (.ref 363), some (.int (iI v1)), some (.int (iI v2)), some (.int (iI v3)), some (.int (iI v4)), some (.int (iI v5))] [] (mk m q w) =
    if iI v5 < iI (m 363 15) then (gv d rR226 87 [some (.ref 363), some (.int (iI v1)), some (.int (iI v2)), some (.int (iI v3)), some (.int (iI v4)), some (.int (iI v5))] [] (mk m q w)) else (if iI v2 = iI 0 then (gv d rR226 153 [some (.ref 363), some (.int (iI v1)), some (.int (iI v2)), some (.int (iI v3)), some (.int (iI v4)), some (.int (iI v5))] [.int (iI v3)] (mk m q w)) else (gv d rR226 153 [some (.ref 363), some (.int (iI v1)), some (.int (iI v2)), some (.int (iI v3)), some (.int (iI v4)), some (.int (iI v5))] [.int (iI v4)] (mk m q w))) := by
  refine Eq.trans (k_ild5 rfl) ?_
  refine Eq.trans (k_ald0 rfl) ?_
  refine Eq.trans (k_gtI rfl s_363 rfl (by decide)) ?_
  refine Eq.trans (k_i2ge rfl rfl) ?_
  refine ifc ?_ ?_
  · exact rfl
  · refine Eq.trans (k_ild2 rfl) ?_
    refine Eq.trans (k_i1ne rfl rfl) ?_
    refine ifc ?_ ?_
    · refine Eq.trans (k_ild3 rfl) ?_
      refine Eq.trans (k_go rfl rfl) ?_
      exact rfl
    · refine Eq.trans (k_ild4 rfl) ?_
      exact rfl
theorem b_226_87 {d : Nat} {m : Nat → Nat → Int} {q : Nat → Nat → Option Nat} {w : Option (Nat → Int64)} {v1 v2 v3 v4 v5 : Int}  (g0 : 0 ≤ (28 + v5)) (g1 : (28 + v5) < 48) : gv d rR226 87 [some (.ref 363), some (.int (iI v1)), some (.int (iI v2)), some (.int (iI v3)), some (.int (iI v4)), some (.int (iI v5))] [] (mk m q w) =
    if iI (m 377 (Int.toNat (28 + v5))) = iI v1 then (gv d rR226 107 [some (.ref 363), some (.int (iI v1)), some (.int (iI v2)), some (.int (iI v3)), some (.int (iI v4)), some (.int (iI v5))] [.int (iI v5)] (mk m q w)) else (gv d rR226 107 [some (.ref 363), some (.int (iI v1)), some (.int (iI v2)), some (.int (iI v3)), some (.int (iI v4)), some (.int (iI v5))] [.int (iI v3)] (mk m q w)) := by
  refine Eq.trans (k_ald0 rfl) ?_
  refine Eq.trans (k_gtR rfl s_363 rfl (by decide)) ?_
  refine Eq.trans (k_bip rfl (by decide)) ?_
  refine Eq.trans (k_ild5 rfl) ?_
  refine Eq.trans (k_add rfl) ?_
  refine Eq.trans (k_iald rfl s_377 (bl rfl) g0 g1) ?_
  refine Eq.trans (k_ild1 rfl) ?_
  refine Eq.trans (k_i2ne rfl rfl) ?_
  refine ifc ?_ ?_
  · refine Eq.trans (k_ild5 rfl) ?_
    refine Eq.trans (k_go rfl rfl) ?_
    exact rfl
  · refine Eq.trans (k_ild3 rfl) ?_
    exact rfl
theorem b_226_107 {d : Nat} {m : Nat → Nat → Int} {q : Nat → Nat → Option Nat} {w : Option (Nat → Int64)} {u3 : Option Value} {v1 v2 v4 v5 s0 : Int}   : gv d rR226 107 [some (.ref 363), some (.int (iI v1)), some (.int (iI v2)), u3, some (.int (iI v4)), some (.int (iI v5))] [.int (iI s0)] (mk m q w) =
    if iI v5 = iI v1 then (gv d rR226 133 [some (.ref 363), some (.int (iI v1)), some (.int (iI v2)), some (.int (iI s0)), some (.int (iI v4)), some (.int (iI v5))] [.int (iI v4)] (mk m q w)) else (rBd (ev d 225 [.ref 363, .int (iI v5), .int (iI v1)] (mk m q w)) (fun v M' => gv d rR226 123 [some (.ref 363), some (.int (iI v1)), some (.int (iI v2)), some (.int (iI s0)), some (.int (iI v4)), some (.int (iI v5))] (v.toList ++ [.int (iI v4)]) M')) := by
  refine Eq.trans (k_ist3 rfl) ?_
  refine Eq.trans (k_ild4 rfl) ?_
  refine Eq.trans (k_ild5 rfl) ?_
  refine Eq.trans (k_ild1 rfl) ?_
  refine Eq.trans (k_i2eq rfl rfl) ?_
  refine ifc ?_ ?_
  · exact rfl
  · refine Eq.trans (k_ald0 rfl) ?_
    refine Eq.trans (k_ild5 rfl) ?_
    refine Eq.trans (k_ild1 rfl) ?_
    exact k_cV2 rfl s_363 q_225 rfl rfl rfl (bl rfl)
theorem b_226_123 {d : Nat} {m : Nat → Nat → Int} {q : Nat → Nat → Option Nat} {w : Option (Nat → Int64)} {u4 : Option Value} {v1 v2 v3 v5 s0 s1 : Int}   : gv d rR226 123 [some (.ref 363), some (.int (iI v1)), some (.int (iI v2)), some (.int (iI v3)), u4, some (.int (iI v5))] [.int (iI s1), .int (iI s0)] (mk m q w) =
    if iI s1 = iI 0 then (gv d rR226 133 [some (.ref 363), some (.int (iI v1)), some (.int (iI v2)), some (.int (iI v3)), u4, some (.int (iI v5))] [.int (iI s0)] (mk m q w)) else (gv d rR226 134 [some (.ref 363), some (.int (iI v1)), some (.int (iI v2)), some (.int (iI v3)), u4, some (.int (iI v5))] [.int (iI (zShl 1 v5)), .int (iI s0)] (mk m q w)) := by
  refine Eq.trans (k_i1eq rfl rfl) ?_
  refine ifc ?_ ?_
  · exact rfl
  · refine Eq.trans (k_con rfl) ?_
    refine Eq.trans (k_ild5 rfl) ?_
    refine Eq.trans (k_shl rfl) ?_
    refine Eq.trans (k_go rfl rfl) ?_
    exact rfl
theorem b_226_133 {d : Nat} {m : Nat → Nat → Int} {q : Nat → Nat → Option Nat} {w : Option (Nat → Int64)} {u4 : Option Value} {v1 v2 v3 v5 s0 : Int}   : gv d rR226 133 [some (.ref 363), some (.int (iI v1)), some (.int (iI v2)), some (.int (iI v3)), u4, some (.int (iI v5))] [.int (iI s0)] (mk m q w) =
    gv d rR226 134 [some (.ref 363), some (.int (iI v1)), some (.int (iI v2)), some (.int (iI v3)), u4, some (.int (iI v5))] [.int (iI 0), .int (iI s0)] (mk m q w) := by
  refine Eq.trans (k_con rfl) ?_
  exact rfl
theorem b_226_134 {d : Nat} {m : Nat → Nat → Int} {q : Nat → Nat → Option Nat} {w : Option (Nat → Int64)} {u4 : Option Value} {v1 v2 v3 v5 s0 s1 : Int}   : gv d rR226 134 [some (.ref 363), some (.int (iI v1)), some (.int (iI v2)), some (.int (iI v3)), u4, some (.int (iI v5))] [.int (iI s1), .int (iI s0)] (mk m q w) =
    gv d rR226 78 [some (.ref 363), some (.int (iI v1)), some (.int (iI v2)), some (.int (iI v3)), some (.int (iI (zOr s0 s1))), some (.int (iI (v5 + 1)))] [] (mk m q w) := by
  refine Eq.trans (k_ior rfl) ?_
  refine Eq.trans (k_ist4 rfl) ?_
  refine Eq.trans (k_inc5 rfl) ?_
  refine Eq.trans (k_go rfl rfl) ?_
  exact rfl
theorem b_226_153 {d : Nat} {m : Nat → Nat → Int} {q : Nat → Nat → Option Nat} {w : Option (Nat → Int64)} {u0 u1 u2 u3 u4 u5 : Option Value} {s0 : Int}   : gv d rR226 153 [u0, u1, u2, u3, u4, u5] [.int (iI s0)] (mk m q w) =
    some (.inl (some (.int (iI s0))), (mk m q w, (0, 0))) := by
  exact k_rtI rfl rfl
theorem e_226 {d : Nat} (hd : 1 ≤ d) {a0 a1 a2 : Value} (M : rMem) (h0 : a0.category = 1) (h1 : a1.category = 1) (h2 : a2.category = 1) : ev d 226 [a0, a1, a2] M = gv (d - 1) rR226 0 [some a0, some a1, some a2, none, none, none] [] M := ev_at hd q_226 rfl (by simp [*]) rfl
