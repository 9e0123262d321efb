/-! FanHouseModel.wrong(II)V -/
theorem b_168_0 {d : Nat} {m : Nat → Nat → Int} {q : Nat → Nat → Option Nat} {w : Option (Nat → Int64)} {v1 v2 : Int}   : gv d rR168 0 [some (.ref 363), some (.int (iI v1)), some (.int (iI v2))] [] (mk m q w) =
    if iI (m 363 5) = iI (-1) then (some (.inl none, (mk (wr (wr m 363 5 v2) 363 6 v1) q w, (0, 0)))) else (some (.inl none, (mk m q w, (0, 0)))) := by
  refine Eq.trans (k_ald0 rfl) ?_
  refine Eq.trans (k_gtI rfl s_363 rfl (by decide)) ?_
  refine Eq.trans (k_con rfl) ?_
  refine Eq.trans (k_i2eq rfl rfl) ?_
  refine ifc ?_ ?_
  · refine Eq.trans (k_ald0 rfl) ?_
    refine Eq.trans (k_ild2 rfl) ?_
    refine Eq.trans (k_ptI rfl s_363 rfl rfl) ?_
    refine Eq.trans (k_ald0 rfl) ?_
    refine Eq.trans (k_ild1 rfl) ?_
    refine Eq.trans (k_ptI rfl s_363 rfl rfl) ?_
    exact k_rtV rfl rfl
  · exact k_rtV rfl rfl
theorem e_168 {d : Nat} (hd : 1 ≤ d) {a0 a1 a2 : Value} (M : rMem) (h0 : a0.category = 1) (h1 : a1.category = 1) (h2 : a2.category = 1) : ev d 168 [a0, a1, a2] M = gv (d - 1) rR168 0 [some a0, some a1, some a2] [] M := ev_at hd q_168 rfl (by simp [*]) rfl
/-! FanHouseModel.here()I -/
theorem b_169_0 {d : Nat} {m : Nat → Nat → Int} {q : Nat → Nat → Option Nat} {w : Option (Nat → Int64)}   : gv d rR169 0 [some (.ref 363)] [] (mk m q w) =
    if iI (m 363 4) < iI (m 363 3) then (gv d rR169 11 [some (.ref 363)] [] (mk m q w)) else (gv d rR169 38 [some (.ref 363)] [] (mk m q w)) := by
  refine Eq.trans (k_ald0 rfl) ?_
  refine Eq.trans (k_gtI rfl s_363 rfl (by decide)) ?_
  refine Eq.trans (k_ald0 rfl) ?_
  refine Eq.trans (k_gtI rfl s_363 rfl (by decide)) ?_
  refine Eq.trans (k_i2ge rfl rfl) ?_
  refine ifc ?_ ?_
  · exact rfl
  · exact rfl
theorem b_169_11 {d : Nat} {m : Nat → Nat → Int} {q : Nat → Nat → Option Nat} {w : Option (Nat → Int64)}  (g0 : 0 ≤ (m 363 4)) (g1 : (m 363 4) < 600) : gv d rR169 11 [some (.ref 363)] [] (mk m q w) =
    if iI (m 365 (Int.toNat (m 363 4))) = iI 32 then (gv d rR169 0 [some (.ref 363)] [] (mk (wr m 363 4 ((m 363 4) + 1)) q w)) else (gv d rR169 38 [some (.ref 363)] [] (mk m q w)) := by
  refine Eq.trans (k_ald0 rfl) ?_
  refine Eq.trans (k_gtR rfl s_363 rfl (by decide)) ?_
  refine Eq.trans (k_ald0 rfl) ?_
  refine Eq.trans (k_gtI rfl s_363 rfl (by decide)) ?_
  refine Eq.trans (k_iald rfl s_365 (bl rfl) g0 g1) ?_
  refine Eq.trans (k_bip rfl (by decide)) ?_
  refine Eq.trans (k_i2ne rfl rfl) ?_
  refine ifc ?_ ?_
  · refine Eq.trans (k_ald0 rfl) ?_
    refine Eq.trans (k_dup rfl rfl) ?_
    refine Eq.trans (k_gtI rfl s_363 rfl (by decide)) ?_
    refine Eq.trans (k_con rfl) ?_
    refine Eq.trans (k_add rfl) ?_
    refine Eq.trans (k_ptI rfl s_363 rfl rfl) ?_
    refine Eq.trans (k_go rfl rfl) ?_
    exact rfl
  · exact rfl
theorem b_169_38 {d : Nat} {m : Nat → Nat → Int} {q : Nat → Nat → Option Nat} {w : Option (Nat → Int64)}   : gv d rR169 38 [some (.ref 363)] [] (mk m q w) =
    if iI (m 363 4) < iI (m 363 3) then (gv d rR169 49 [some (.ref 363)] [] (mk m q w)) else (gv d rR169 62 [some (.ref 363)] [.int (iI 0)] (mk m q w)) := by
  refine Eq.trans (k_ald0 rfl) ?_
  refine Eq.trans (k_gtI rfl s_363 rfl (by decide)) ?_
  refine Eq.trans (k_ald0 rfl) ?_
  refine Eq.trans (k_gtI rfl s_363 rfl (by decide)) ?_
  refine Eq.trans (k_i2ge rfl rfl) ?_
  refine ifc ?_ ?_
  · exact rfl
  · refine Eq.trans (k_con rfl) ?_
    exact rfl
theorem b_169_49 {d : Nat} {m : Nat → Nat → Int} {q : Nat → Nat → Option Nat} {w : Option (Nat → Int64)}  (g0 : 0 ≤ (m 363 4)) (g1 : (m 363 4) < 600) : gv d rR169 49 [some (.ref 363)] [] (mk m q w) =
    gv d rR169 62 [some (.ref 363)] [.int (iI (m 365 (Int.toNat (m 363 4))))] (mk m q w) := by
  refine Eq.trans (k_ald0 rfl) ?_
  refine Eq.trans (k_gtR rfl s_363 rfl (by decide)) ?_
  refine Eq.trans (k_ald0 rfl) ?_
  refine Eq.trans (k_gtI rfl s_363 rfl (by decide)) ?_
  refine Eq.trans (k_iald rfl s_365 (bl rfl) g0 g1) ?_
  refine Eq.trans (k_go rfl rfl) ?_
  exact rfl
theorem b_169_62 {d : Nat} {m : Nat → Nat → Int} {q : Nat → Nat → Option Nat} {w : Option (Nat → Int64)} {u0 : Option Value} {s0 : Int}   : gv d rR169 62 [u0] [.int (iI s0)] (mk m q w) =
    some (.inl (some (.int (iI s0))), (mk m q w, (0, 0))) := by
  exact k_rtI rfl rfl
theorem e_169 {d : Nat} (hd : 1 ≤ d) {a0 : Value} (M : rMem) (h0 : a0.category = 1) : ev d 169 [a0] M = gv (d - 1) rR169 0 [some a0] [] M := ev_at hd q_169 rfl (by simp [*]) rfl
/-! FanHouseModel.isSmall(I)Z -/
theorem b_170_0 {d : Nat} {m : Nat → Nat → Int} {q : Nat → Nat → Option Nat} {w : Option (Nat → Int64)} {v0 : Int}   : gv d rR170 0 [some (.int (iI v0))] [] (mk m q w) =
    if iI v0 < iI 97 then (gv d rR170 16 [some (.int (iI v0))] [] (mk m q w)) else (if iI 122 < iI v0 then (gv d rR170 16 [some (.int (iI v0))] [] (mk m q w)) else (gv d rR170 17 [some (.int (iI v0))] [.int (iI 1)] (mk m q w))) := by
  refine Eq.trans (k_ild0 rfl) ?_
  refine Eq.trans (k_bip rfl (by decide)) ?_
  refine Eq.trans (k_i2lt rfl rfl) ?_
  refine ifc ?_ ?_
  · exact rfl
  · refine Eq.trans (k_ild0 rfl) ?_
    refine Eq.trans (k_bip rfl (by decide)) ?_
    refine Eq.trans (k_i2gt rfl rfl) ?_
    refine ifc ?_ ?_
    · exact rfl
    · refine Eq.trans (k_con rfl) ?_
      refine Eq.trans (k_go rfl rfl) ?_
      exact rfl
theorem b_170_16 {d : Nat} {m : Nat → Nat → Int} {q : Nat → Nat → Option Nat} {w : Option (Nat → Int64)} {u0 : Option Value}   : gv d rR170 16 [u0] [] (mk m q w) =
    gv d rR170 17 [u0] [.int (iI 0)] (mk m q w) := by
  refine Eq.trans (k_con rfl) ?_
  exact rfl
theorem b_170_17 {d : Nat} {m : Nat → Nat → Int} {q : Nat → Nat → Option Nat} {w : Option (Nat → Int64)} {u0 : Option Value} {s0 : Int}  (g0 : iI s0 = iI 0 ∨ iI s0 = iI 1) : gv d rR170 17 [u0] [.int (iI s0)] (mk m q w) =
    some (.inl (some (.int (iI s0))), (mk m q w, (0, 0))) := by
  exact k_rtZ rfl rfl g0
theorem e_170 {d : Nat} (hd : 1 ≤ d) {a0 : Value} (M : rMem) (h0 : a0.category = 1) : ev d 170 [a0] M = gv (d - 1) rR170 0 [some a0] [] M := ev_at hd q_170 rfl (by simp [*]) rfl
/-! FanHouseModel.isDigit(I)Z -/
theorem b_171_0 {d : Nat} {m : Nat → Nat → Int} {q : Nat → Nat → Option Nat} {w : Option (Nat → Int64)} {v0 : Int}   : gv d rR171 0 [some (.int (iI v0))] [] (mk m q w) =
    if iI v0 < iI 48 then (gv d rR171 16 [some (.int (iI v0))] [] (mk m q w)) else (if iI 57 < iI v0 then (gv d rR171 16 [some (.int (iI v0))] [] (mk m q w)) else (gv d rR171 17 [some (.int (iI v0))] [.int (iI 1)] (mk m q w))) := by
  refine Eq.trans (k_ild0 rfl) ?_
  refine Eq.trans (k_bip rfl (by decide)) ?_
  refine Eq.trans (k_i2lt rfl rfl) ?_
  refine ifc ?_ ?_
  · exact rfl
  · refine Eq.trans (k_ild0 rfl) ?_
    refine Eq.trans (k_bip rfl (by decide)) ?_
    refine Eq.trans (k_i2gt rfl rfl) ?_
    refine ifc ?_ ?_
    · exact rfl
    · refine Eq.trans (k_con rfl) ?_
      refine Eq.trans (k_go rfl rfl) ?_
      exact rfl
theorem b_171_16 {d : Nat} {m : Nat → Nat → Int} {q : Nat → Nat → Option Nat} {w : Option (Nat → Int64)} {u0 : Option Value}   : gv d rR171 16 [u0] [] (mk m q w) =
    gv d rR171 17 [u0] [.int (iI 0)] (mk m q w) := by
  refine Eq.trans (k_con rfl) ?_
  exact rfl
theorem b_171_17 {d : Nat} {m : Nat → Nat → Int} {q : Nat → Nat → Option Nat} {w : Option (Nat → Int64)} {u0 : Option Value} {s0 : Int}  (g0 : iI s0 = iI 0 ∨ iI s0 = iI 1) : gv d rR171 17 [u0] [.int (iI s0)] (mk m q w) =
    some (.inl (some (.int (iI s0))), (mk m q w, (0, 0))) := by
  exact k_rtZ rfl rfl g0
theorem e_171 {d : Nat} (hd : 1 ≤ d) {a0 : Value} (M : rMem) (h0 : a0.category = 1) : ev d 171 [a0] M = gv (d - 1) rR171 0 [some a0] [] M := ev_at hd q_171 rfl (by simp [*]) rfl
/-! FanHouseModel.word()I -/
theorem b_172_0 {d : Nat} {m : Nat → Nat → Int} {q : Nat → Nat → Option Nat} {w : Option (Nat → Int64)} {u1 u2 u3 : Option Value}   : gv d rR172 0 [some (.ref 363), u1, u2, u3] [] (mk m q w) =
    rBd (ev d 169 [.ref 363] (mk m q w)) (fun v M' => gv d rR172 4 [some (.ref 363), u1, u2, u3] (v.toList ++ []) M') := by
  refine Eq.trans (k_ald0 rfl) ?_
  exact k_cV0 rfl s_363 q_169 rfl rfl rfl (bl rfl)
theorem b_172_4 {d : Nat} {m : Nat → Nat → Int} {q : Nat → Nat → Option Nat} {w : Option (Nat → Int64)} {u1 u2 u3 : Option Value} {s0 : Int}   : gv d rR172 4 [some (.ref 363), u1, u2, u3] [.int (iI s0)] (mk m q w) =
    gv d rR172 14 [some (.ref 363), some (.int (iI 0)), some (.int (iI 0)), some (.int (iI (m 363 4)))] [] (mk m q w) := by
  refine Eq.trans (k_pop rfl rfl) ?_
  refine Eq.trans (k_con rfl) ?_
  refine Eq.trans (k_ist1 rfl) ?_
  refine Eq.trans (k_con rfl) ?_
  refine Eq.trans (k_ist2 rfl) ?_
  refine Eq.trans (k_ald0 rfl) ?_
  refine Eq.trans (k_gtI rfl s_363 rfl (by decide)) ?_
  refine Eq.trans (k_ist3 rfl) ?_
  exact rfl
theorem b_172_14 {d : Nat} {m : Nat → Nat → Int} {q : Nat → Nat → Option Nat} {w : Option (Nat → Int64)} {v1 v2 v3 : Int}   : gv d rR172 14 [some (.ref 363), some (.int (iI v1)), some (.int (iI v2)), some (.int (iI v3))] [] (mk m q w) =
    if iI v3 < iI (m 363 3) then (gv d rR172 22 [some (.ref 363), some (.int (iI v1)), some (.int (iI v2)), some (.int (iI v3))] [] (mk m q w)) else (gv d rR172 67 [some (.ref 363), some (.int (iI v1)), some (.int (iI v2)), some (.int (iI v3))] [] (mk m q w)) := by
  refine Eq.trans (k_ild3 rfl) ?_
  refine Eq.trans (k_ald0 rfl) ?_
  refine Eq.trans (k_gtI rfl s_363 rfl (by decide)) ?_
  refine Eq.trans (k_i2ge rfl rfl) ?_
  refine ifc ?_ ?_
  · exact rfl
  · exact rfl
theorem b_172_22 {d : Nat} {m : Nat → Nat → Int} {q : Nat → Nat → Option Nat} {w : Option (Nat → Int64)} {v1 v2 v3 : Int}  (g0 : 0 ≤ v3) (g1 : v3 < 600) : gv d rR172 22 [some (.ref 363), some (.int (iI v1)), some (.int (iI v2)), some (.int (iI v3))] [] (mk m q w) =
    rBd (ev d 170 [.int (iI (m 365 (Int.toNat v3)))] (mk m q w)) (fun v M' => gv d rR172 31 [some (.ref 363), some (.int (iI v1)), some (.int (iI v2)), some (.int (iI v3))] (v.toList ++ []) M') := by
  refine Eq.trans (k_ald0 rfl) ?_
  refine Eq.trans (k_gtR rfl s_363 rfl (by decide)) ?_
  refine Eq.trans (k_ild3 rfl) ?_
  refine Eq.trans (k_iald rfl s_365 (bl rfl) g0 g1) ?_
  exact k_cS1 rfl (by decide) q_170 rfl rfl (bl rfl)
theorem b_172_31 {d : Nat} {m : Nat → Nat → Int} {q : Nat → Nat → Option Nat} {w : Option (Nat → Int64)} {v1 v2 v3 s0 : Int}   : gv d rR172 31 [some (.ref 363), some (.int (iI v1)), some (.int (iI v2)), some (.int (iI v3))] [.int (iI s0)] (mk m q w) =
    if iI s0 = iI 0 then (gv d rR172 67 [some (.ref 363), some (.int (iI v1)), some (.int (iI v2)), some (.int (iI v3))] [] (mk m q w)) else (if iI v2 < iI 6 then (gv d rR172 40 [some (.ref 363), some (.int (iI v1)), some (.int (iI v2)), some (.int (iI v3))] [] (mk m q w)) else (gv d rR172 57 [some (.ref 363), some (.int (iI v1)), some (.int (iI v2)), some (.int (iI v3))] [.int (iI 0)] (mk m q w))) := by
  refine Eq.trans (k_i1eq rfl rfl) ?_
  refine ifc ?_ ?_
  · exact rfl
  · refine Eq.trans (k_ild2 rfl) ?_
    refine Eq.trans (k_bip rfl (by decide)) ?_
    refine Eq.trans (k_i2ge rfl rfl) ?_
    refine ifc ?_ ?_
    · exact rfl
    · refine Eq.trans (k_con rfl) ?_
      exact rfl
theorem b_172_40 {d : Nat} {m : Nat → Nat → Int} {q : Nat → Nat → Option Nat} {w : Option (Nat → Int64)} {v1 v2 v3 : Int}  (g0 : 0 ≤ v3) (g1 : v3 < 600) : gv d rR172 40 [some (.ref 363), some (.int (iI v1)), some (.int (iI v2)), some (.int (iI v3))] [] (mk m q w) =
    gv d rR172 57 [some (.ref 363), some (.int (iI v1)), some (.int (iI v2)), some (.int (iI v3))] [.int (iI (zOr (zShl v1 5) ((m 365 (Int.toNat v3)) - 96)))] (mk m q w) := by
  refine Eq.trans (k_ild1 rfl) ?_
  refine Eq.trans (k_con rfl) ?_
  refine Eq.trans (k_shl rfl) ?_
  refine Eq.trans (k_ald0 rfl) ?_
  refine Eq.trans (k_gtR rfl s_363 rfl (by decide)) ?_
  refine Eq.trans (k_ild3 rfl) ?_
  refine Eq.trans (k_iald rfl s_365 (bl rfl) g0 g1) ?_
  refine Eq.trans (k_bip rfl (by decide)) ?_
  refine Eq.trans (k_sub rfl) ?_
  refine Eq.trans (k_ior rfl) ?_
  refine Eq.trans (k_go rfl rfl) ?_
  exact rfl
theorem b_172_57 {d : Nat} {m : Nat → Nat → Int} {q : Nat → Nat → Option Nat} {w : Option (Nat → Int64)} {u1 : Option Value} {v2 v3 s0 : Int}   : gv d rR172 57 [some (.ref 363), u1, some (.int (iI v2)), some (.int (iI v3))] [.int (iI s0)] (mk m q w) =
    gv d rR172 14 [some (.ref 363), some (.int (iI s0)), some (.int (iI (v2 + 1))), some (.int (iI (v3 + 1)))] [] (mk m q w) := by
  refine Eq.trans (k_ist1 rfl) ?_
  refine Eq.trans (k_inc2 rfl) ?_
  refine Eq.trans (k_inc3 rfl) ?_
  refine Eq.trans (k_go rfl rfl) ?_
  exact rfl
theorem b_172_67 {d : Nat} {m : Nat → Nat → Int} {q : Nat → Nat → Option Nat} {w : Option (Nat → Int64)} {u0 u3 : Option Value} {v1 v2 : Int}   : gv d rR172 67 [u0, some (.int (iI v1)), some (.int (iI v2)), u3] [] (mk m q w) =
    if iI 6 < iI v2 then (gv d rR172 78 [u0, some (.int (iI v1)), some (.int (iI v2)), u3] [.int (iI 0)] (mk m q w)) else (gv d rR172 78 [u0, some (.int (iI v1)), some (.int (iI v2)), u3] [.int (iI v1)] (mk m q w)) := by
  refine Eq.trans (k_ild2 rfl) ?_
  refine Eq.trans (k_bip rfl (by decide)) ?_
  refine Eq.trans (k_i2le rfl rfl) ?_
  refine ifc ?_ ?_
  · refine Eq.trans (k_con rfl) ?_
    refine Eq.trans (k_go rfl rfl) ?_
    exact rfl
  · refine Eq.trans (k_ild1 rfl) ?_
    exact rfl
theorem b_172_78 {d : Nat} {m : Nat → Nat → Int} {q : Nat → Nat → Option Nat} {w : Option (Nat → Int64)} {u0 u1 u2 u3 : Option Value} {s0 : Int}   : gv d rR172 78 [u0, u1, u2, u3] [.int (iI s0)] (mk m q w) =
    some (.inl (some (.int (iI s0))), (mk m q w, (0, 0))) := by
  exact k_rtI rfl rfl
theorem e_172 {d : Nat} (hd : 1 ≤ d) {a0 : Value} (M : rMem) (h0 : a0.category = 1) : ev d 172 [a0] M = gv (d - 1) rR172 0 [some a0, none, none, none] [] M := ev_at hd q_172 rfl (by simp [*]) rfl
/-! FanHouseModel.of(Ljava/lang/String;)I -/
theorem b_173_0 {d : Nat} {m : Nat → Nat → Int} {q : Nat → Nat → Option Nat} {w : Option (Nat → Int64)} {u1 u2 : Option Value} {p0 : Nat} {lp0 : List Nat} (hp0 : rTxt p0 = some lp0)  : gv d rR173 0 [some (.ref p0), u1, u2] [] (mk m q w) =
    gv d rR173 4 [some (.ref p0), some (.int (iI 0)), some (.int (iI 0))] [] (mk m q w) := by
  refine Eq.trans (k_con rfl) ?_
  refine Eq.trans (k_ist1 rfl) ?_
  refine Eq.trans (k_con rfl) ?_
  refine Eq.trans (k_ist2 rfl) ?_
  exact rfl
theorem b_173_4 {d : Nat} {m : Nat → Nat → Int} {q : Nat → Nat → Option Nat} {w : Option (Nat → Int64)} {v1 v2 : Int} {p0 : Nat} {lp0 : List Nat} (hp0 : rTxt p0 = some lp0) (g0 : 9 ≤ d) : gv d rR173 4 [some (.ref p0), some (.int (iI v1)), some (.int (iI v2))] [] (mk m q w) =
    if iI v2 < iI (((lp0.length : Nat) : Int)) then (gv d rR173 12 [some (.ref p0), some (.int (iI v1)), some (.int (iI v2))] [] (mk m q w)) else (some (.inl (some (.int (iI v1))), (mk m q w, (0, 0)))) := by
  refine Eq.trans (k_ild2 rfl) ?_
  refine Eq.trans (k_ald0 rfl) ?_
  refine Eq.trans (k_len rfl hp0 g0 (bl rfl)) ?_
  refine Eq.trans (k_i2ge rfl rfl) ?_
  refine ifc ?_ ?_
  · exact rfl
  · refine Eq.trans (k_ild1 rfl) ?_
    exact k_rtI rfl rfl
theorem b_173_12 {d : Nat} {m : Nat → Nat → Int} {q : Nat → Nat → Option Nat} {w : Option (Nat → Int64)} {v1 v2 : Int} {p0 : Nat} {lp0 : List Nat} (hp0 : rTxt p0 = some lp0) (g0 : 9 ≤ d) (g1 : 0 ≤ v2) (g2 : v2 < (lp0.length : Nat)) (g3 : lp0.length ≤ 100000) : gv d rR173 12 [some (.ref p0), some (.int (iI v1)), some (.int (iI v2))] [] (mk m q w) =
    gv d rR173 4 [some (.ref p0), some (.int (iI (zOr (zShl v1 5) ((((lp0.getD (Int.toNat v2) 0 : Nat) : Int)) - 96)))), some (.int (iI (v2 + 1)))] [] (mk m q w) := by
  refine Eq.trans (k_ild1 rfl) ?_
  refine Eq.trans (k_con rfl) ?_
  refine Eq.trans (k_shl rfl) ?_
  refine Eq.trans (k_ald0 rfl) ?_
  refine Eq.trans (k_ild2 rfl) ?_
  refine Eq.trans (k_chr rfl hp0 g1 g2 g3 g0 (bl rfl)) ?_
  refine Eq.trans (k_bip rfl (by decide)) ?_
  refine Eq.trans (k_sub rfl) ?_
  refine Eq.trans (k_ior rfl) ?_
  refine Eq.trans (k_ist1 rfl) ?_
  refine Eq.trans (k_inc2 rfl) ?_
  refine Eq.trans (k_go rfl rfl) ?_
  exact rfl
theorem e_173 {d : Nat} (hd : 1 ≤ d) {a0 : Value} (M : rMem) (h0 : a0.category = 1) : ev d 173 [a0] M = gv (d - 1) rR173 0 [some a0, none, none] [] M := ev_at hd q_173 rfl (by simp [*]) rfl
/-! FanHouseModel.pass()V -/
theorem b_174_0 {d : Nat} {m : Nat → Nat → Int} {q : Nat → Nat → Option Nat} {w : Option (Nat → Int64)}   : gv d rR174 0 [some (.ref 363)] [] (mk m q w) =
    if iI (m 363 4) < iI (m 363 3) then (gv d rR174 11 [some (.ref 363)] [] (mk m q w)) else (gv d rR174 39 [some (.ref 363)] [] (mk m q w)) := by
  refine Eq.trans (k_ald0 rfl) ?_
  refine Eq.trans (k_gtI rfl s_363 rfl (by decide)) ?_
  refine Eq.trans (k_ald0 rfl) ?_
  refine Eq.trans (k_gtI rfl s_363 rfl (by decide)) ?_
  refine Eq.trans (k_i2ge rfl rfl) ?_
  refine ifc ?_ ?_
  · exact rfl
  · exact rfl
theorem b_174_11 {d : Nat} {m : Nat → Nat → Int} {q : Nat → Nat → Option Nat} {w : Option (Nat → Int64)}  (g0 : 0 ≤ (m 363 4)) (g1 : (m 363 4) < 600) : gv d rR174 11 [some (.ref 363)] [] (mk m q w) =
    rBd (ev d 170 [.int (iI (m 365 (Int.toNat (m 363 4))))] (mk m q w)) (fun v M' => gv d rR174 23 [some (.ref 363)] (v.toList ++ []) M') := by
  refine Eq.trans (k_ald0 rfl) ?_
  refine Eq.trans (k_gtR rfl s_363 rfl (by decide)) ?_
  refine Eq.trans (k_ald0 rfl) ?_
  refine Eq.trans (k_gtI rfl s_363 rfl (by decide)) ?_
  refine Eq.trans (k_iald rfl s_365 (bl rfl) g0 g1) ?_
  exact k_cS1 rfl (by decide) q_170 rfl rfl (bl rfl)
theorem b_174_23 {d : Nat} {m : Nat → Nat → Int} {q : Nat → Nat → Option Nat} {w : Option (Nat → Int64)} {s0 : Int}   : gv d rR174 23 [some (.ref 363)] [.int (iI s0)] (mk m q w) =
    if iI s0 = iI 0 then (gv d rR174 39 [some (.ref 363)] [] (mk m q w)) else (gv d rR174 0 [some (.ref 363)] [] (mk (wr m 363 4 ((m 363 4) + 1)) q w)) := by
  refine Eq.trans (k_i1eq rfl rfl) ?_
  refine ifc ?_ ?_
  · exact rfl
  · refine Eq.trans (k_ald0 rfl) ?_
    refine Eq.trans (k_dup rfl rfl) ?_
    refine Eq.trans (k_gtI rfl s_363 rfl (by decide)) ?_
    refine Eq.trans (k_con rfl) ?_
    refine Eq.trans (k_add rfl) ?_
    refine Eq.trans (k_ptI rfl s_363 rfl rfl) ?_
    refine Eq.trans (k_go rfl rfl) ?_
    exact rfl
theorem b_174_39 {d : Nat} {m : Nat → Nat → Int} {q : Nat → Nat → Option Nat} {w : Option (Nat → Int64)} {u0 : Option Value}   : gv d rR174 39 [u0] [] (mk m q w) =
    some (.inl none, (mk m q w, (0, 0))) := by
  exact k_rtV rfl rfl
theorem e_174 {d : Nat} (hd : 1 ≤ d) {a0 : Value} (M : rMem) (h0 : a0.category = 1) : ev d 174 [a0] M = gv (d - 1) rR174 0 [some a0] [] M := ev_at hd q_174 rfl (by simp [*]) rfl
/-! FanHouseModel.readNumber(II)I -/
theorem b_175_0 {d : Nat} {m : Nat → Nat → Int} {q : Nat → Nat → Option Nat} {w : Option (Nat → Int64)} {u3 u4 u5 : Option Value} {v1 v2 : Int}   : gv d rR175 0 [some (.ref 363), some (.int (iI v1)), some (.int (iI v2)), u3, u4, u5] [] (mk m q w) =
    rBd (ev d 167 [.ref 363] (mk m q w)) (fun v M' => gv d rR175 4 [some (.ref 363), some (.int (iI v1)), some (.int (iI v2)), u3, u4, u5] (v.toList ++ []) M') := by
  refine Eq.trans (k_ald0 rfl) ?_
  exact k_cV0 rfl s_363 q_167 rfl rfl rfl (bl rfl)
theorem b_175_4 {d : Nat} {m : Nat → Nat → Int} {q : Nat → Nat → Option Nat} {w : Option (Nat → Int64)} {u3 u4 u5 : Option Value} {v1 v2 s0 : Int}   : gv d rR175 4 [some (.ref 363), some (.int (iI v1)), some (.int (iI v2)), u3, u4, u5] [.int (iI s0)] (mk m q w) =
    if iI s0 = iI 0 then (some (.inl (some (.int (iI 0))), (mk m q w, (0, 0)))) else (rBd (ev d 169 [.ref 363] (mk m q w)) (fun v M' => gv d rR175 13 [some (.ref 363), some (.int (iI v1)), some (.int (iI v2)), u3, u4, u5] (v.toList ++ []) M')) := by
  refine Eq.trans (k_i1ne rfl rfl) ?_
  refine ifc ?_ ?_
  · refine Eq.trans (k_con rfl) ?_
    exact k_rtI rfl rfl
  · refine Eq.trans (k_ald0 rfl) ?_
    exact k_cV0 rfl s_363 q_169 rfl rfl rfl (bl rfl)
theorem b_175_13 {d : Nat} {m : Nat → Nat → Int} {q : Nat → Nat → Option Nat} {w : Option (Nat → Int64)} {u3 u4 u5 : Option Value} {v1 v2 s0 : Int}   : gv d rR175 13 [some (.ref 363), some (.int (iI v1)), some (.int (iI v2)), u3, u4, u5] [.int (iI s0)] (mk m q w) =
    rBd (ev d 171 [.int (iI s0)] (mk m q w)) (fun v M' => gv d rR175 27 [some (.ref 363), some (.int (iI v1)), some (.int (iI v2)), some (.int (iI s0)), some (.int (iI (m 363 4))), some (.int (iI 0))] (v.toList ++ []) M') := by
  refine Eq.trans (k_ist3 rfl) ?_
  refine Eq.trans (k_ald0 rfl) ?_
  refine Eq.trans (k_gtI rfl s_363 rfl (by decide)) ?_
  refine Eq.trans (k_ist4 rfl) ?_
  refine Eq.trans (k_con rfl) ?_
  refine Eq.trans (k_ist5 rfl) ?_
  refine Eq.trans (k_ild3 rfl) ?_
  exact k_cS1 rfl (by decide) q_171 rfl rfl (bl rfl)
theorem b_175_27 {d : Nat} {m : Nat → Nat → Int} {q : Nat → Nat → Option Nat} {w : Option (Nat → Int64)} {u3 : Option Value} {v1 v2 v4 v5 s0 : Int}   : gv d rR175 27 [some (.ref 363), some (.int (iI v1)), some (.int (iI v2)), u3, some (.int (iI v4)), some (.int (iI v5))] [.int (iI s0)] (mk m q w) =
    if iI s0 = iI 0 then (rBd (ev d 168 [.ref 363, .int (iI 1), .int (iI (m 363 4))] (mk m q w)) (fun v M' => gv d rR175 39 [some (.ref 363), some (.int (iI v1)), some (.int (iI v2)), u3, some (.int (iI v4)), some (.int (iI v5))] (v.toList ++ []) M')) else (gv d rR175 41 [some (.ref 363), some (.int (iI v1)), some (.int (iI v2)), u3, some (.int (iI v4)), some (.int (iI v5))] [] (mk m q w)) := by
  refine Eq.trans (k_i1ne rfl rfl) ?_
  refine ifc ?_ ?_
  · refine Eq.trans (k_ald0 rfl) ?_
    refine Eq.trans (k_con rfl) ?_
    refine Eq.trans (k_ald0 rfl) ?_
    refine Eq.trans (k_gtI rfl s_363 rfl (by decide)) ?_
    exact k_cV2 rfl s_363 q_168 rfl rfl rfl (bl rfl)
  · exact rfl
theorem b_175_39 {d : Nat} {m : Nat → Nat → Int} {q : Nat → Nat → Option Nat} {w : Option (Nat → Int64)} {u0 u1 u2 u3 u4 u5 : Option Value}   : gv d rR175 39 [u0, u1, u2, u3, u4, u5] [] (mk m q w) =
    some (.inl (some (.int (iI 0))), (mk m q w, (0, 0))) := by
  refine Eq.trans (k_con rfl) ?_
  exact k_rtI rfl rfl
theorem b_175_41 {d : Nat} {m : Nat → Nat → Int} {q : Nat → Nat → Option Nat} {w : Option (Nat → Int64)} {u3 : Option Value} {v1 v2 v4 v5 : Int}   : gv d rR175 41 [some (.ref 363), some (.int (iI v1)), some (.int (iI v2)), u3, some (.int (iI v4)), some (.int (iI v5))] [] (mk m q w) =
    if iI (m 363 4) < iI (m 363 3) then (gv d rR175 52 [some (.ref 363), some (.int (iI v1)), some (.int (iI v2)), u3, some (.int (iI v4)), some (.int (iI v5))] [] (mk m q w)) else (gv d rR175 114 [some (.ref 363), some (.int (iI v1)), some (.int (iI v2)), u3, some (.int (iI v4)), some (.int (iI v5))] [] (mk m q w)) := by
  refine Eq.trans (k_ald0 rfl) ?_
  refine Eq.trans (k_gtI rfl s_363 rfl (by decide)) ?_
  refine Eq.trans (k_ald0 rfl) ?_
  refine Eq.trans (k_gtI rfl s_363 rfl (by decide)) ?_
  refine Eq.trans (k_i2ge rfl rfl) ?_
  refine ifc ?_ ?_
  · exact rfl
  · exact rfl
theorem b_175_52 {d : Nat} {m : Nat → Nat → Int} {q : Nat → Nat → Option Nat} {w : Option (Nat → Int64)} {u3 : Option Value} {v1 v2 v4 v5 : Int}  (g0 : 0 ≤ (m 363 4)) (g1 : (m 363 4) < 600) : gv d rR175 52 [some (.ref 363), some (.int (iI v1)), some (.int (iI v2)), u3, some (.int (iI v4)), some (.int (iI v5))] [] (mk m q w) =
    rBd (ev d 171 [.int (iI (m 365 (Int.toNat (m 363 4))))] (mk m q w)) (fun v M' => gv d rR175 64 [some (.ref 363), some (.int (iI v1)), some (.int (iI v2)), u3, some (.int (iI v4)), some (.int (iI v5))] (v.toList ++ []) M') := by
  refine Eq.trans (k_ald0 rfl) ?_
  refine Eq.trans (k_gtR rfl s_363 rfl (by decide)) ?_
  refine Eq.trans (k_ald0 rfl) ?_
  refine Eq.trans (k_gtI rfl s_363 rfl (by decide)) ?_
  refine Eq.trans (k_iald rfl s_365 (bl rfl) g0 g1) ?_
  exact k_cS1 rfl (by decide) q_171 rfl rfl (bl rfl)
theorem b_175_64 {d : Nat} {m : Nat → Nat → Int} {q : Nat → Nat → Option Nat} {w : Option (Nat → Int64)} {u3 : Option Value} {v1 v2 v4 v5 s0 : Int}   : gv d rR175 64 [some (.ref 363), some (.int (iI v1)), some (.int (iI v2)), u3, some (.int (iI v4)), some (.int (iI v5))] [.int (iI s0)] (mk m q w) =
    if iI s0 = iI 0 then (gv d rR175 114 [some (.ref 363), some (.int (iI v1)), some (.int (iI v2)), u3, some (.int (iI v4)), some (.int (iI v5))] [] (mk m q w)) else (if iI 9999 < iI v5 then (gv d rR175 99 [some (.ref 363), some (.int (iI v1)), some (.int (iI v2)), u3, some (.int (iI v4)), some (.int (iI v5))] [.int (iI 10000)] (mk m q w)) else (gv d rR175 81 [some (.ref 363), some (.int (iI v1)), some (.int (iI v2)), u3, some (.int (iI v4)), some (.int (iI v5))] [] (mk m q w))) := by
  refine Eq.trans (k_i1eq rfl rfl) ?_
  refine ifc ?_ ?_
  · exact rfl
  · refine Eq.trans (k_ild5 rfl) ?_
    refine Eq.trans (k_sip rfl (by decide)) ?_
    refine Eq.trans (k_i2le rfl rfl) ?_
    refine ifc ?_ ?_
    · refine Eq.trans (k_sip rfl (by decide)) ?_
      refine Eq.trans (k_go rfl rfl) ?_
      exact rfl
    · exact rfl
theorem b_175_81 {d : Nat} {m : Nat → Nat → Int} {q : Nat → Nat → Option Nat} {w : Option (Nat → Int64)} {u3 : Option Value} {v1 v2 v4 v5 : Int}  (g0 : 0 ≤ (m 363 4)) (g1 : (m 363 4) < 600) : gv d rR175 81 [some (.ref 363), some (.int (iI v1)), some (.int (iI v2)), u3, some (.int (iI v4)), some (.int (iI v5))] [] (mk m q w) =
    gv d rR175 99 [some (.ref 363), some (.int (iI v1)), some (.int (iI v2)), u3, some (.int (iI v4)), some (.int (iI v5))] [.int (iI (((10 * v5) + (m 365 (Int.toNat (m 363 4)))) - 48))] (mk m q w) := by
  refine Eq.trans (k_bip rfl (by decide)) ?_
  refine Eq.trans (k_ild5 rfl) ?_
  refine Eq.trans (k_mul rfl) ?_
  refine Eq.trans (k_ald0 rfl) ?_
  refine Eq.trans (k_gtR rfl s_363 rfl (by decide)) ?_
  refine Eq.trans (k_ald0 rfl) ?_
  refine Eq.trans (k_gtI rfl s_363 rfl (by decide)) ?_
  refine Eq.trans (k_iald rfl s_365 (bl rfl) g0 g1) ?_
  refine Eq.trans (k_add rfl) ?_
  refine Eq.trans (k_bip rfl (by decide)) ?_
  refine Eq.trans (k_sub rfl) ?_
  exact rfl
theorem b_175_99 {d : Nat} {m : Nat → Nat → Int} {q : Nat → Nat → Option Nat} {w : Option (Nat → Int64)} {u3 u5 : Option Value} {v1 v2 v4 s0 : Int}   : gv d rR175 99 [some (.ref 363), some (.int (iI v1)), some (.int (iI v2)), u3, some (.int (iI v4)), u5] [.int (iI s0)] (mk m q w) =
    gv d rR175 41 [some (.ref 363), some (.int (iI v1)), some (.int (iI v2)), u3, some (.int (iI v4)), some (.int (iI s0))] [] (mk (wr m 363 4 ((m 363 4) + 1)) q w) := by
  refine Eq.trans (k_ist5 rfl) ?_
  refine Eq.trans (k_ald0 rfl) ?_
  refine Eq.trans (k_dup rfl rfl) ?_
  refine Eq.trans (k_gtI rfl s_363 rfl (by decide)) ?_
  refine Eq.trans (k_con rfl) ?_
  refine Eq.trans (k_add rfl) ?_
  refine Eq.trans (k_ptI rfl s_363 rfl rfl) ?_
  refine Eq.trans (k_go rfl rfl) ?_
  exact rfl
theorem b_175_114 {d : Nat} {m : Nat → Nat → Int} {q : Nat → Nat → Option Nat} {w : Option (Nat → Int64)} {u3 : Option Value} {v1 v2 v4 v5 : Int}   : gv d rR175 114 [some (.ref 363), some (.int (iI v1)), some (.int (iI v2)), u3, some (.int (iI v4)), some (.int (iI v5))] [] (mk m q w) =
    if iI v5 < iI v1 then (gv d rR175 126 [some (.ref 363), some (.int (iI v1)), some (.int (iI v2)), u3, some (.int (iI v4)), some (.int (iI v5))] [] (mk m q w)) else (if iI v2 < iI v5 then (gv d rR175 126 [some (.ref 363), some (.int (iI v1)), some (.int (iI v2)), u3, some (.int (iI v4)), some (.int (iI v5))] [] (mk m q w)) else (some (.inl (some (.int (iI v5))), (mk m q w, (0, 0))))) := by
  refine Eq.trans (k_ild5 rfl) ?_
  refine Eq.trans (k_ild1 rfl) ?_
  refine Eq.trans (k_i2lt rfl rfl) ?_
  refine ifc ?_ ?_
  · exact rfl
  · refine Eq.trans (k_ild5 rfl) ?_
    refine Eq.trans (k_ild2 rfl) ?_
    refine Eq.trans (k_i2le rfl rfl) ?_
    refine ifc ?_ ?_
    · exact rfl
    · refine Eq.trans (k_ild5 rfl) ?_
      exact k_rtI rfl rfl
theorem b_175_126 {d : Nat} {m : Nat → Nat → Int} {q : Nat → Nat → Option Nat} {w : Option (Nat → Int64)} {u1 u2 u3 u5 : Option Value} {v4 : Int}   : gv d rR175 126 [some (.ref 363), u1, u2, u3, some (.int (iI v4)), u5] [] (mk m q w) =
    rBd (ev d 168 [.ref 363, .int (iI 2), .int (iI v4)] (mk m q w)) (fun v M' => gv d rR175 133 [some (.ref 363), u1, u2, u3, some (.int (iI v4)), u5] (v.toList ++ []) M') := by
  refine Eq.trans (k_ald0 rfl) ?_
  refine Eq.trans (k_con rfl) ?_
  refine Eq.trans (k_ild4 rfl) ?_
  exact k_cV2 rfl s_363 q_168 rfl rfl rfl (bl rfl)
theorem b_175_133 {d : Nat} {m : Nat → Nat → Int} {q : Nat → Nat → Option Nat} {w : Option (Nat → Int64)} {u0 u1 u2 u3 u4 u5 : Option Value}   : gv d rR175 133 [u0, u1, u2, u3, u4, u5] [] (mk m q w) =
    some (.inl (some (.int (iI 0))), (mk m q w, (0, 0))) := by
  refine Eq.trans (k_con rfl) ?_
  exact k_rtI rfl rfl
theorem e_175 {d : Nat} (hd : 1 ≤ d) {a0 a1 a2 : Value} (M : rMem) (h0 : a0.category = 1) (h1 : a1.category = 1) (h2 : a2.category = 1) : ev d 175 [a0, a1, a2] M = gv (d - 1) rR175 0 [some a0, some a1, some a2, none, none, none] [] M := ev_at hd q_175 rfl (by simp [*]) rfl
/-! FanHouseModel.sign(I)V -/
theorem b_176_0 {d : Nat} {m : Nat → Nat → Int} {q : Nat → Nat → Option Nat} {w : Option (Nat → Int64)} {v1 : Int}   : gv d rR176 0 [some (.ref 363), some (.int (iI v1))] [] (mk m q w) =
    rBd (ev d 167 [.ref 363] (mk m q w)) (fun v M' => gv d rR176 4 [some (.ref 363), some (.int (iI v1))] (v.toList ++ []) M') := by
  refine Eq.trans (k_ald0 rfl) ?_
  exact k_cV0 rfl s_363 q_167 rfl rfl rfl (bl rfl)
theorem b_176_4 {d : Nat} {m : Nat → Nat → Int} {q : Nat → Nat → Option Nat} {w : Option (Nat → Int64)} {v1 s0 : Int}   : gv d rR176 4 [some (.ref 363), some (.int (iI v1))] [.int (iI s0)] (mk m q w) =
    if iI s0 = iI 0 then (gv d rR176 24 [some (.ref 363), some (.int (iI v1))] [] (mk m q w)) else (rBd (ev d 169 [.ref 363] (mk m q w)) (fun v M' => gv d rR176 11 [some (.ref 363), some (.int (iI v1))] (v.toList ++ []) M')) := by
  refine Eq.trans (k_i1eq rfl rfl) ?_
  refine ifc ?_ ?_
  · exact rfl
  · refine Eq.trans (k_ald0 rfl) ?_
    exact k_cV0 rfl s_363 q_169 rfl rfl rfl (bl rfl)
theorem b_176_11 {d : Nat} {m : Nat → Nat → Int} {q : Nat → Nat → Option Nat} {w : Option (Nat → Int64)} {v1 s0 : Int}   : gv d rR176 11 [some (.ref 363), some (.int (iI v1))] [.int (iI s0)] (mk m q w) =
    if iI s0 = iI v1 then (gv d rR176 24 [some (.ref 363), some (.int (iI v1))] [] (mk m q w)) else (rBd (ev d 168 [.ref 363, .int (iI 1), .int (iI (m 363 4))] (mk m q w)) (fun v M' => gv d rR176 24 [some (.ref 363), some (.int (iI v1))] (v.toList ++ []) M')) := by
  refine Eq.trans (k_ild1 rfl) ?_
  refine Eq.trans (k_i2eq rfl rfl) ?_
  refine ifc ?_ ?_
  · exact rfl
  · refine Eq.trans (k_ald0 rfl) ?_
    refine Eq.trans (k_con rfl) ?_
    refine Eq.trans (k_ald0 rfl) ?_
    refine Eq.trans (k_gtI rfl s_363 rfl (by decide)) ?_
    exact k_cV2 rfl s_363 q_168 rfl rfl rfl (bl rfl)
theorem b_176_24 {d : Nat} {m : Nat → Nat → Int} {q : Nat → Nat → Option Nat} {w : Option (Nat → Int64)} {u1 : Option Value}   : gv d rR176 24 [some (.ref 363), u1] [] (mk m q w) =
    rBd (ev d 167 [.ref 363] (mk m q w)) (fun v M' => gv d rR176 28 [some (.ref 363), u1] (v.toList ++ []) M') := by
  refine Eq.trans (k_ald0 rfl) ?_
  exact k_cV0 rfl s_363 q_167 rfl rfl rfl (bl rfl)
theorem b_176_28 {d : Nat} {m : Nat → Nat → Int} {q : Nat → Nat → Option Nat} {w : Option (Nat → Int64)} {u1 : Option Value} {s0 : Int}   : gv d rR176 28 [some (.ref 363), u1] [.int (iI s0)] (mk m q w) =
    if iI s0 = iI 0 then (gv d rR176 41 [some (.ref 363), u1] [] (mk m q w)) else (gv d rR176 41 [some (.ref 363), u1] [] (mk (wr m 363 4 ((m 363 4) + 1)) q w)) := by
  refine Eq.trans (k_i1eq rfl rfl) ?_
  refine ifc ?_ ?_
  · exact rfl
  · refine Eq.trans (k_ald0 rfl) ?_
    refine Eq.trans (k_dup rfl rfl) ?_
    refine Eq.trans (k_gtI rfl s_363 rfl (by decide)) ?_
    refine Eq.trans (k_con rfl) ?_
    refine Eq.trans (k_add rfl) ?_
    refine Eq.trans (k_ptI rfl s_363 rfl rfl) ?_
    exact rfl
theorem b_176_41 {d : Nat} {m : Nat → Nat → Int} {q : Nat → Nat → Option Nat} {w : Option (Nat → Int64)} {u0 u1 : Option Value}   : gv d rR176 41 [u0, u1] [] (mk m q w) =
    some (.inl none, (mk m q w, (0, 0))) := by
  exact k_rtV rfl rfl
theorem e_176 {d : Nat} (hd : 1 ≤ d) {a0 a1 : Value} (M : rMem) (h0 : a0.category = 1) (h1 : a1.category = 1) : ev d 176 [a0, a1] M = gv (d - 1) rR176 0 [some a0, some a1] [] M := ev_at hd q_176 rfl (by simp [*]) rfl
/-! FanHouseModel.isMore()Z -/
theorem b_177_0 {d : Nat} {m : Nat → Nat → Int} {q : Nat → Nat → Option Nat} {w : Option (Nat → Int64)}   : gv d rR177 0 [some (.ref 363)] [] (mk m q w) =
    rBd (ev d 169 [.ref 363] (mk m q w)) (fun v M' => gv d rR177 4 [some (.ref 363)] (v.toList ++ []) M') := by
  refine Eq.trans (k_ald0 rfl) ?_
  exact k_cV0 rfl s_363 q_169 rfl rfl rfl (bl rfl)
theorem b_177_4 {d : Nat} {m : Nat → Nat → Int} {q : Nat → Nat → Option Nat} {w : Option (Nat → Int64)} {s0 : Int}   : gv d rR177 4 [some (.ref 363)] [.int (iI s0)] (mk m q w) =
    if iI (m 363 4) < iI (m 363 3) then (gv d rR177 21 [some (.ref 363)] [.int (iI 1)] (mk m q w)) else (gv d rR177 21 [some (.ref 363)] [.int (iI 0)] (mk m q w)) := by
  refine Eq.trans (k_pop rfl rfl) ?_
  refine Eq.trans (k_ald0 rfl) ?_
  refine Eq.trans (k_gtI rfl s_363 rfl (by decide)) ?_
  refine Eq.trans (k_ald0 rfl) ?_
  refine Eq.trans (k_gtI rfl s_363 rfl (by decide)) ?_
  refine Eq.trans (k_i2ge rfl rfl) ?_
  refine ifc ?_ ?_
  · refine Eq.trans (k_con rfl) ?_
    refine Eq.trans (k_go rfl rfl) ?_
    exact rfl
  · refine Eq.trans (k_con rfl) ?_
    exact rfl
theorem b_177_21 {d : Nat} {m : Nat → Nat → Int} {q : Nat → Nat → Option Nat} {w : Option (Nat → Int64)} {u0 : Option Value} {s0 : Int}  (g0 : iI s0 = iI 0 ∨ iI s0 = iI 1) : gv d rR177 21 [u0] [.int (iI s0)] (mk m q w) =
    some (.inl (some (.int (iI s0))), (mk m q w, (0, 0))) := by
  exact k_rtZ rfl rfl g0
theorem e_177 {d : Nat} (hd : 1 ≤ d) {a0 : Value} (M : rMem) (h0 : a0.category = 1) : ev d 177 [a0] M = gv (d - 1) rR177 0 [some a0] [] M := ev_at hd q_177 rfl (by simp [*]) rfl
/-! FanHouseModel.begins(I)V -/
theorem b_178_0 {d : Nat} {m : Nat → Nat → Int} {q : Nat → Nat → Option Nat} {w : Option (Nat → Int64)} {v1 : Int}   : gv d rR178 0 [some (.ref 363), some (.int (iI v1))] [] (mk m q w) =
    some (.inl none, (mk (wr (wr (wr (wr (wr (wr m 363 2 0) 363 8 (-1)) 363 3 v1) 363 4 0) 363 5 (-1)) 363 7 0) q w, (0, 0))) := by
  refine Eq.trans (k_ald0 rfl) ?_
  refine Eq.trans (k_con rfl) ?_
  refine Eq.trans (k_ptI rfl s_363 rfl rfl) ?_
  refine Eq.trans (k_ald0 rfl) ?_
  refine Eq.trans (k_con rfl) ?_
  refine Eq.trans (k_ptI rfl s_363 rfl rfl) ?_
  refine Eq.trans (k_ald0 rfl) ?_
  refine Eq.trans (k_ild1 rfl) ?_
  refine Eq.trans (k_ptI rfl s_363 rfl rfl) ?_
  refine Eq.trans (k_ald0 rfl) ?_
  refine Eq.trans (k_con rfl) ?_
  refine Eq.trans (k_ptI rfl s_363 rfl rfl) ?_
  refine Eq.trans (k_ald0 rfl) ?_
  refine Eq.trans (k_con rfl) ?_
  refine Eq.trans (k_ptI rfl s_363 rfl rfl) ?_
  refine Eq.trans (k_ald0 rfl) ?_
  refine Eq.trans (k_con rfl) ?_
  refine Eq.trans (k_ptI rfl s_363 rfl rfl) ?_
  exact k_rtV rfl rfl
theorem e_178 {d : Nat} (hd : 1 ≤ d) {a0 a1 : Value} (M : rMem) (h0 : a0.category = 1) (h1 : a1.category = 1) : ev d 178 [a0, a1] M = gv (d - 1) rR178 0 [some a0, some a1] [] M := ev_at hd q_178 rfl (by simp [*]) rfl
/-! FanHouseModel.result(I)I -/
theorem b_179_0 {d : Nat} {m : Nat → Nat → Int} {q : Nat → Nat → Option Nat} {w : Option (Nat → Int64)} {v1 : Int}   : gv d rR179 0 [some (.ref 363), some (.int (iI v1))] [] (mk m q w) =
    rBd (ev d 167 [.ref 363] (mk (wr m 363 8 (m 363 5)) q w)) (fun v M' => gv d rR179 12 [some (.ref 363), some (.int (iI v1))] (v.toList ++ []) M') := by
  refine Eq.trans (k_ald0 rfl) ?_
  refine Eq.trans (k_ald0 rfl) ?_
  refine Eq.trans (k_gtI rfl s_363 rfl (by decide)) ?_
  refine Eq.trans (k_ptI rfl s_363 rfl rfl) ?_
  refine Eq.trans (k_ald0 rfl) ?_
  exact k_cV0 rfl s_363 q_167 rfl rfl rfl (bl rfl)
theorem b_179_12 {d : Nat} {m : Nat → Nat → Int} {q : Nat → Nat → Option Nat} {w : Option (Nat → Int64)} {v1 s0 : Int}   : gv d rR179 12 [some (.ref 363), some (.int (iI v1))] [.int (iI s0)] (mk m q w) =
    if iI s0 = iI 0 then (gv d rR179 26 [some (.ref 363), some (.int (iI v1))] [.int (iI ((m 363 6) - 10))] (mk m q w)) else (gv d rR179 26 [some (.ref 363), some (.int (iI v1))] [.int (iI v1)] (mk m q w)) := by
  refine Eq.trans (k_i1eq rfl rfl) ?_
  refine ifc ?_ ?_
  · refine Eq.trans (k_ald0 rfl) ?_
    refine Eq.trans (k_gtI rfl s_363 rfl (by decide)) ?_
    refine Eq.trans (k_bip rfl (by decide)) ?_
    refine Eq.trans (k_sub rfl) ?_
    exact rfl
  · refine Eq.trans (k_ild1 rfl) ?_
    refine Eq.trans (k_go rfl rfl) ?_
    exact rfl
theorem b_179_26 {d : Nat} {m : Nat → Nat → Int} {q : Nat → Nat → Option Nat} {w : Option (Nat → Int64)} {u0 u1 : Option Value} {s0 : Int}   : gv d rR179 26 [u0, u1] [.int (iI s0)] (mk m q w) =
    some (.inl (some (.int (iI s0))), (mk m q w, (0, 0))) := by
  exact k_rtI rfl rfl
theorem e_179 {d : Nat} (hd : 1 ≤ d) {a0 a1 : Value} (M : rMem) (h0 : a0.category = 1) (h1 : a1.category = 1) : ev d 179 [a0, a1] M = gv (d - 1) rR179 0 [some a0, some a1] [] M := ev_at hd q_179 rfl (by simp [*]) rfl
/-! FanHouseModel.fault()I -/
theorem b_180_0 {d : Nat} {m : Nat → Nat → Int} {q : Nat → Nat → Option Nat} {w : Option (Nat → Int64)}   : gv d rR180 0 [some (.ref 363)] [] (mk m q w) =
    some (.inl (some (.int (iI ((wr m 363 0 0) 363 8)))), (mk (wr m 363 0 0) q w, (0, 0))) := by
  refine Eq.trans (k_ald0 rfl) ?_
  refine Eq.trans (k_con rfl) ?_
  refine Eq.trans (k_ptI rfl s_363 rfl rfl) ?_
  refine Eq.trans (k_ald0 rfl) ?_
  refine Eq.trans (k_gtI rfl s_363 rfl (by decide)) ?_
  exact k_rtI rfl rfl
theorem e_180 {d : Nat} (hd : 1 ≤ d) {a0 : Value} (M : rMem) (h0 : a0.category = 1) : ev d 180 [a0] M = gv (d - 1) rR180 0 [some a0] [] M := ev_at hd q_180 rfl (by simp [*]) rfl
/-! FanHouseModel.isRow(I)Z -/
theorem b_181_0 {d : Nat} {m : Nat → Nat → Int} {q : Nat → Nat → Option Nat} {w : Option (Nat → Int64)} {v0 : Int}   : gv d rR181 0 [some (.int (iI v0))] [] (mk m q w) =
    rBd (ev d 173 [.ref 25] (mk m q w)) (fun v M' => gv d rR181 6 [some (.int (iI v0))] (v.toList ++ [.int (iI v0)]) M') := by
  refine Eq.trans (k_ild0 rfl) ?_
  refine Eq.trans (k_ldr rfl) ?_
  exact k_cS1 rfl (by decide) q_173 rfl rfl (bl rfl)
theorem b_181_6 {d : Nat} {m : Nat → Nat → Int} {q : Nat → Nat → Option Nat} {w : Option (Nat → Int64)} {v0 s0 s1 : Int}   : gv d rR181 6 [some (.int (iI v0))] [.int (iI s1), .int (iI s0)] (mk m q w) =
    if iI s0 = iI s1 then (gv d rR181 27 [some (.int (iI v0))] [] (mk m q w)) else (rBd (ev d 173 [.ref 22] (mk m q w)) (fun v M' => gv d rR181 15 [some (.int (iI v0))] (v.toList ++ [.int (iI v0)]) M')) := by
  refine Eq.trans (k_i2eq rfl rfl) ?_
  refine ifc ?_ ?_
  · exact rfl
  · refine Eq.trans (k_ild0 rfl) ?_
    refine Eq.trans (k_ldr rfl) ?_
    exact k_cS1 rfl (by decide) q_173 rfl rfl (bl rfl)
theorem b_181_15 {d : Nat} {m : Nat → Nat → Int} {q : Nat → Nat → Option Nat} {w : Option (Nat → Int64)} {v0 s0 s1 : Int}   : gv d rR181 15 [some (.int (iI v0))] [.int (iI s1), .int (iI s0)] (mk m q w) =
    if iI s0 = iI s1 then (gv d rR181 27 [some (.int (iI v0))] [] (mk m q w)) else (rBd (ev d 173 [.ref 18] (mk m q w)) (fun v M' => gv d rR181 24 [some (.int (iI v0))] (v.toList ++ [.int (iI v0)]) M')) := by
  refine Eq.trans (k_i2eq rfl rfl) ?_
  refine ifc ?_ ?_
  · exact rfl
  · refine Eq.trans (k_ild0 rfl) ?_
    refine Eq.trans (k_ldr rfl) ?_
    exact k_cS1 rfl (by decide) q_173 rfl rfl (bl rfl)
theorem b_181_24 {d : Nat} {m : Nat → Nat → Int} {q : Nat → Nat → Option Nat} {w : Option (Nat → Int64)} {u0 : Option Value} {s0 s1 : Int}   : gv d rR181 24 [u0] [.int (iI s1), .int (iI s0)] (mk m q w) =
    if iI s0 = iI s1 then (gv d rR181 27 [u0] [] (mk m q w)) else (gv d rR181 32 [u0] [.int (iI 0)] (mk m q w)) := by
  refine Eq.trans (k_i2ne rfl rfl) ?_
  refine ifc ?_ ?_
  · exact rfl
  · refine Eq.trans (k_con rfl) ?_
    exact rfl
theorem b_181_27 {d : Nat} {m : Nat → Nat → Int} {q : Nat → Nat → Option Nat} {w : Option (Nat → Int64)} {u0 : Option Value}   : gv d rR181 27 [u0] [] (mk m q w) =
    gv d rR181 32 [u0] [.int (iI 1)] (mk m q w) := by
  refine Eq.trans (k_con rfl) ?_
  refine Eq.trans (k_go rfl rfl) ?_
  exact rfl
theorem b_181_32 {d : Nat} {m : Nat → Nat → Int} {q : Nat → Nat → Option Nat} {w : Option (Nat → Int64)} {u0 : Option Value} {s0 : Int}  (g0 : iI s0 = iI 0 ∨ iI s0 = iI 1) : gv d rR181 32 [u0] [.int (iI s0)] (mk m q w) =
    some (.inl (some (.int (iI s0))), (mk m q w, (0, 0))) := by
  exact k_rtZ rfl rfl g0
theorem e_181 {d : Nat} (hd : 1 ≤ d) {a0 : Value} (M : rMem) (h0 : a0.category = 1) : ev d 181 [a0] M = gv (d - 1) rR181 0 [some a0] [] M := ev_at hd q_181 rfl (by simp [*]) rfl
/-! FanHouseModel.readRow(I)V -/
theorem b_182_0 {d : Nat} {m : Nat → Nat → Int} {q : Nat → Nat → Option Nat} {w : Option (Nat → Int64)} {u2 : Option Value} {v1 : Int}   : gv d rR182 0 [some (.ref 363), some (.int (iI v1)), u2] [] (mk m q w) =
    rBd (ev d 173 [.ref 25] (mk m q w)) (fun v M' => gv d rR182 6 [some (.ref 363), some (.int (iI v1)), u2] (v.toList ++ [.int (iI v1)]) M') := by
  refine Eq.trans (k_ild1 rfl) ?_
  refine Eq.trans (k_ldr rfl) ?_
  exact k_cS1 rfl (by decide) q_173 rfl rfl (bl rfl)
theorem b_182_6 {d : Nat} {m : Nat → Nat → Int} {q : Nat → Nat → Option Nat} {w : Option (Nat → Int64)} {u2 : Option Value} {v1 s0 s1 : Int}   : gv d rR182 6 [some (.ref 363), some (.int (iI v1)), u2] [.int (iI s1), .int (iI s0)] (mk m q w) =
    if iI s0 = iI s1 then (gv d rR182 11 [some (.ref 363), some (.int (iI v1)), some (.int (iI 0))] [] (mk m q w)) else (rBd (ev d 173 [.ref 22] (mk m q w)) (fun v M' => gv d rR182 61 [some (.ref 363), some (.int (iI v1)), u2] (v.toList ++ [.int (iI v1)]) M')) := by
  refine Eq.trans (k_i2ne rfl rfl) ?_
  refine ifc ?_ ?_
  · refine Eq.trans (k_con rfl) ?_
    refine Eq.trans (k_ist2 rfl) ?_
    exact rfl
  · refine Eq.trans (k_ild1 rfl) ?_
    refine Eq.trans (k_ldr rfl) ?_
    exact k_cS1 rfl (by decide) q_173 rfl rfl (bl rfl)
theorem b_182_11 {d : Nat} {m : Nat → Nat → Int} {q : Nat → Nat → Option Nat} {w : Option (Nat → Int64)} {u1 : Option Value} {v2 : Int}   : gv d rR182 11 [some (.ref 363), u1, some (.int (iI v2))] [] (mk m q w) =
    if iI v2 < iI 4 then (rBd (ev d 175 [.ref 363, .int (iI 0), .int (iI 15)] (mk m q w)) (fun v M' => gv d rR182 35 [some (.ref 363), u1, some (.int (iI v2))] (v.toList ++ [.int (iI ((4 * (m 363 12)) + v2)), .ref 366]) M')) else (gv d rR182 90 [some (.ref 363), u1, some (.int (iI v2))] [] (mk (wr m 363 12 ((m 363 12) + 1)) q w)) := by
  refine Eq.trans (k_ild2 rfl) ?_
  refine Eq.trans (k_con rfl) ?_
  refine Eq.trans (k_i2ge rfl rfl) ?_
  refine ifc ?_ ?_
  · refine Eq.trans (k_ald0 rfl) ?_
    refine Eq.trans (k_gtR rfl s_363 rfl (by decide)) ?_
    refine Eq.trans (k_con rfl) ?_
    refine Eq.trans (k_ald0 rfl) ?_
    refine Eq.trans (k_gtI rfl s_363 rfl (by decide)) ?_
    refine Eq.trans (k_mul rfl) ?_
    refine Eq.trans (k_ild2 rfl) ?_
    refine Eq.trans (k_add rfl) ?_
    refine Eq.trans (k_ald0 rfl) ?_
    refine Eq.trans (k_con rfl) ?_
    refine Eq.trans (k_bip rfl (by decide)) ?_
    exact k_cV2 rfl s_363 q_175 rfl rfl rfl (bl rfl)
  · refine Eq.trans (k_ald0 rfl) ?_
    refine Eq.trans (k_dup rfl rfl) ?_
    refine Eq.trans (k_gtI rfl s_363 rfl (by decide)) ?_
    refine Eq.trans (k_con rfl) ?_
    refine Eq.trans (k_add rfl) ?_
    refine Eq.trans (k_ptI rfl s_363 rfl rfl) ?_
    refine Eq.trans (k_go rfl rfl) ?_
    exact rfl
theorem b_182_35 {d : Nat} {m : Nat → Nat → Int} {q : Nat → Nat → Option Nat} {w : Option (Nat → Int64)} {u1 : Option Value} {v2 s1 s2 : Int}  (g0 : 0 ≤ s1) (g1 : s1 < 28) : gv d rR182 35 [some (.ref 363), u1, some (.int (iI v2))] [.int (iI s2), .int (iI s1), .ref 366] (mk m q w) =
    gv d rR182 11 [some (.ref 363), u1, some (.int (iI (v2 + 1)))] [] (mk (wr m 366 (Int.toNat s1) s2) q w) := by
  refine Eq.trans (k_iast rfl s_366 (bl rfl) g0 g1) ?_
  refine Eq.trans (k_inc2 rfl) ?_
  refine Eq.trans (k_go rfl rfl) ?_
  exact rfl
theorem b_182_61 {d : Nat} {m : Nat → Nat → Int} {q : Nat → Nat → Option Nat} {w : Option (Nat → Int64)} {u1 u2 : Option Value} {s0 s1 : Int}   : gv d rR182 61 [some (.ref 363), u1, u2] [.int (iI s1), .int (iI s0)] (mk m q w) =
    if iI s0 = iI s1 then (rBd (ev d 175 [.ref 363, .int (iI 1), .int (iI 200)] (mk m q w)) (fun v M' => gv d rR182 73 [some (.ref 363), u1, u2] (v.toList ++ [.ref 363]) M')) else (rBd (ev d 175 [.ref 363, .int (iI 0), .int (iI 99)] (mk m q w)) (fun v M' => gv d rR182 87 [some (.ref 363), u1, u2] (v.toList ++ [.ref 363]) M')) := by
  refine Eq.trans (k_i2ne rfl rfl) ?_
  refine ifc ?_ ?_
  · refine Eq.trans (k_ald0 rfl) ?_
    refine Eq.trans (k_ald0 rfl) ?_
    refine Eq.trans (k_con rfl) ?_
    refine Eq.trans (k_sip rfl (by decide)) ?_
    exact k_cV2 rfl s_363 q_175 rfl rfl rfl (bl rfl)
  · refine Eq.trans (k_ald0 rfl) ?_
    refine Eq.trans (k_ald0 rfl) ?_
    refine Eq.trans (k_con rfl) ?_
    refine Eq.trans (k_bip rfl (by decide)) ?_
    exact k_cV2 rfl s_363 q_175 rfl rfl rfl (bl rfl)
theorem b_182_73 {d : Nat} {m : Nat → Nat → Int} {q : Nat → Nat → Option Nat} {w : Option (Nat → Int64)} {u0 u1 u2 : Option Value} {s1 : Int}   : gv d rR182 73 [u0, u1, u2] [.int (iI s1), .ref 363] (mk m q w) =
    gv d rR182 90 [u0, u1, u2] [] (mk (wr m 363 13 s1) q w) := by
  refine Eq.trans (k_ptI rfl s_363 rfl rfl) ?_
  refine Eq.trans (k_go rfl rfl) ?_
  exact rfl
theorem b_182_87 {d : Nat} {m : Nat → Nat → Int} {q : Nat → Nat → Option Nat} {w : Option (Nat → Int64)} {u0 u1 u2 : Option Value} {s1 : Int}   : gv d rR182 87 [u0, u1, u2] [.int (iI s1), .ref 363] (mk m q w) =
    gv d rR182 90 [u0, u1, u2] [] (mk (wr m 363 14 s1) q w) := by
  refine Eq.trans (k_ptI rfl s_363 rfl rfl) ?_
  exact rfl
theorem b_182_90 {d : Nat} {m : Nat → Nat → Int} {q : Nat → Nat → Option Nat} {w : Option (Nat → Int64)} {u0 u1 u2 : Option Value}   : gv d rR182 90 [u0, u1, u2] [] (mk m q w) =
    some (.inl none, (mk m q w, (0, 0))) := by
  exact k_rtV rfl rfl
theorem e_182 {d : Nat} (hd : 1 ≤ d) {a0 a1 : Value} (M : rMem) (h0 : a0.category = 1) (h1 : a1.category = 1) : ev d 182 [a0, a1] M = gv (d - 1) rR182 0 [some a0, some a1, none] [] M := ev_at hd q_182 rfl (by simp [*]) rfl
/-! FanHouseModel.fan(I)I -/
theorem b_183_0 {d : Nat} {m : Nat → Nat → Int} {q : Nat → Nat → Option Nat} {w : Option (Nat → Int64)} {u2 u3 : Option Value} {v1 : Int}   : gv d rR183 0 [some (.ref 363), some (.int (iI v1)), u2, u3] [] (mk m q w) =
    if iI v1 < iI 0 then (gv d rR183 22 [some (.ref 363), some (.int (iI v1)), u2, u3] [.ref 363] (mk (wr m 363 0 0) q w)) else (if iI ((wr m 363 0 0) 363 2) < iI v1 then (gv d rR183 22 [some (.ref 363), some (.int (iI v1)), u2, u3] [.ref 363] (mk (wr m 363 0 0) q w)) else (gv d rR183 23 [some (.ref 363), some (.int (iI v1)), u2, u3] [.int (iI 1), .ref 363] (mk (wr m 363 0 0) q w))) := by
  refine Eq.trans (k_ald0 rfl) ?_
  refine Eq.trans (k_con rfl) ?_
  refine Eq.trans (k_ptI rfl s_363 rfl rfl) ?_
  refine Eq.trans (k_ald0 rfl) ?_
  refine Eq.trans (k_ild1 rfl) ?_
  refine Eq.trans (k_i1lt rfl rfl) ?_
  refine ifc ?_ ?_
  · exact rfl
  · refine Eq.trans (k_ild1 rfl) ?_
    refine Eq.trans (k_ald0 rfl) ?_
    refine Eq.trans (k_gtI rfl s_363 rfl (by decide)) ?_
    refine Eq.trans (k_i2gt rfl rfl) ?_
    refine ifc ?_ ?_
    · exact rfl
    · refine Eq.trans (k_con rfl) ?_
      refine Eq.trans (k_go rfl rfl) ?_
      exact rfl
theorem b_183_22 {d : Nat} {m : Nat → Nat → Int} {q : Nat → Nat → Option Nat} {w : Option (Nat → Int64)} {u2 u3 : Option Value} {v1 : Int}   : gv d rR183 22 [some (.ref 363), some (.int (iI v1)), u2, u3] [.ref 363] (mk m q w) =
    gv d rR183 23 [some (.ref 363), some (.int (iI v1)), u2, u3] [.int (iI 0), .ref 363] (mk m q w) := by
  refine Eq.trans (k_con rfl) ?_
  exact rfl
theorem b_183_23 {d : Nat} {m : Nat → Nat → Int} {q : Nat → Nat → Option Nat} {w : Option (Nat → Int64)} {u2 u3 : Option Value} {v1 s1 : Int}   : gv d rR183 23 [some (.ref 363), some (.int (iI v1)), u2, u3] [.int (iI s1), .ref 363] (mk m q w) =
    rBd (ev d 160 [.ref 363, .int (iI s1), .int (iI 1), .int (iI 1)] (mk m q w)) (fun v M' => gv d rR183 28 [some (.ref 363), some (.int (iI v1)), u2, u3] (v.toList ++ []) M') := by
  refine Eq.trans (k_con rfl) ?_
  refine Eq.trans (k_con rfl) ?_
  exact k_cV3 rfl s_363 q_160 rfl rfl rfl (bl rfl)
theorem b_183_28 {d : Nat} {m : Nat → Nat → Int} {q : Nat → Nat → Option Nat} {w : Option (Nat → Int64)} {u2 u3 : Option Value} {v1 s0 : Int}   : gv d rR183 28 [some (.ref 363), some (.int (iI v1)), u2, u3] [.int (iI s0)] (mk m q w) =
    if iI s0 = iI 0 then (some (.inl (some (.int (iI 0))), (mk m q w, (0, 0)))) else (rBd (ev d 178 [.ref 363, .int (iI v1)] (mk m q w)) (fun v M' => gv d rR183 38 [some (.ref 363), some (.int (iI v1)), u2, u3] (v.toList ++ []) M')) := by
  refine Eq.trans (k_i1ne rfl rfl) ?_
  refine ifc ?_ ?_
  · refine Eq.trans (k_con rfl) ?_
    exact k_rtI rfl rfl
  · refine Eq.trans (k_ald0 rfl) ?_
    refine Eq.trans (k_ild1 rfl) ?_
    exact k_cV1 rfl s_363 q_178 rfl rfl rfl (bl rfl)
theorem b_183_38 {d : Nat} {m : Nat → Nat → Int} {q : Nat → Nat → Option Nat} {w : Option (Nat → Int64)} {u1 u2 u3 : Option Value}   : gv d rR183 38 [some (.ref 363), u1, u2, u3] [] (mk m q w) =
    rBd (ev d 162 [.ref 363] (mk m q w)) (fun v M' => gv d rR183 42 [some (.ref 363), u1, u2, u3] (v.toList ++ []) M') := by
  refine Eq.trans (k_ald0 rfl) ?_
  exact k_cV0 rfl s_363 q_162 rfl rfl rfl (bl rfl)
theorem b_183_42 {d : Nat} {m : Nat → Nat → Int} {q : Nat → Nat → Option Nat} {w : Option (Nat → Int64)} {u1 u2 u3 : Option Value}   : gv d rR183 42 [some (.ref 363), u1, u2, u3] [] (mk m q w) =
    gv d rR183 44 [some (.ref 363), u1, some (.int (iI 0)), u3] [] (mk m q w) := by
  refine Eq.trans (k_con rfl) ?_
  refine Eq.trans (k_ist2 rfl) ?_
  exact rfl
theorem b_183_44 {d : Nat} {m : Nat → Nat → Int} {q : Nat → Nat → Option Nat} {w : Option (Nat → Int64)} {u1 u3 : Option Value} {v2 : Int}   : gv d rR183 44 [some (.ref 363), u1, some (.int (iI v2)), u3] [] (mk m q w) =
    rBd (ev d 167 [.ref 363] (mk m q w)) (fun v M' => gv d rR183 48 [some (.ref 363), u1, some (.int (iI v2)), u3] (v.toList ++ []) M') := by
  refine Eq.trans (k_ald0 rfl) ?_
  exact k_cV0 rfl s_363 q_167 rfl rfl rfl (bl rfl)
theorem b_183_48 {d : Nat} {m : Nat → Nat → Int} {q : Nat → Nat → Option Nat} {w : Option (Nat → Int64)} {u1 u3 : Option Value} {v2 s0 : Int}   : gv d rR183 48 [some (.ref 363), u1, some (.int (iI v2)), u3] [.int (iI s0)] (mk m q w) =
    if iI s0 = iI 0 then (gv d rR183 146 [some (.ref 363), u1, some (.int (iI v2)), u3] [] (mk m q w)) else (rBd (ev d 177 [.ref 363] (mk m q w)) (fun v M' => gv d rR183 55 [some (.ref 363), u1, some (.int (iI v2)), u3] (v.toList ++ []) M')) := by
  refine Eq.trans (k_i1eq rfl rfl) ?_
  refine ifc ?_ ?_
  · exact rfl
  · refine Eq.trans (k_ald0 rfl) ?_
    exact k_cV0 rfl s_363 q_177 rfl rfl rfl (bl rfl)
theorem b_183_55 {d : Nat} {m : Nat → Nat → Int} {q : Nat → Nat → Option Nat} {w : Option (Nat → Int64)} {u1 u3 : Option Value} {v2 s0 : Int}   : gv d rR183 55 [some (.ref 363), u1, some (.int (iI v2)), u3] [.int (iI s0)] (mk m q w) =
    if iI s0 = iI 0 then (gv d rR183 146 [some (.ref 363), u1, some (.int (iI v2)), u3] [] (mk m q w)) else (rBd (ev d 172 [.ref 363] (mk m q w)) (fun v M' => gv d rR183 62 [some (.ref 363), u1, some (.int (iI v2)), u3] (v.toList ++ []) M')) := by
  refine Eq.trans (k_i1eq rfl rfl) ?_
  refine ifc ?_ ?_
  · exact rfl
  · refine Eq.trans (k_ald0 rfl) ?_
    exact k_cV0 rfl s_363 q_172 rfl rfl rfl (bl rfl)
theorem b_183_62 {d : Nat} {m : Nat → Nat → Int} {q : Nat → Nat → Option Nat} {w : Option (Nat → Int64)} {u1 u3 : Option Value} {v2 s0 : Int}   : gv d rR183 62 [some (.ref 363), u1, some (.int (iI v2)), u3] [.int (iI s0)] (mk m q w) =
    rBd (ev d 181 [.int (iI s0)] (mk m q w)) (fun v M' => gv d rR183 67 [some (.ref 363), u1, some (.int (iI v2)), some (.int (iI s0))] (v.toList ++ []) M') := by
  refine Eq.trans (k_ist3 rfl) ?_
  refine Eq.trans (k_ild3 rfl) ?_
  exact k_cS1 rfl (by decide) q_181 rfl rfl (bl rfl)
theorem b_183_67 {d : Nat} {m : Nat → Nat → Int} {q : Nat → Nat → Option Nat} {w : Option (Nat → Int64)} {u1 : Option Value} {v2 v3 s0 : Int}   : gv d rR183 67 [some (.ref 363), u1, some (.int (iI v2)), some (.int (iI v3))] [.int (iI s0)] (mk m q w) =
    if iI s0 = iI 0 then (rBd (ev d 168 [.ref 363, .int (iI 1), .int (iI (m 363 4))] (mk m q w)) (fun v M' => gv d rR183 79 [some (.ref 363), u1, some (.int (iI v2)), some (.int (iI v3))] (v.toList ++ []) M')) else (if iI v2 = iI 60 then (gv d rR183 106 [some (.ref 363), u1, some (.int (iI v2)), some (.int (iI v3))] [] (mk m q w)) else (rBd (ev d 173 [.ref 25] (mk m q w)) (fun v M' => gv d rR183 94 [some (.ref 363), u1, some (.int (iI v2)), some (.int (iI v3))] (v.toList ++ [.int (iI v3)]) M'))) := by
  refine Eq.trans (k_i1ne rfl rfl) ?_
  refine ifc ?_ ?_
  · refine Eq.trans (k_ald0 rfl) ?_
    refine Eq.trans (k_con rfl) ?_
    refine Eq.trans (k_ald0 rfl) ?_
    refine Eq.trans (k_gtI rfl s_363 rfl (by decide)) ?_
    exact k_cV2 rfl s_363 q_168 rfl rfl rfl (bl rfl)
  · refine Eq.trans (k_ild2 rfl) ?_
    refine Eq.trans (k_bip rfl (by decide)) ?_
    refine Eq.trans (k_i2eq rfl rfl) ?_
    refine ifc ?_ ?_
    · exact rfl
    · refine Eq.trans (k_ild3 rfl) ?_
      refine Eq.trans (k_ldr rfl) ?_
      exact k_cS1 rfl (by decide) q_173 rfl rfl (bl rfl)
theorem b_183_79 {d : Nat} {m : Nat → Nat → Int} {q : Nat → Nat → Option Nat} {w : Option (Nat → Int64)} {u1 : Option Value} {v2 v3 : Int}   : gv d rR183 79 [some (.ref 363), u1, some (.int (iI v2)), some (.int (iI v3))] [] (mk m q w) =
    gv d rR183 115 [some (.ref 363), u1, some (.int (iI v2)), some (.int (iI v3))] [] (mk m q w) := by
  refine Eq.trans (k_go rfl rfl) ?_
  exact rfl
theorem b_183_94 {d : Nat} {m : Nat → Nat → Int} {q : Nat → Nat → Option Nat} {w : Option (Nat → Int64)} {u1 : Option Value} {v2 v3 s0 s1 : Int}   : gv d rR183 94 [some (.ref 363), u1, some (.int (iI v2)), some (.int (iI v3))] [.int (iI s1), .int (iI s0)] (mk m q w) =
    if iI s0 = iI s1 then (if iI (m 363 12) = iI 7 then (gv d rR183 106 [some (.ref 363), u1, some (.int (iI v2)), some (.int (iI v3))] [] (mk m q w)) else (gv d rR183 115 [some (.ref 363), u1, some (.int (iI v2)), some (.int (iI v3))] [] (mk m q w))) else (gv d rR183 115 [some (.ref 363), u1, some (.int (iI v2)), some (.int (iI v3))] [] (mk m q w)) := by
  refine Eq.trans (k_i2ne rfl rfl) ?_
  refine ifc ?_ ?_
  · refine Eq.trans (k_ald0 rfl) ?_
    refine Eq.trans (k_gtI rfl s_363 rfl (by decide)) ?_
    refine Eq.trans (k_bip rfl (by decide)) ?_
    refine Eq.trans (k_i2ne rfl rfl) ?_
    refine ifc ?_ ?_
    · exact rfl
    · exact rfl
  · exact rfl
theorem b_183_106 {d : Nat} {m : Nat → Nat → Int} {q : Nat → Nat → Option Nat} {w : Option (Nat → Int64)} {u1 : Option Value} {v2 v3 : Int}   : gv d rR183 106 [some (.ref 363), u1, some (.int (iI v2)), some (.int (iI v3))] [] (mk m q w) =
    rBd (ev d 168 [.ref 363, .int (iI 3), .int (iI (m 363 4))] (mk m q w)) (fun v M' => gv d rR183 115 [some (.ref 363), u1, some (.int (iI v2)), some (.int (iI v3))] (v.toList ++ []) M') := by
  refine Eq.trans (k_ald0 rfl) ?_
  refine Eq.trans (k_con rfl) ?_
  refine Eq.trans (k_ald0 rfl) ?_
  refine Eq.trans (k_gtI rfl s_363 rfl (by decide)) ?_
  exact k_cV2 rfl s_363 q_168 rfl rfl rfl (bl rfl)
theorem b_183_115 {d : Nat} {m : Nat → Nat → Int} {q : Nat → Nat → Option Nat} {w : Option (Nat → Int64)} {u1 : Option Value} {v2 v3 : Int}   : gv d rR183 115 [some (.ref 363), u1, some (.int (iI v2)), some (.int (iI v3))] [] (mk m q w) =
    rBd (ev d 167 [.ref 363] (mk m q w)) (fun v M' => gv d rR183 119 [some (.ref 363), u1, some (.int (iI v2)), some (.int (iI v3))] (v.toList ++ []) M') := by
  refine Eq.trans (k_ald0 rfl) ?_
  exact k_cV0 rfl s_363 q_167 rfl rfl rfl (bl rfl)
theorem b_183_119 {d : Nat} {m : Nat → Nat → Int} {q : Nat → Nat → Option Nat} {w : Option (Nat → Int64)} {u1 : Option Value} {v2 v3 s0 : Int}   : gv d rR183 119 [some (.ref 363), u1, some (.int (iI v2)), some (.int (iI v3))] [.int (iI s0)] (mk m q w) =
    if iI s0 = iI 0 then (gv d rR183 146 [some (.ref 363), u1, some (.int (iI v2)), some (.int (iI v3))] [] (mk m q w)) else (rBd (ev d 174 [.ref 363] (mk m q w)) (fun v M' => gv d rR183 129 [some (.ref 363), u1, some (.int (iI v2)), some (.int (iI v3))] (v.toList ++ []) M')) := by
  refine Eq.trans (k_i1ne rfl rfl) ?_
  refine ifc ?_ ?_
  · refine Eq.trans (k_go rfl rfl) ?_
    exact rfl
  · refine Eq.trans (k_ald0 rfl) ?_
    exact k_cV0 rfl s_363 q_174 rfl rfl rfl (bl rfl)
theorem b_183_129 {d : Nat} {m : Nat → Nat → Int} {q : Nat → Nat → Option Nat} {w : Option (Nat → Int64)} {u1 : Option Value} {v2 v3 : Int}   : gv d rR183 129 [some (.ref 363), u1, some (.int (iI v2)), some (.int (iI v3))] [] (mk m q w) =
    rBd (ev d 182 [.ref 363, .int (iI v3)] (mk m q w)) (fun v M' => gv d rR183 134 [some (.ref 363), u1, some (.int (iI v2)), some (.int (iI v3))] (v.toList ++ []) M') := by
  refine Eq.trans (k_ald0 rfl) ?_
  refine Eq.trans (k_ild3 rfl) ?_
  exact k_cV1 rfl s_363 q_182 rfl rfl rfl (bl rfl)
theorem b_183_134 {d : Nat} {m : Nat → Nat → Int} {q : Nat → Nat → Option Nat} {w : Option (Nat → Int64)} {u1 u3 : Option Value} {v2 : Int}   : gv d rR183 134 [some (.ref 363), u1, some (.int (iI v2)), u3] [] (mk m q w) =
    rBd (ev d 176 [.ref 363, .int (iI 59)] (mk m q w)) (fun v M' => gv d rR183 140 [some (.ref 363), u1, some (.int (iI v2)), u3] (v.toList ++ []) M') := by
  refine Eq.trans (k_ald0 rfl) ?_
  refine Eq.trans (k_bip rfl (by decide)) ?_
  exact k_cV1 rfl s_363 q_176 rfl rfl rfl (bl rfl)
theorem b_183_140 {d : Nat} {m : Nat → Nat → Int} {q : Nat → Nat → Option Nat} {w : Option (Nat → Int64)} {u1 u3 : Option Value} {v2 : Int}   : gv d rR183 140 [some (.ref 363), u1, some (.int (iI v2)), u3] [] (mk m q w) =
    gv d rR183 44 [some (.ref 363), u1, some (.int (iI (v2 + 1))), u3] [] (mk m q w) := by
  refine Eq.trans (k_inc2 rfl) ?_
  refine Eq.trans (k_go rfl rfl) ?_
  exact rfl
theorem b_183_146 {d : Nat} {m : Nat → Nat → Int} {q : Nat → Nat → Option Nat} {w : Option (Nat → Int64)} {u1 u2 u3 : Option Value}   : gv d rR183 146 [some (.ref 363), u1, u2, u3] [] (mk m q w) =
    rBd (ev d 179 [.ref 363, .int (iI (m 363 12))] (mk m q w)) (fun v M' => gv d rR183 154 [some (.ref 363), u1, u2, u3] (v.toList ++ []) M') := by
  refine Eq.trans (k_ald0 rfl) ?_
  refine Eq.trans (k_ald0 rfl) ?_
  refine Eq.trans (k_gtI rfl s_363 rfl (by decide)) ?_
  exact k_cV1 rfl s_363 q_179 rfl rfl rfl (bl rfl)
theorem b_183_154 {d : Nat} {m : Nat → Nat → Int} {q : Nat → Nat → Option Nat} {w : Option (Nat → Int64)} {u1 u2 u3 : Option Value} {s0 : Int}   : gv d rR183 154 [some (.ref 363), u1, u2, u3] [.int (iI s0)] (mk m q w) =
    if iI (m 363 5) = iI (-1) then (rBd (ev d 164 [.ref 363] (mk m q w)) (fun v M' => gv d rR183 167 [some (.ref 363), u1, u2, some (.int (iI s0))] (v.toList ++ []) M')) else (gv d rR183 167 [some (.ref 363), u1, u2, some (.int (iI s0))] [] (mk m q w)) := by
  refine Eq.trans (k_ist3 rfl) ?_
  refine Eq.trans (k_ald0 rfl) ?_
  refine Eq.trans (k_gtI rfl s_363 rfl (by decide)) ?_
  refine Eq.trans (k_con rfl) ?_
  refine Eq.trans (k_i2ne rfl rfl) ?_
  refine ifc ?_ ?_
  · refine Eq.trans (k_ald0 rfl) ?_
    exact k_cV0 rfl s_363 q_164 rfl rfl rfl (bl rfl)
  · exact rfl
theorem b_183_167 {d : Nat} {m : Nat → Nat → Int} {q : Nat → Nat → Option Nat} {w : Option (Nat → Int64)} {u0 u1 u2 : Option Value} {v3 : Int}   : gv d rR183 167 [u0, u1, u2, some (.int (iI v3))] [] (mk m q w) =
    some (.inl (some (.int (iI v3))), (mk m q w, (0, 0))) := by
  refine Eq.trans (k_ild3 rfl) ?_
  exact k_rtI rfl rfl
theorem e_183 {d : Nat} (hd : 1 ≤ d) {a0 a1 : Value} (M : rMem) (h0 : a0.category = 1) (h1 : a1.category = 1) : ev d 183 [a0, a1] M = gv (d - 1) rR183 0 [some a0, some a1, none, none] [] M := ev_at hd q_183 rfl (by simp [*]) rfl
/-! FanHouseModel.emit(II)V -/
theorem b_184_0 {d : Nat} {m : Nat → Nat → Int} {q : Nat → Nat → Option Nat} {w : Option (Nat → Int64)} {v1 v2 : Int}   : gv d rR184 0 [some (.ref 363), some (.int (iI v1)), some (.int (iI v2))] [] (mk m q w) =
    rBd (ev d 167 [.ref 363] (mk m q w)) (fun v M' => gv d rR184 4 [some (.ref 363), some (.int (iI v1)), some (.int (iI v2))] (v.toList ++ []) M') := by
  refine Eq.trans (k_ald0 rfl) ?_
  exact k_cV0 rfl s_363 q_167 rfl rfl rfl (bl rfl)
theorem b_184_4 {d : Nat} {m : Nat → Nat → Int} {q : Nat → Nat → Option Nat} {w : Option (Nat → Int64)} {v1 v2 s0 : Int}   : gv d rR184 4 [some (.ref 363), some (.int (iI v1)), some (.int (iI v2))] [.int (iI s0)] (mk m q w) =
    if iI s0 = iI 0 then (some (.inl none, (mk m q w, (0, 0)))) else (gv d rR184 8 [some (.ref 363), some (.int (iI v1)), some (.int (iI v2))] [] (mk m q w)) := by
  refine Eq.trans (k_i1ne rfl rfl) ?_
  refine ifc ?_ ?_
  · exact k_rtV rfl rfl
  · exact rfl
theorem b_184_8 {d : Nat} {m : Nat → Nat → Int} {q : Nat → Nat → Option Nat} {w : Option (Nat → Int64)} {v1 v2 : Int}  (g0 : 0 ≤ (m 363 23)) (g1 : (m 363 23) < 150) (g2 : 0 ≤ ((wr m 368 (Int.toNat (m 363 23)) v1) 363 23)) (g3 : ((wr m 368 (Int.toNat (m 363 23)) v1) 363 23) < 150) : gv d rR184 8 [some (.ref 363), some (.int (iI v1)), some (.int (iI v2))] [] (mk m q w) =
    some (.inl none, (mk (wr (wr (wr m 368 (Int.toNat (m 363 23)) v1) 369 (Int.toNat ((wr m 368 (Int.toNat (m 363 23)) v1) 363 23)) v2) 363 23 (((wr (wr m 368 (Int.toNat (m 363 23)) v1) 369 (Int.toNat ((wr m 368 (Int.toNat (m 363 23)) v1) 363 23)) v2) 363 23) + 1)) q w, (0, 0))) := by
  refine Eq.trans (k_ald0 rfl) ?_
  refine Eq.trans (k_gtR rfl s_363 rfl (by decide)) ?_
  refine Eq.trans (k_ald0 rfl) ?_
  refine Eq.trans (k_gtI rfl s_363 rfl (by decide)) ?_
  refine Eq.trans (k_ild1 rfl) ?_
  refine Eq.trans (k_iast rfl s_368 (bl rfl) g0 g1) ?_
  refine Eq.trans (k_ald0 rfl) ?_
  refine Eq.trans (k_gtR rfl s_363 rfl (by decide)) ?_
  refine Eq.trans (k_ald0 rfl) ?_
  refine Eq.trans (k_gtI rfl s_363 rfl (by decide)) ?_
  refine Eq.trans (k_ild2 rfl) ?_
  refine Eq.trans (k_iast rfl s_369 (bl rfl) g2 g3) ?_
  refine Eq.trans (k_ald0 rfl) ?_
  refine Eq.trans (k_dup rfl rfl) ?_
  refine Eq.trans (k_gtI rfl s_363 rfl (by decide)) ?_
  refine Eq.trans (k_con rfl) ?_
  refine Eq.trans (k_add rfl) ?_
  refine Eq.trans (k_ptI rfl s_363 rfl rfl) ?_
  exact k_rtV rfl rfl
theorem e_184 {d : Nat} (hd : 1 ≤ d) {a0 a1 a2 : Value} (M : rMem) (h0 : a0.category = 1) (h1 : a1.category = 1) (h2 : a2.category = 1) : ev d 184 [a0, a1, a2] M = gv (d - 1) rR184 0 [some a0, some a1, some a2] [] M := ev_at hd q_184 rfl (by simp [*]) rfl
/-! FanHouseModel.opensOne(I)V -/
theorem b_185_0 {d : Nat} {m : Nat → Nat → Int} {q : Nat → Nat → Option Nat} {w : Option (Nat → Int64)} {v1 : Int}   : gv d rR185 0 [some (.ref 363), some (.int (iI v1))] [] (mk m q w) =
    rBd (ev d 167 [.ref 363] (mk m q w)) (fun v M' => gv d rR185 4 [some (.ref 363), some (.int (iI v1))] (v.toList ++ []) M') := by
  refine Eq.trans (k_ald0 rfl) ?_
  exact k_cV0 rfl s_363 q_167 rfl rfl rfl (bl rfl)
theorem b_185_4 {d : Nat} {m : Nat → Nat → Int} {q : Nat → Nat → Option Nat} {w : Option (Nat → Int64)} {v1 s0 : Int}   : gv d rR185 4 [some (.ref 363), some (.int (iI v1))] [.int (iI s0)] (mk m q w) =
    if iI s0 = iI 0 then (gv d rR185 25 [some (.ref 363), some (.int (iI v1))] [] (mk m q w)) else (if iI (m 363 7) = iI 6 then (rBd (ev d 168 [.ref 363, .int (iI 3), .int (iI (m 363 4))] (mk m q w)) (fun v M' => gv d rR185 25 [some (.ref 363), some (.int (iI v1))] (v.toList ++ []) M')) else (gv d rR185 25 [some (.ref 363), some (.int (iI v1))] [] (mk m q w))) := by
  refine Eq.trans (k_i1eq rfl rfl) ?_
  refine ifc ?_ ?_
  · exact rfl
  · refine Eq.trans (k_ald0 rfl) ?_
    refine Eq.trans (k_gtI rfl s_363 rfl (by decide)) ?_
    refine Eq.trans (k_bip rfl (by decide)) ?_
    refine Eq.trans (k_i2ne rfl rfl) ?_
    refine ifc ?_ ?_
    · refine Eq.trans (k_ald0 rfl) ?_
      refine Eq.trans (k_con rfl) ?_
      refine Eq.trans (k_ald0 rfl) ?_
      refine Eq.trans (k_gtI rfl s_363 rfl (by decide)) ?_
      exact k_cV2 rfl s_363 q_168 rfl rfl rfl (bl rfl)
    · exact rfl
theorem b_185_25 {d : Nat} {m : Nat → Nat → Int} {q : Nat → Nat → Option Nat} {w : Option (Nat → Int64)} {v1 : Int}   : gv d rR185 25 [some (.ref 363), some (.int (iI v1))] [] (mk m q w) =
    rBd (ev d 167 [.ref 363] (mk m q w)) (fun v M' => gv d rR185 29 [some (.ref 363), some (.int (iI v1))] (v.toList ++ []) M') := by
  refine Eq.trans (k_ald0 rfl) ?_
  exact k_cV0 rfl s_363 q_167 rfl rfl rfl (bl rfl)
theorem b_185_29 {d : Nat} {m : Nat → Nat → Int} {q : Nat → Nat → Option Nat} {w : Option (Nat → Int64)} {v1 s0 : Int}   : gv d rR185 29 [some (.ref 363), some (.int (iI v1))] [.int (iI s0)] (mk m q w) =
    if iI s0 = iI 0 then (gv d rR185 42 [some (.ref 363), some (.int (iI v1))] [] (mk m q w)) else (gv d rR185 42 [some (.ref 363), some (.int (iI v1))] [] (mk (wr m 363 4 ((m 363 4) + v1)) q w)) := by
  refine Eq.trans (k_i1eq rfl rfl) ?_
  refine ifc ?_ ?_
  · exact rfl
  · refine Eq.trans (k_ald0 rfl) ?_
    refine Eq.trans (k_dup rfl rfl) ?_
    refine Eq.trans (k_gtI rfl s_363 rfl (by decide)) ?_
    refine Eq.trans (k_ild1 rfl) ?_
    refine Eq.trans (k_add rfl) ?_
    refine Eq.trans (k_ptI rfl s_363 rfl rfl) ?_
    exact rfl
theorem b_185_42 {d : Nat} {m : Nat → Nat → Int} {q : Nat → Nat → Option Nat} {w : Option (Nat → Int64)} {u1 : Option Value}   : gv d rR185 42 [some (.ref 363), u1] [] (mk m q w) =
    some (.inl none, (mk (wr m 363 7 ((m 363 7) + 1)) q w, (0, 0))) := by
  refine Eq.trans (k_ald0 rfl) ?_
  refine Eq.trans (k_dup rfl rfl) ?_
  refine Eq.trans (k_gtI rfl s_363 rfl (by decide)) ?_
  refine Eq.trans (k_con rfl) ?_
  refine Eq.trans (k_add rfl) ?_
  refine Eq.trans (k_ptI rfl s_363 rfl rfl) ?_
  exact k_rtV rfl rfl
theorem e_185 {d : Nat} (hd : 1 ≤ d) {a0 a1 : Value} (M : rMem) (h0 : a0.category = 1) (h1 : a1.category = 1) : ev d 185 [a0, a1] M = gv (d - 1) rR185 0 [some a0, some a1] [] M := ev_at hd q_185 rfl (by simp [*]) rfl
/-! FanHouseModel.factHere()I -/
theorem b_186_0 {d : Nat} {m : Nat → Nat → Int} {q : Nat → Nat → Option Nat} {w : Option (Nat → Int64)} {u1 : Option Value}   : gv d rR186 0 [some (.ref 363), u1] [] (mk m q w) =
    rBd (ev d 172 [.ref 363] (mk m q w)) (fun v M' => gv d rR186 4 [some (.ref 363), u1] (v.toList ++ []) M') := by
  refine Eq.trans (k_ald0 rfl) ?_
  exact k_cV0 rfl s_363 q_172 rfl rfl rfl (bl rfl)
theorem b_186_4 {d : Nat} {m : Nat → Nat → Int} {q : Nat → Nat → Option Nat} {w : Option (Nat → Int64)} {u0 u1 : Option Value} {s0 : Int}   : gv d rR186 4 [u0, u1] [.int (iI s0)] (mk m q w) =
    rBd (ev d 173 [.ref 30] (mk m q w)) (fun v M' => gv d rR186 11 [u0, some (.int (iI s0))] (v.toList ++ [.int (iI s0)]) M') := by
  refine Eq.trans (k_ist1 rfl) ?_
  refine Eq.trans (k_ild1 rfl) ?_
  refine Eq.trans (k_ldr rfl) ?_
  exact k_cS1 rfl (by decide) q_173 rfl rfl (bl rfl)
theorem b_186_11 {d : Nat} {m : Nat → Nat → Int} {q : Nat → Nat → Option Nat} {w : Option (Nat → Int64)} {u0 : Option Value} {v1 s0 s1 : Int}   : gv d rR186 11 [u0, some (.int (iI v1))] [.int (iI s1), .int (iI s0)] (mk m q w) =
    if iI s0 = iI s1 then (gv d rR186 101 [u0, some (.int (iI v1))] [.int (iI 0)] (mk m q w)) else (rBd (ev d 173 [.ref 33] (mk m q w)) (fun v M' => gv d rR186 24 [u0, some (.int (iI v1))] (v.toList ++ [.int (iI v1)]) M')) := by
  refine Eq.trans (k_i2ne rfl rfl) ?_
  refine ifc ?_ ?_
  · refine Eq.trans (k_con rfl) ?_
    refine Eq.trans (k_go rfl rfl) ?_
    exact rfl
  · refine Eq.trans (k_ild1 rfl) ?_
    refine Eq.trans (k_ldr rfl) ?_
    exact k_cS1 rfl (by decide) q_173 rfl rfl (bl rfl)
theorem b_186_24 {d : Nat} {m : Nat → Nat → Int} {q : Nat → Nat → Option Nat} {w : Option (Nat → Int64)} {u0 : Option Value} {v1 s0 s1 : Int}   : gv d rR186 24 [u0, some (.int (iI v1))] [.int (iI s1), .int (iI s0)] (mk m q w) =
    if iI s0 = iI s1 then (gv d rR186 101 [u0, some (.int (iI v1))] [.int (iI 1)] (mk m q w)) else (rBd (ev d 173 [.ref 32] (mk m q w)) (fun v M' => gv d rR186 37 [u0, some (.int (iI v1))] (v.toList ++ [.int (iI v1)]) M')) := by
  refine Eq.trans (k_i2ne rfl rfl) ?_
  refine ifc ?_ ?_
  · refine Eq.trans (k_con rfl) ?_
    refine Eq.trans (k_go rfl rfl) ?_
    exact rfl
  · refine Eq.trans (k_ild1 rfl) ?_
    refine Eq.trans (k_ldr rfl) ?_
    exact k_cS1 rfl (by decide) q_173 rfl rfl (bl rfl)
theorem b_186_37 {d : Nat} {m : Nat → Nat → Int} {q : Nat → Nat → Option Nat} {w : Option (Nat → Int64)} {u0 : Option Value} {v1 s0 s1 : Int}   : gv d rR186 37 [u0, some (.int (iI v1))] [.int (iI s1), .int (iI s0)] (mk m q w) =
    if iI s0 = iI s1 then (gv d rR186 101 [u0, some (.int (iI v1))] [.int (iI 2)] (mk m q w)) else (rBd (ev d 173 [.ref 16] (mk m q w)) (fun v M' => gv d rR186 50 [u0, some (.int (iI v1))] (v.toList ++ [.int (iI v1)]) M')) := by
  refine Eq.trans (k_i2ne rfl rfl) ?_
  refine ifc ?_ ?_
  · refine Eq.trans (k_con rfl) ?_
    refine Eq.trans (k_go rfl rfl) ?_
    exact rfl
  · refine Eq.trans (k_ild1 rfl) ?_
    refine Eq.trans (k_ldr rfl) ?_
    exact k_cS1 rfl (by decide) q_173 rfl rfl (bl rfl)
theorem b_186_50 {d : Nat} {m : Nat → Nat → Int} {q : Nat → Nat → Option Nat} {w : Option (Nat → Int64)} {u0 : Option Value} {v1 s0 s1 : Int}   : gv d rR186 50 [u0, some (.int (iI v1))] [.int (iI s1), .int (iI s0)] (mk m q w) =
    if iI s0 = iI s1 then (gv d rR186 101 [u0, some (.int (iI v1))] [.int (iI 3)] (mk m q w)) else (rBd (ev d 173 [.ref 29] (mk m q w)) (fun v M' => gv d rR186 64 [u0, some (.int (iI v1))] (v.toList ++ [.int (iI v1)]) M')) := by
  refine Eq.trans (k_i2ne rfl rfl) ?_
  refine ifc ?_ ?_
  · refine Eq.trans (k_con rfl) ?_
    refine Eq.trans (k_go rfl rfl) ?_
    exact rfl
  · refine Eq.trans (k_ild1 rfl) ?_
    refine Eq.trans (k_ldwr rfl) ?_
    exact k_cS1 rfl (by decide) q_173 rfl rfl (bl rfl)
theorem b_186_64 {d : Nat} {m : Nat → Nat → Int} {q : Nat → Nat → Option Nat} {w : Option (Nat → Int64)} {u0 : Option Value} {v1 s0 s1 : Int}   : gv d rR186 64 [u0, some (.int (iI v1))] [.int (iI s1), .int (iI s0)] (mk m q w) =
    if iI s0 = iI s1 then (gv d rR186 101 [u0, some (.int (iI v1))] [.int (iI 4)] (mk m q w)) else (rBd (ev d 173 [.ref 20] (mk m q w)) (fun v M' => gv d rR186 78 [u0, some (.int (iI v1))] (v.toList ++ [.int (iI v1)]) M')) := by
  refine Eq.trans (k_i2ne rfl rfl) ?_
  refine ifc ?_ ?_
  · refine Eq.trans (k_con rfl) ?_
    refine Eq.trans (k_go rfl rfl) ?_
    exact rfl
  · refine Eq.trans (k_ild1 rfl) ?_
    refine Eq.trans (k_ldwr rfl) ?_
    exact k_cS1 rfl (by decide) q_173 rfl rfl (bl rfl)
theorem b_186_78 {d : Nat} {m : Nat → Nat → Int} {q : Nat → Nat → Option Nat} {w : Option (Nat → Int64)} {u0 : Option Value} {v1 s0 s1 : Int}   : gv d rR186 78 [u0, some (.int (iI v1))] [.int (iI s1), .int (iI s0)] (mk m q w) =
    if iI s0 = iI s1 then (gv d rR186 101 [u0, some (.int (iI v1))] [.int (iI 5)] (mk m q w)) else (rBd (ev d 173 [.ref 23] (mk m q w)) (fun v M' => gv d rR186 92 [u0, some (.int (iI v1))] (v.toList ++ [.int (iI v1)]) M')) := by
  refine Eq.trans (k_i2ne rfl rfl) ?_
  refine ifc ?_ ?_
  · refine Eq.trans (k_con rfl) ?_
    refine Eq.trans (k_go rfl rfl) ?_
    exact rfl
  · refine Eq.trans (k_ild1 rfl) ?_
    refine Eq.trans (k_ldwr rfl) ?_
    exact k_cS1 rfl (by decide) q_173 rfl rfl (bl rfl)
theorem b_186_92 {d : Nat} {m : Nat → Nat → Int} {q : Nat → Nat → Option Nat} {w : Option (Nat → Int64)} {u0 u1 : Option Value} {s0 s1 : Int}   : gv d rR186 92 [u0, u1] [.int (iI s1), .int (iI s0)] (mk m q w) =
    if iI s0 = iI s1 then (gv d rR186 101 [u0, u1] [.int (iI 6)] (mk m q w)) else (gv d rR186 101 [u0, u1] [.int (iI (-1))] (mk m q w)) := by
  refine Eq.trans (k_i2ne rfl rfl) ?_
  refine ifc ?_ ?_
  · refine Eq.trans (k_bip rfl (by decide)) ?_
    refine Eq.trans (k_go rfl rfl) ?_
    exact rfl
  · refine Eq.trans (k_con rfl) ?_
    exact rfl
theorem b_186_101 {d : Nat} {m : Nat → Nat → Int} {q : Nat → Nat → Option Nat} {w : Option (Nat → Int64)} {u0 u1 : Option Value} {s0 : Int}   : gv d rR186 101 [u0, u1] [.int (iI s0)] (mk m q w) =
    some (.inl (some (.int (iI s0))), (mk m q w, (0, 0))) := by
  exact k_rtI rfl rfl
theorem e_186 {d : Nat} (hd : 1 ≤ d) {a0 : Value} (M : rMem) (h0 : a0.category = 1) : ev d 186 [a0] M = gv (d - 1) rR186 0 [some a0, none] [] M := ev_at hd q_186 rfl (by simp [*]) rfl
/-! FanHouseModel.readProduct()V -/
theorem b_187_0 {d : Nat} {m : Nat → Nat → Int} {q : Nat → Nat → Option Nat} {w : Option (Nat → Int64)} {u1 : Option Value}   : gv d rR187 0 [some (.ref 363), u1] [] (mk m q w) =
    rBd (ev d 190 [.ref 363] (mk m q w)) (fun v M' => gv d rR187 4 [some (.ref 363), u1] (v.toList ++ []) M') := by
  refine Eq.trans (k_ald0 rfl) ?_
  exact k_cV0 rfl s_363 q_190 rfl rfl rfl (bl rfl)
theorem b_187_4 {d : Nat} {m : Nat → Nat → Int} {q : Nat → Nat → Option Nat} {w : Option (Nat → Int64)} {u1 : Option Value}   : gv d rR187 4 [some (.ref 363), u1] [] (mk m q w) =
    rBd (ev d 167 [.ref 363] (mk m q w)) (fun v M' => gv d rR187 8 [some (.ref 363), u1] (v.toList ++ []) M') := by
  refine Eq.trans (k_ald0 rfl) ?_
  exact k_cV0 rfl s_363 q_167 rfl rfl rfl (bl rfl)
theorem b_187_8 {d : Nat} {m : Nat → Nat → Int} {q : Nat → Nat → Option Nat} {w : Option (Nat → Int64)} {u1 : Option Value} {s0 : Int}   : gv d rR187 8 [some (.ref 363), u1] [.int (iI s0)] (mk m q w) =
    if iI s0 = iI 0 then (gv d rR187 90 [some (.ref 363), u1] [] (mk m q w)) else (rBd (ev d 169 [.ref 363] (mk m q w)) (fun v M' => gv d rR187 15 [some (.ref 363), u1] (v.toList ++ []) M')) := by
  refine Eq.trans (k_i1eq rfl rfl) ?_
  refine ifc ?_ ?_
  · exact rfl
  · refine Eq.trans (k_ald0 rfl) ?_
    exact k_cV0 rfl s_363 q_169 rfl rfl rfl (bl rfl)
theorem b_187_15 {d : Nat} {m : Nat → Nat → Int} {q : Nat → Nat → Option Nat} {w : Option (Nat → Int64)} {u1 : Option Value} {s0 : Int}   : gv d rR187 15 [some (.ref 363), u1] [.int (iI s0)] (mk m q w) =
    if iI s0 = iI 42 then (gv d rR187 38 [some (.ref 363), u1] [] (mk m q w)) else (rBd (ev d 169 [.ref 363] (mk m q w)) (fun v M' => gv d rR187 24 [some (.ref 363), u1] (v.toList ++ []) M')) := by
  refine Eq.trans (k_bip rfl (by decide)) ?_
  refine Eq.trans (k_i2eq rfl rfl) ?_
  refine ifc ?_ ?_
  · exact rfl
  · refine Eq.trans (k_ald0 rfl) ?_
    exact k_cV0 rfl s_363 q_169 rfl rfl rfl (bl rfl)
theorem b_187_24 {d : Nat} {m : Nat → Nat → Int} {q : Nat → Nat → Option Nat} {w : Option (Nat → Int64)} {u1 : Option Value} {s0 : Int}   : gv d rR187 24 [some (.ref 363), u1] [.int (iI s0)] (mk m q w) =
    if iI s0 = iI 47 then (gv d rR187 38 [some (.ref 363), u1] [] (mk m q w)) else (rBd (ev d 169 [.ref 363] (mk m q w)) (fun v M' => gv d rR187 33 [some (.ref 363), u1] (v.toList ++ []) M')) := by
  refine Eq.trans (k_bip rfl (by decide)) ?_
  refine Eq.trans (k_i2eq rfl rfl) ?_
  refine ifc ?_ ?_
  · exact rfl
  · refine Eq.trans (k_ald0 rfl) ?_
    exact k_cV0 rfl s_363 q_169 rfl rfl rfl (bl rfl)
theorem b_187_33 {d : Nat} {m : Nat → Nat → Int} {q : Nat → Nat → Option Nat} {w : Option (Nat → Int64)} {u1 : Option Value} {s0 : Int}   : gv d rR187 33 [some (.ref 363), u1] [.int (iI s0)] (mk m q w) =
    if iI s0 = iI 37 then (gv d rR187 38 [some (.ref 363), u1] [] (mk m q w)) else (gv d rR187 90 [some (.ref 363), u1] [] (mk m q w)) := by
  refine Eq.trans (k_bip rfl (by decide)) ?_
  refine Eq.trans (k_i2ne rfl rfl) ?_
  refine ifc ?_ ?_
  · exact rfl
  · exact rfl
theorem b_187_38 {d : Nat} {m : Nat → Nat → Int} {q : Nat → Nat → Option Nat} {w : Option (Nat → Int64)} {u1 : Option Value}   : gv d rR187 38 [some (.ref 363), u1] [] (mk m q w) =
    rBd (ev d 169 [.ref 363] (mk m q w)) (fun v M' => gv d rR187 42 [some (.ref 363), u1] (v.toList ++ []) M') := by
  refine Eq.trans (k_ald0 rfl) ?_
  exact k_cV0 rfl s_363 q_169 rfl rfl rfl (bl rfl)
theorem b_187_42 {d : Nat} {m : Nat → Nat → Int} {q : Nat → Nat → Option Nat} {w : Option (Nat → Int64)} {u1 : Option Value} {s0 : Int}   : gv d rR187 42 [some (.ref 363), u1] [.int (iI s0)] (mk m q w) =
    if iI s0 = iI 42 then (gv d rR187 66 [some (.ref 363), u1] [.int (iI 4)] (mk m q w)) else (rBd (ev d 169 [.ref 363] (mk m q w)) (fun v M' => gv d rR187 55 [some (.ref 363), u1] (v.toList ++ []) M')) := by
  refine Eq.trans (k_bip rfl (by decide)) ?_
  refine Eq.trans (k_i2ne rfl rfl) ?_
  refine ifc ?_ ?_
  · refine Eq.trans (k_con rfl) ?_
    refine Eq.trans (k_go rfl rfl) ?_
    exact rfl
  · refine Eq.trans (k_ald0 rfl) ?_
    exact k_cV0 rfl s_363 q_169 rfl rfl rfl (bl rfl)
theorem b_187_55 {d : Nat} {m : Nat → Nat → Int} {q : Nat → Nat → Option Nat} {w : Option (Nat → Int64)} {u1 : Option Value} {s0 : Int}   : gv d rR187 55 [some (.ref 363), u1] [.int (iI s0)] (mk m q w) =
    if iI s0 = iI 47 then (gv d rR187 66 [some (.ref 363), u1] [.int (iI 5)] (mk m q w)) else (gv d rR187 66 [some (.ref 363), u1] [.int (iI 8)] (mk m q w)) := by
  refine Eq.trans (k_bip rfl (by decide)) ?_
  refine Eq.trans (k_i2ne rfl rfl) ?_
  refine ifc ?_ ?_
  · refine Eq.trans (k_con rfl) ?_
    refine Eq.trans (k_go rfl rfl) ?_
    exact rfl
  · refine Eq.trans (k_bip rfl (by decide)) ?_
    exact rfl
theorem b_187_66 {d : Nat} {m : Nat → Nat → Int} {q : Nat → Nat → Option Nat} {w : Option (Nat → Int64)} {u1 : Option Value} {s0 : Int}   : gv d rR187 66 [some (.ref 363), u1] [.int (iI s0)] (mk m q w) =
    rBd (ev d 190 [.ref 363] (mk (wr m 363 4 ((m 363 4) + 1)) q w)) (fun v M' => gv d rR187 81 [some (.ref 363), some (.int (iI s0))] (v.toList ++ []) M') := by
  refine Eq.trans (k_ist1 rfl) ?_
  refine Eq.trans (k_ald0 rfl) ?_
  refine Eq.trans (k_dup rfl rfl) ?_
  refine Eq.trans (k_gtI rfl s_363 rfl (by decide)) ?_
  refine Eq.trans (k_con rfl) ?_
  refine Eq.trans (k_add rfl) ?_
  refine Eq.trans (k_ptI rfl s_363 rfl rfl) ?_
  refine Eq.trans (k_ald0 rfl) ?_
  exact k_cV0 rfl s_363 q_190 rfl rfl rfl (bl rfl)
theorem b_187_81 {d : Nat} {m : Nat → Nat → Int} {q : Nat → Nat → Option Nat} {w : Option (Nat → Int64)} {v1 : Int}   : gv d rR187 81 [some (.ref 363), some (.int (iI v1))] [] (mk m q w) =
    rBd (ev d 184 [.ref 363, .int (iI v1), .int (iI 0)] (mk m q w)) (fun v M' => gv d rR187 87 [some (.ref 363), some (.int (iI v1))] (v.toList ++ []) M') := by
  refine Eq.trans (k_ald0 rfl) ?_
  refine Eq.trans (k_ild1 rfl) ?_
  refine Eq.trans (k_con rfl) ?_
  exact k_cV2 rfl s_363 q_184 rfl rfl rfl (bl rfl)
theorem b_187_87 {d : Nat} {m : Nat → Nat → Int} {q : Nat → Nat → Option Nat} {w : Option (Nat → Int64)} {u1 : Option Value}   : gv d rR187 87 [some (.ref 363), u1] [] (mk m q w) =
    gv d rR187 4 [some (.ref 363), u1] [] (mk m q w) := by
  refine Eq.trans (k_go rfl rfl) ?_
  exact rfl
theorem b_187_90 {d : Nat} {m : Nat → Nat → Int} {q : Nat → Nat → Option Nat} {w : Option (Nat → Int64)} {u0 u1 : Option Value}   : gv d rR187 90 [u0, u1] [] (mk m q w) =
    some (.inl none, (mk m q w, (0, 0))) := by
  exact k_rtV rfl rfl
theorem e_187 {d : Nat} (hd : 1 ≤ d) {a0 : Value} (M : rMem) (h0 : a0.category = 1) : ev d 187 [a0] M = gv (d - 1) rR187 0 [some a0, none] [] M := ev_at hd q_187 rfl (by simp [*]) rfl
/-! FanHouseModel.readSum()V -/
theorem b_188_0 {d : Nat} {m : Nat → Nat → Int} {q : Nat → Nat → Option Nat} {w : Option (Nat → Int64)} {u1 : Option Value}   : gv d rR188 0 [some (.ref 363), u1] [] (mk m q w) =
    rBd (ev d 187 [.ref 363] (mk m q w)) (fun v M' => gv d rR188 4 [some (.ref 363), u1] (v.toList ++ []) M') := by
  refine Eq.trans (k_ald0 rfl) ?_
  exact k_cV0 rfl s_363 q_187 rfl rfl rfl (bl rfl)
theorem b_188_4 {d : Nat} {m : Nat → Nat → Int} {q : Nat → Nat → Option Nat} {w : Option (Nat → Int64)} {u1 : Option Value}   : gv d rR188 4 [some (.ref 363), u1] [] (mk m q w) =
    rBd (ev d 167 [.ref 363] (mk m q w)) (fun v M' => gv d rR188 8 [some (.ref 363), u1] (v.toList ++ []) M') := by
  refine Eq.trans (k_ald0 rfl) ?_
  exact k_cV0 rfl s_363 q_167 rfl rfl rfl (bl rfl)
theorem b_188_8 {d : Nat} {m : Nat → Nat → Int} {q : Nat → Nat → Option Nat} {w : Option (Nat → Int64)} {u1 : Option Value} {s0 : Int}   : gv d rR188 8 [some (.ref 363), u1] [.int (iI s0)] (mk m q w) =
    if iI s0 = iI 0 then (gv d rR188 67 [some (.ref 363), u1] [] (mk m q w)) else (rBd (ev d 169 [.ref 363] (mk m q w)) (fun v M' => gv d rR188 15 [some (.ref 363), u1] (v.toList ++ []) M')) := by
  refine Eq.trans (k_i1eq rfl rfl) ?_
  refine ifc ?_ ?_
  · exact rfl
  · refine Eq.trans (k_ald0 rfl) ?_
    exact k_cV0 rfl s_363 q_169 rfl rfl rfl (bl rfl)
theorem b_188_15 {d : Nat} {m : Nat → Nat → Int} {q : Nat → Nat → Option Nat} {w : Option (Nat → Int64)} {u1 : Option Value} {s0 : Int}   : gv d rR188 15 [some (.ref 363), u1] [.int (iI s0)] (mk m q w) =
    if iI s0 = iI 43 then (gv d rR188 29 [some (.ref 363), u1] [] (mk m q w)) else (rBd (ev d 169 [.ref 363] (mk m q w)) (fun v M' => gv d rR188 24 [some (.ref 363), u1] (v.toList ++ []) M')) := by
  refine Eq.trans (k_bip rfl (by decide)) ?_
  refine Eq.trans (k_i2eq rfl rfl) ?_
  refine ifc ?_ ?_
  · exact rfl
  · refine Eq.trans (k_ald0 rfl) ?_
    exact k_cV0 rfl s_363 q_169 rfl rfl rfl (bl rfl)
theorem b_188_24 {d : Nat} {m : Nat → Nat → Int} {q : Nat → Nat → Option Nat} {w : Option (Nat → Int64)} {u1 : Option Value} {s0 : Int}   : gv d rR188 24 [some (.ref 363), u1] [.int (iI s0)] (mk m q w) =
    if iI s0 = iI 45 then (gv d rR188 29 [some (.ref 363), u1] [] (mk m q w)) else (gv d rR188 67 [some (.ref 363), u1] [] (mk m q w)) := by
  refine Eq.trans (k_bip rfl (by decide)) ?_
  refine Eq.trans (k_i2ne rfl rfl) ?_
  refine ifc ?_ ?_
  · exact rfl
  · exact rfl
theorem b_188_29 {d : Nat} {m : Nat → Nat → Int} {q : Nat → Nat → Option Nat} {w : Option (Nat → Int64)} {u1 : Option Value}   : gv d rR188 29 [some (.ref 363), u1] [] (mk m q w) =
    rBd (ev d 169 [.ref 363] (mk m q w)) (fun v M' => gv d rR188 33 [some (.ref 363), u1] (v.toList ++ []) M') := by
  refine Eq.trans (k_ald0 rfl) ?_
  exact k_cV0 rfl s_363 q_169 rfl rfl rfl (bl rfl)
theorem b_188_33 {d : Nat} {m : Nat → Nat → Int} {q : Nat → Nat → Option Nat} {w : Option (Nat → Int64)} {u1 : Option Value} {s0 : Int}   : gv d rR188 33 [some (.ref 363), u1] [.int (iI s0)] (mk m q w) =
    if iI s0 = iI 43 then (gv d rR188 43 [some (.ref 363), u1] [.int (iI 2)] (mk m q w)) else (gv d rR188 43 [some (.ref 363), u1] [.int (iI 3)] (mk m q w)) := by
  refine Eq.trans (k_bip rfl (by decide)) ?_
  refine Eq.trans (k_i2ne rfl rfl) ?_
  refine ifc ?_ ?_
  · refine Eq.trans (k_con rfl) ?_
    refine Eq.trans (k_go rfl rfl) ?_
    exact rfl
  · refine Eq.trans (k_con rfl) ?_
    exact rfl
theorem b_188_43 {d : Nat} {m : Nat → Nat → Int} {q : Nat → Nat → Option Nat} {w : Option (Nat → Int64)} {u1 : Option Value} {s0 : Int}   : gv d rR188 43 [some (.ref 363), u1] [.int (iI s0)] (mk m q w) =
    rBd (ev d 187 [.ref 363] (mk (wr m 363 4 ((m 363 4) + 1)) q w)) (fun v M' => gv d rR188 58 [some (.ref 363), some (.int (iI s0))] (v.toList ++ []) M') := by
  refine Eq.trans (k_ist1 rfl) ?_
  refine Eq.trans (k_ald0 rfl) ?_
  refine Eq.trans (k_dup rfl rfl) ?_
  refine Eq.trans (k_gtI rfl s_363 rfl (by decide)) ?_
  refine Eq.trans (k_con rfl) ?_
  refine Eq.trans (k_add rfl) ?_
  refine Eq.trans (k_ptI rfl s_363 rfl rfl) ?_
  refine Eq.trans (k_ald0 rfl) ?_
  exact k_cV0 rfl s_363 q_187 rfl rfl rfl (bl rfl)
theorem b_188_58 {d : Nat} {m : Nat → Nat → Int} {q : Nat → Nat → Option Nat} {w : Option (Nat → Int64)} {v1 : Int}   : gv d rR188 58 [some (.ref 363), some (.int (iI v1))] [] (mk m q w) =
    rBd (ev d 184 [.ref 363, .int (iI v1), .int (iI 0)] (mk m q w)) (fun v M' => gv d rR188 64 [some (.ref 363), some (.int (iI v1))] (v.toList ++ []) M') := by
  refine Eq.trans (k_ald0 rfl) ?_
  refine Eq.trans (k_ild1 rfl) ?_
  refine Eq.trans (k_con rfl) ?_
  exact k_cV2 rfl s_363 q_184 rfl rfl rfl (bl rfl)
theorem b_188_64 {d : Nat} {m : Nat → Nat → Int} {q : Nat → Nat → Option Nat} {w : Option (Nat → Int64)} {u1 : Option Value}   : gv d rR188 64 [some (.ref 363), u1] [] (mk m q w) =
    gv d rR188 4 [some (.ref 363), u1] [] (mk m q w) := by
  refine Eq.trans (k_go rfl rfl) ?_
  exact rfl
theorem b_188_67 {d : Nat} {m : Nat → Nat → Int} {q : Nat → Nat → Option Nat} {w : Option (Nat → Int64)} {u0 u1 : Option Value}   : gv d rR188 67 [u0, u1] [] (mk m q w) =
    some (.inl none, (mk m q w, (0, 0))) := by
  exact k_rtV rfl rfl
theorem e_188 {d : Nat} (hd : 1 ≤ d) {a0 : Value} (M : rMem) (h0 : a0.category = 1) : ev d 188 [a0] M = gv (d - 1) rR188 0 [some a0, none] [] M := ev_at hd q_188 rfl (by simp [*]) rfl
/-! FanHouseModel.readTwo(II)V -/
theorem b_189_0 {d : Nat} {m : Nat → Nat → Int} {q : Nat → Nat → Option Nat} {w : Option (Nat → Int64)} {v1 v2 : Int}   : gv d rR189 0 [some (.ref 363), some (.int (iI v1)), some (.int (iI v2))] [] (mk m q w) =
    rBd (ev d 185 [.ref 363, .int (iI v1)] (mk m q w)) (fun v M' => gv d rR189 5 [some (.ref 363), some (.int (iI v1)), some (.int (iI v2))] (v.toList ++ []) M') := by
  refine Eq.trans (k_ald0 rfl) ?_
  refine Eq.trans (k_ild1 rfl) ?_
  exact k_cV1 rfl s_363 q_185 rfl rfl rfl (bl rfl)
theorem b_189_5 {d : Nat} {m : Nat → Nat → Int} {q : Nat → Nat → Option Nat} {w : Option (Nat → Int64)} {u1 : Option Value} {v2 : Int}   : gv d rR189 5 [some (.ref 363), u1, some (.int (iI v2))] [] (mk m q w) =
    rBd (ev d 176 [.ref 363, .int (iI 91)] (mk m q w)) (fun v M' => gv d rR189 11 [some (.ref 363), u1, some (.int (iI v2))] (v.toList ++ []) M') := by
  refine Eq.trans (k_ald0 rfl) ?_
  refine Eq.trans (k_bip rfl (by decide)) ?_
  exact k_cV1 rfl s_363 q_176 rfl rfl rfl (bl rfl)
theorem b_189_11 {d : Nat} {m : Nat → Nat → Int} {q : Nat → Nat → Option Nat} {w : Option (Nat → Int64)} {u1 : Option Value} {v2 : Int}   : gv d rR189 11 [some (.ref 363), u1, some (.int (iI v2))] [] (mk m q w) =
    rBd (ev d 188 [.ref 363] (mk m q w)) (fun v M' => gv d rR189 15 [some (.ref 363), u1, some (.int (iI v2))] (v.toList ++ []) M') := by
  refine Eq.trans (k_ald0 rfl) ?_
  exact k_cV0 rfl s_363 q_188 rfl rfl rfl (bl rfl)
theorem b_189_15 {d : Nat} {m : Nat → Nat → Int} {q : Nat → Nat → Option Nat} {w : Option (Nat → Int64)} {u1 : Option Value} {v2 : Int}   : gv d rR189 15 [some (.ref 363), u1, some (.int (iI v2))] [] (mk m q w) =
    rBd (ev d 176 [.ref 363, .int (iI 44)] (mk m q w)) (fun v M' => gv d rR189 21 [some (.ref 363), u1, some (.int (iI v2))] (v.toList ++ []) M') := by
  refine Eq.trans (k_ald0 rfl) ?_
  refine Eq.trans (k_bip rfl (by decide)) ?_
  exact k_cV1 rfl s_363 q_176 rfl rfl rfl (bl rfl)
theorem b_189_21 {d : Nat} {m : Nat → Nat → Int} {q : Nat → Nat → Option Nat} {w : Option (Nat → Int64)} {u1 : Option Value} {v2 : Int}   : gv d rR189 21 [some (.ref 363), u1, some (.int (iI v2))] [] (mk m q w) =
    rBd (ev d 188 [.ref 363] (mk m q w)) (fun v M' => gv d rR189 25 [some (.ref 363), u1, some (.int (iI v2))] (v.toList ++ []) M') := by
  refine Eq.trans (k_ald0 rfl) ?_
  exact k_cV0 rfl s_363 q_188 rfl rfl rfl (bl rfl)
theorem b_189_25 {d : Nat} {m : Nat → Nat → Int} {q : Nat → Nat → Option Nat} {w : Option (Nat → Int64)} {u1 : Option Value} {v2 : Int}   : gv d rR189 25 [some (.ref 363), u1, some (.int (iI v2))] [] (mk m q w) =
    rBd (ev d 176 [.ref 363, .int (iI 93)] (mk m q w)) (fun v M' => gv d rR189 31 [some (.ref 363), u1, some (.int (iI v2))] (v.toList ++ []) M') := by
  refine Eq.trans (k_ald0 rfl) ?_
  refine Eq.trans (k_bip rfl (by decide)) ?_
  exact k_cV1 rfl s_363 q_176 rfl rfl rfl (bl rfl)
theorem b_189_31 {d : Nat} {m : Nat → Nat → Int} {q : Nat → Nat → Option Nat} {w : Option (Nat → Int64)} {u1 : Option Value} {v2 : Int}   : gv d rR189 31 [some (.ref 363), u1, some (.int (iI v2))] [] (mk m q w) =
    rBd (ev d 184 [.ref 363, .int (iI v2), .int (iI 0)] (mk (wr m 363 7 ((m 363 7) - 1)) q w)) (fun v M' => gv d rR189 47 [some (.ref 363), u1, some (.int (iI v2))] (v.toList ++ []) M') := by
  refine Eq.trans (k_ald0 rfl) ?_
  refine Eq.trans (k_dup rfl rfl) ?_
  refine Eq.trans (k_gtI rfl s_363 rfl (by decide)) ?_
  refine Eq.trans (k_con rfl) ?_
  refine Eq.trans (k_sub rfl) ?_
  refine Eq.trans (k_ptI rfl s_363 rfl rfl) ?_
  refine Eq.trans (k_ald0 rfl) ?_
  refine Eq.trans (k_ild2 rfl) ?_
  refine Eq.trans (k_con rfl) ?_
  exact k_cV2 rfl s_363 q_184 rfl rfl rfl (bl rfl)
theorem b_189_47 {d : Nat} {m : Nat → Nat → Int} {q : Nat → Nat → Option Nat} {w : Option (Nat → Int64)} {u0 u1 u2 : Option Value}   : gv d rR189 47 [u0, u1, u2] [] (mk m q w) =
    some (.inl none, (mk m q w, (0, 0))) := by
  exact k_rtV rfl rfl
theorem e_189 {d : Nat} (hd : 1 ≤ d) {a0 a1 a2 : Value} (M : rMem) (h0 : a0.category = 1) (h1 : a1.category = 1) (h2 : a2.category = 1) : ev d 189 [a0, a1, a2] M = gv (d - 1) rR189 0 [some a0, some a1, some a2] [] M := ev_at hd q_189 rfl (by simp [*]) rfl
/-! FanHouseModel.readUnit()V -/
theorem b_190_0 {d : Nat} {m : Nat → Nat → Int} {q : Nat → Nat → Option Nat} {w : Option (Nat → Int64)} {u1 : Option Value}   : gv d rR190 0 [some (.ref 363), u1] [] (mk m q w) =
    rBd (ev d 167 [.ref 363] (mk m q w)) (fun v M' => gv d rR190 4 [some (.ref 363), u1] (v.toList ++ []) M') := by
  refine Eq.trans (k_ald0 rfl) ?_
  exact k_cV0 rfl s_363 q_167 rfl rfl rfl (bl rfl)
theorem b_190_4 {d : Nat} {m : Nat → Nat → Int} {q : Nat → Nat → Option Nat} {w : Option (Nat → Int64)} {u1 : Option Value} {s0 : Int}   : gv d rR190 4 [some (.ref 363), u1] [.int (iI s0)] (mk m q w) =
    if iI s0 = iI 0 then (some (.inl none, (mk m q w, (0, 0)))) else (rBd (ev d 169 [.ref 363] (mk m q w)) (fun v M' => gv d rR190 12 [some (.ref 363), u1] (v.toList ++ []) M')) := by
  refine Eq.trans (k_i1ne rfl rfl) ?_
  refine ifc ?_ ?_
  · exact k_rtV rfl rfl
  · refine Eq.trans (k_ald0 rfl) ?_
    exact k_cV0 rfl s_363 q_169 rfl rfl rfl (bl rfl)
theorem b_190_12 {d : Nat} {m : Nat → Nat → Int} {q : Nat → Nat → Option Nat} {w : Option (Nat → Int64)} {u1 : Option Value} {s0 : Int}   : gv d rR190 12 [some (.ref 363), u1] [.int (iI s0)] (mk m q w) =
    if iI s0 = iI 40 then (rBd (ev d 185 [.ref 363, .int (iI 1)] (mk m q w)) (fun v M' => gv d rR190 22 [some (.ref 363), u1] (v.toList ++ []) M')) else (rBd (ev d 169 [.ref 363] (mk m q w)) (fun v M' => gv d rR190 49 [some (.ref 363), u1] (v.toList ++ []) M')) := by
  refine Eq.trans (k_bip rfl (by decide)) ?_
  refine Eq.trans (k_i2ne rfl rfl) ?_
  refine ifc ?_ ?_
  · refine Eq.trans (k_ald0 rfl) ?_
    refine Eq.trans (k_con rfl) ?_
    exact k_cV1 rfl s_363 q_185 rfl rfl rfl (bl rfl)
  · refine Eq.trans (k_ald0 rfl) ?_
    exact k_cV0 rfl s_363 q_169 rfl rfl rfl (bl rfl)
theorem b_190_22 {d : Nat} {m : Nat → Nat → Int} {q : Nat → Nat → Option Nat} {w : Option (Nat → Int64)} {u1 : Option Value}   : gv d rR190 22 [some (.ref 363), u1] [] (mk m q w) =
    rBd (ev d 188 [.ref 363] (mk m q w)) (fun v M' => gv d rR190 26 [some (.ref 363), u1] (v.toList ++ []) M') := by
  refine Eq.trans (k_ald0 rfl) ?_
  exact k_cV0 rfl s_363 q_188 rfl rfl rfl (bl rfl)
theorem b_190_26 {d : Nat} {m : Nat → Nat → Int} {q : Nat → Nat → Option Nat} {w : Option (Nat → Int64)} {u1 : Option Value}   : gv d rR190 26 [some (.ref 363), u1] [] (mk m q w) =
    rBd (ev d 176 [.ref 363, .int (iI 41)] (mk m q w)) (fun v M' => gv d rR190 32 [some (.ref 363), u1] (v.toList ++ []) M') := by
  refine Eq.trans (k_ald0 rfl) ?_
  refine Eq.trans (k_bip rfl (by decide)) ?_
  exact k_cV1 rfl s_363 q_176 rfl rfl rfl (bl rfl)
theorem b_190_32 {d : Nat} {m : Nat → Nat → Int} {q : Nat → Nat → Option Nat} {w : Option (Nat → Int64)} {u1 : Option Value}   : gv d rR190 32 [some (.ref 363), u1] [] (mk m q w) =
    gv d rR190 154 [some (.ref 363), u1] [] (mk (wr m 363 7 ((m 363 7) - 1)) q w) := by
  refine Eq.trans (k_ald0 rfl) ?_
  refine Eq.trans (k_dup rfl rfl) ?_
  refine Eq.trans (k_gtI rfl s_363 rfl (by decide)) ?_
  refine Eq.trans (k_con rfl) ?_
  refine Eq.trans (k_sub rfl) ?_
  refine Eq.trans (k_ptI rfl s_363 rfl rfl) ?_
  refine Eq.trans (k_go rfl rfl) ?_
  exact rfl
theorem b_190_49 {d : Nat} {m : Nat → Nat → Int} {q : Nat → Nat → Option Nat} {w : Option (Nat → Int64)} {u1 : Option Value} {s0 : Int}   : gv d rR190 49 [some (.ref 363), u1] [.int (iI s0)] (mk m q w) =
    rBd (ev d 171 [.int (iI s0)] (mk m q w)) (fun v M' => gv d rR190 52 [some (.ref 363), u1] (v.toList ++ []) M') := by
  exact k_cS1 rfl (by decide) q_171 rfl rfl (bl rfl)
theorem b_190_52 {d : Nat} {m : Nat → Nat → Int} {q : Nat → Nat → Option Nat} {w : Option (Nat → Int64)} {u1 : Option Value} {s0 : Int}   : gv d rR190 52 [some (.ref 363), u1] [.int (iI s0)] (mk m q w) =
    if iI s0 = iI 0 then (rBd (ev d 172 [.ref 363] (mk m q w)) (fun v M' => gv d rR190 75 [some (.ref 363), u1] (v.toList ++ []) M')) else (rBd (ev d 175 [.ref 363, .int (iI 0), .int (iI 999)] (mk m q w)) (fun v M' => gv d rR190 65 [some (.ref 363), u1] (v.toList ++ [.int (iI 0), .ref 363]) M')) := by
  refine Eq.trans (k_i1eq rfl rfl) ?_
  refine ifc ?_ ?_
  · refine Eq.trans (k_ald0 rfl) ?_
    exact k_cV0 rfl s_363 q_172 rfl rfl rfl (bl rfl)
  · refine Eq.trans (k_ald0 rfl) ?_
    refine Eq.trans (k_con rfl) ?_
    refine Eq.trans (k_ald0 rfl) ?_
    refine Eq.trans (k_con rfl) ?_
    refine Eq.trans (k_sip rfl (by decide)) ?_
    exact k_cV2 rfl s_363 q_175 rfl rfl rfl (bl rfl)
theorem b_190_65 {d : Nat} {m : Nat → Nat → Int} {q : Nat → Nat → Option Nat} {w : Option (Nat → Int64)} {u0 u1 : Option Value} {s1 s2 : Int}   : gv d rR190 65 [u0, u1] [.int (iI s2), .int (iI s1), .ref 363] (mk m q w) =
    rBd (ev d 184 [.ref 363, .int (iI s1), .int (iI s2)] (mk m q w)) (fun v M' => gv d rR190 68 [u0, u1] (v.toList ++ []) M') := by
  exact k_cV2 rfl s_363 q_184 rfl rfl rfl (bl rfl)
theorem b_190_68 {d : Nat} {m : Nat → Nat → Int} {q : Nat → Nat → Option Nat} {w : Option (Nat → Int64)} {u0 u1 : Option Value}   : gv d rR190 68 [u0, u1] [] (mk m q w) =
    gv d rR190 154 [u0, u1] [] (mk m q w) := by
  refine Eq.trans (k_go rfl rfl) ?_
  exact rfl
theorem b_190_75 {d : Nat} {m : Nat → Nat → Int} {q : Nat → Nat → Option Nat} {w : Option (Nat → Int64)} {u1 : Option Value} {s0 : Int}   : gv d rR190 75 [some (.ref 363), u1] [.int (iI s0)] (mk m q w) =
    rBd (ev d 173 [.ref 12] (mk m q w)) (fun v M' => gv d rR190 81 [some (.ref 363), u1] (v.toList ++ [.int (iI s0)]) M') := by
  refine Eq.trans (k_ldwr rfl) ?_
  exact k_cS1 rfl (by decide) q_173 rfl rfl (bl rfl)
theorem b_190_81 {d : Nat} {m : Nat → Nat → Int} {q : Nat → Nat → Option Nat} {w : Option (Nat → Int64)} {u1 : Option Value} {s0 s1 : Int}   : gv d rR190 81 [some (.ref 363), u1] [.int (iI s1), .int (iI s0)] (mk m q w) =
    if iI s0 = iI s1 then (rBd (ev d 189 [.ref 363, .int (iI 5), .int (iI 6)] (mk m q w)) (fun v M' => gv d rR190 91 [some (.ref 363), u1] (v.toList ++ []) M')) else (rBd (ev d 172 [.ref 363] (mk m q w)) (fun v M' => gv d rR190 98 [some (.ref 363), u1] (v.toList ++ []) M')) := by
  refine Eq.trans (k_i2ne rfl rfl) ?_
  refine ifc ?_ ?_
  · refine Eq.trans (k_ald0 rfl) ?_
    refine Eq.trans (k_con rfl) ?_
    refine Eq.trans (k_bip rfl (by decide)) ?_
    exact k_cV2 rfl s_363 q_189 rfl rfl rfl (bl rfl)
  · refine Eq.trans (k_ald0 rfl) ?_
    exact k_cV0 rfl s_363 q_172 rfl rfl rfl (bl rfl)
theorem b_190_91 {d : Nat} {m : Nat → Nat → Int} {q : Nat → Nat → Option Nat} {w : Option (Nat → Int64)} {u0 u1 : Option Value}   : gv d rR190 91 [u0, u1] [] (mk m q w) =
    gv d rR190 154 [u0, u1] [] (mk m q w) := by
  refine Eq.trans (k_go rfl rfl) ?_
  exact rfl
theorem b_190_98 {d : Nat} {m : Nat → Nat → Int} {q : Nat → Nat → Option Nat} {w : Option (Nat → Int64)} {u1 : Option Value} {s0 : Int}   : gv d rR190 98 [some (.ref 363), u1] [.int (iI s0)] (mk m q w) =
    rBd (ev d 173 [.ref 13] (mk m q w)) (fun v M' => gv d rR190 104 [some (.ref 363), u1] (v.toList ++ [.int (iI s0)]) M') := by
  refine Eq.trans (k_ldwr rfl) ?_
  exact k_cS1 rfl (by decide) q_173 rfl rfl (bl rfl)
theorem b_190_104 {d : Nat} {m : Nat → Nat → Int} {q : Nat → Nat → Option Nat} {w : Option (Nat → Int64)} {u1 : Option Value} {s0 s1 : Int}   : gv d rR190 104 [some (.ref 363), u1] [.int (iI s1), .int (iI s0)] (mk m q w) =
    if iI s0 = iI s1 then (rBd (ev d 189 [.ref 363, .int (iI 4), .int (iI 7)] (mk m q w)) (fun v M' => gv d rR190 114 [some (.ref 363), u1] (v.toList ++ []) M')) else (rBd (ev d 186 [.ref 363] (mk m q w)) (fun v M' => gv d rR190 121 [some (.ref 363), u1] (v.toList ++ []) M')) := by
  refine Eq.trans (k_i2ne rfl rfl) ?_
  refine ifc ?_ ?_
  · refine Eq.trans (k_ald0 rfl) ?_
    refine Eq.trans (k_con rfl) ?_
    refine Eq.trans (k_bip rfl (by decide)) ?_
    exact k_cV2 rfl s_363 q_189 rfl rfl rfl (bl rfl)
  · refine Eq.trans (k_ald0 rfl) ?_
    exact k_cV0 rfl s_363 q_186 rfl rfl rfl (bl rfl)
theorem b_190_114 {d : Nat} {m : Nat → Nat → Int} {q : Nat → Nat → Option Nat} {w : Option (Nat → Int64)} {u0 u1 : Option Value}   : gv d rR190 114 [u0, u1] [] (mk m q w) =
    gv d rR190 154 [u0, u1] [] (mk m q w) := by
  refine Eq.trans (k_go rfl rfl) ?_
  exact rfl
theorem b_190_121 {d : Nat} {m : Nat → Nat → Int} {q : Nat → Nat → Option Nat} {w : Option (Nat → Int64)} {u1 : Option Value} {s0 : Int}   : gv d rR190 121 [some (.ref 363), u1] [.int (iI s0)] (mk m q w) =
    if iI s0 = iI (-1) then (rBd (ev d 168 [.ref 363, .int (iI 1), .int (iI (m 363 4))] (mk m q w)) (fun v M' => gv d rR190 136 [some (.ref 363), some (.int (iI s0))] (v.toList ++ []) M')) else (gv d rR190 136 [some (.ref 363), some (.int (iI s0))] [] (mk m q w)) := by
  refine Eq.trans (k_ist1 rfl) ?_
  refine Eq.trans (k_ild1 rfl) ?_
  refine Eq.trans (k_con rfl) ?_
  refine Eq.trans (k_i2ne rfl rfl) ?_
  refine ifc ?_ ?_
  · refine Eq.trans (k_ald0 rfl) ?_
    refine Eq.trans (k_con rfl) ?_
    refine Eq.trans (k_ald0 rfl) ?_
    refine Eq.trans (k_gtI rfl s_363 rfl (by decide)) ?_
    exact k_cV2 rfl s_363 q_168 rfl rfl rfl (bl rfl)
  · exact rfl
theorem b_190_136 {d : Nat} {m : Nat → Nat → Int} {q : Nat → Nat → Option Nat} {w : Option (Nat → Int64)} {v1 : Int}   : gv d rR190 136 [some (.ref 363), some (.int (iI v1))] [] (mk m q w) =
    rBd (ev d 167 [.ref 363] (mk m q w)) (fun v M' => gv d rR190 140 [some (.ref 363), some (.int (iI v1))] (v.toList ++ []) M') := by
  refine Eq.trans (k_ald0 rfl) ?_
  exact k_cV0 rfl s_363 q_167 rfl rfl rfl (bl rfl)
theorem b_190_140 {d : Nat} {m : Nat → Nat → Int} {q : Nat → Nat → Option Nat} {w : Option (Nat → Int64)} {v1 s0 : Int}   : gv d rR190 140 [some (.ref 363), some (.int (iI v1))] [.int (iI s0)] (mk m q w) =
    if iI s0 = iI 0 then (some (.inl none, (mk m q w, (0, 0)))) else (rBd (ev d 174 [.ref 363] (mk m q w)) (fun v M' => gv d rR190 148 [some (.ref 363), some (.int (iI v1))] (v.toList ++ []) M')) := by
  refine Eq.trans (k_i1ne rfl rfl) ?_
  refine ifc ?_ ?_
  · exact k_rtV rfl rfl
  · refine Eq.trans (k_ald0 rfl) ?_
    exact k_cV0 rfl s_363 q_174 rfl rfl rfl (bl rfl)
theorem b_190_148 {d : Nat} {m : Nat → Nat → Int} {q : Nat → Nat → Option Nat} {w : Option (Nat → Int64)} {v1 : Int}   : gv d rR190 148 [some (.ref 363), some (.int (iI v1))] [] (mk m q w) =
    rBd (ev d 184 [.ref 363, .int (iI 1), .int (iI v1)] (mk m q w)) (fun v M' => gv d rR190 154 [some (.ref 363), some (.int (iI v1))] (v.toList ++ []) M') := by
  refine Eq.trans (k_ald0 rfl) ?_
  refine Eq.trans (k_con rfl) ?_
  refine Eq.trans (k_ild1 rfl) ?_
  exact k_cV2 rfl s_363 q_184 rfl rfl rfl (bl rfl)
theorem b_190_154 {d : Nat} {m : Nat → Nat → Int} {q : Nat → Nat → Option Nat} {w : Option (Nat → Int64)} {u0 u1 : Option Value}   : gv d rR190 154 [u0, u1] [] (mk m q w) =
    some (.inl none, (mk m q w, (0, 0))) := by
  exact k_rtV rfl rfl
theorem e_190 {d : Nat} (hd : 1 ≤ d) {a0 : Value} (M : rMem) (h0 : a0.category = 1) : ev d 190 [a0] M = gv (d - 1) rR190 0 [some a0, none] [] M := ev_at hd q_190 rfl (by simp [*]) rfl
/-! FanHouseModel.law(I)I -/
theorem b_191_0 {d : Nat} {m : Nat → Nat → Int} {q : Nat → Nat → Option Nat} {w : Option (Nat → Int64)} {u2 : Option Value} {v1 : Int}   : gv d rR191 0 [some (.ref 363), some (.int (iI v1)), u2] [] (mk m q w) =
    if iI v1 < iI 0 then (gv d rR191 29 [some (.ref 363), some (.int (iI v1)), u2] [.ref 363] (mk (wr m 363 0 0) q w)) else (if iI ((wr m 363 0 0) 363 2) < iI v1 then (gv d rR191 29 [some (.ref 363), some (.int (iI v1)), u2] [.ref 363] (mk (wr m 363 0 0) q w)) else (if iI 150 < iI v1 then (gv d rR191 29 [some (.ref 363), some (.int (iI v1)), u2] [.ref 363] (mk (wr m 363 0 0) q w)) else (gv d rR191 30 [some (.ref 363), some (.int (iI v1)), u2] [.int (iI 1), .ref 363] (mk (wr m 363 0 0) q w)))) := by
  refine Eq.trans (k_ald0 rfl) ?_
  refine Eq.trans (k_con rfl) ?_
  refine Eq.trans (k_ptI rfl s_363 rfl rfl) ?_
  refine Eq.trans (k_ald0 rfl) ?_
  refine Eq.trans (k_ild1 rfl) ?_
  refine Eq.trans (k_i1lt rfl rfl) ?_
  refine ifc ?_ ?_
  · exact rfl
  · refine Eq.trans (k_ild1 rfl) ?_
    refine Eq.trans (k_ald0 rfl) ?_
    refine Eq.trans (k_gtI rfl s_363 rfl (by decide)) ?_
    refine Eq.trans (k_i2gt rfl rfl) ?_
    refine ifc ?_ ?_
    · exact rfl
    · refine Eq.trans (k_ild1 rfl) ?_
      refine Eq.trans (k_sip rfl (by decide)) ?_
      refine Eq.trans (k_i2gt rfl rfl) ?_
      refine ifc ?_ ?_
      · exact rfl
      · refine Eq.trans (k_con rfl) ?_
        refine Eq.trans (k_go rfl rfl) ?_
        exact rfl
theorem b_191_29 {d : Nat} {m : Nat → Nat → Int} {q : Nat → Nat → Option Nat} {w : Option (Nat → Int64)} {u2 : Option Value} {v1 : Int}   : gv d rR191 29 [some (.ref 363), some (.int (iI v1)), u2] [.ref 363] (mk m q w) =
    gv d rR191 30 [some (.ref 363), some (.int (iI v1)), u2] [.int (iI 0), .ref 363] (mk m q w) := by
  refine Eq.trans (k_con rfl) ?_
  exact rfl
theorem b_191_30 {d : Nat} {m : Nat → Nat → Int} {q : Nat → Nat → Option Nat} {w : Option (Nat → Int64)} {u2 : Option Value} {v1 s1 : Int}   : gv d rR191 30 [some (.ref 363), some (.int (iI v1)), u2] [.int (iI s1), .ref 363] (mk m q w) =
    rBd (ev d 160 [.ref 363, .int (iI s1), .int (iI 1), .int (iI 1)] (mk m q w)) (fun v M' => gv d rR191 35 [some (.ref 363), some (.int (iI v1)), u2] (v.toList ++ []) M') := by
  refine Eq.trans (k_con rfl) ?_
  refine Eq.trans (k_con rfl) ?_
  exact k_cV3 rfl s_363 q_160 rfl rfl rfl (bl rfl)
theorem b_191_35 {d : Nat} {m : Nat → Nat → Int} {q : Nat → Nat → Option Nat} {w : Option (Nat → Int64)} {u2 : Option Value} {v1 s0 : Int}   : gv d rR191 35 [some (.ref 363), some (.int (iI v1)), u2] [.int (iI s0)] (mk m q w) =
    if iI s0 = iI 0 then (some (.inl (some (.int (iI 0))), (mk m q w, (0, 0)))) else (rBd (ev d 178 [.ref 363, .int (iI v1)] (mk m q w)) (fun v M' => gv d rR191 45 [some (.ref 363), some (.int (iI v1)), u2] (v.toList ++ []) M')) := by
  refine Eq.trans (k_i1ne rfl rfl) ?_
  refine ifc ?_ ?_
  · refine Eq.trans (k_con rfl) ?_
    exact k_rtI rfl rfl
  · refine Eq.trans (k_ald0 rfl) ?_
    refine Eq.trans (k_ild1 rfl) ?_
    exact k_cV1 rfl s_363 q_178 rfl rfl rfl (bl rfl)
theorem b_191_45 {d : Nat} {m : Nat → Nat → Int} {q : Nat → Nat → Option Nat} {w : Option (Nat → Int64)} {u1 u2 : Option Value}   : gv d rR191 45 [some (.ref 363), u1, u2] [] (mk m q w) =
    rBd (ev d 188 [.ref 363] (mk (wr m 363 23 0) q w)) (fun v M' => gv d rR191 54 [some (.ref 363), u1, u2] (v.toList ++ []) M') := by
  refine Eq.trans (k_ald0 rfl) ?_
  refine Eq.trans (k_con rfl) ?_
  refine Eq.trans (k_ptI rfl s_363 rfl rfl) ?_
  refine Eq.trans (k_ald0 rfl) ?_
  exact k_cV0 rfl s_363 q_188 rfl rfl rfl (bl rfl)
theorem b_191_54 {d : Nat} {m : Nat → Nat → Int} {q : Nat → Nat → Option Nat} {w : Option (Nat → Int64)} {u1 u2 : Option Value}   : gv d rR191 54 [some (.ref 363), u1, u2] [] (mk m q w) =
    rBd (ev d 167 [.ref 363] (mk m q w)) (fun v M' => gv d rR191 58 [some (.ref 363), u1, u2] (v.toList ++ []) M') := by
  refine Eq.trans (k_ald0 rfl) ?_
  exact k_cV0 rfl s_363 q_167 rfl rfl rfl (bl rfl)
theorem b_191_58 {d : Nat} {m : Nat → Nat → Int} {q : Nat → Nat → Option Nat} {w : Option (Nat → Int64)} {u1 u2 : Option Value} {s0 : Int}   : gv d rR191 58 [some (.ref 363), u1, u2] [.int (iI s0)] (mk m q w) =
    if iI s0 = iI 0 then (gv d rR191 77 [some (.ref 363), u1, u2] [] (mk m q w)) else (rBd (ev d 177 [.ref 363] (mk m q w)) (fun v M' => gv d rR191 65 [some (.ref 363), u1, u2] (v.toList ++ []) M')) := by
  refine Eq.trans (k_i1eq rfl rfl) ?_
  refine ifc ?_ ?_
  · exact rfl
  · refine Eq.trans (k_ald0 rfl) ?_
    exact k_cV0 rfl s_363 q_177 rfl rfl rfl (bl rfl)
theorem b_191_65 {d : Nat} {m : Nat → Nat → Int} {q : Nat → Nat → Option Nat} {w : Option (Nat → Int64)} {u1 u2 : Option Value} {s0 : Int}   : gv d rR191 65 [some (.ref 363), u1, u2] [.int (iI s0)] (mk m q w) =
    if iI s0 = iI 0 then (gv d rR191 77 [some (.ref 363), u1, u2] [] (mk m q w)) else (rBd (ev d 168 [.ref 363, .int (iI 1), .int (iI (m 363 4))] (mk m q w)) (fun v M' => gv d rR191 77 [some (.ref 363), u1, u2] (v.toList ++ []) M')) := by
  refine Eq.trans (k_i1eq rfl rfl) ?_
  refine ifc ?_ ?_
  · exact rfl
  · refine Eq.trans (k_ald0 rfl) ?_
    refine Eq.trans (k_con rfl) ?_
    refine Eq.trans (k_ald0 rfl) ?_
    refine Eq.trans (k_gtI rfl s_363 rfl (by decide)) ?_
    exact k_cV2 rfl s_363 q_168 rfl rfl rfl (bl rfl)
theorem b_191_77 {d : Nat} {m : Nat → Nat → Int} {q : Nat → Nat → Option Nat} {w : Option (Nat → Int64)} {u1 u2 : Option Value}   : gv d rR191 77 [some (.ref 363), u1, u2] [] (mk m q w) =
    rBd (ev d 179 [.ref 363, .int (iI 1)] (mk m q w)) (fun v M' => gv d rR191 82 [some (.ref 363), u1, u2] (v.toList ++ []) M') := by
  refine Eq.trans (k_ald0 rfl) ?_
  refine Eq.trans (k_con rfl) ?_
  exact k_cV1 rfl s_363 q_179 rfl rfl rfl (bl rfl)
theorem b_191_82 {d : Nat} {m : Nat → Nat → Int} {q : Nat → Nat → Option Nat} {w : Option (Nat → Int64)} {u1 u2 : Option Value} {s0 : Int}   : gv d rR191 82 [some (.ref 363), u1, u2] [.int (iI s0)] (mk m q w) =
    if iI (m 363 5) = iI (-1) then (rBd (ev d 163 [.ref 363, .ref 368, .ref 370, .int (iI ((wr m 363 24 (m 363 23)) 363 23))] (mk (wr m 363 24 (m 363 23)) q w)) (fun v M' => gv d rR191 117 [some (.ref 363), u1, some (.int (iI s0))] (v.toList ++ []) M')) else (some (.inl (some (.int (iI s0))), (mk m q w, (0, 0)))) := by
  refine Eq.trans (k_ist2 rfl) ?_
  refine Eq.trans (k_ald0 rfl) ?_
  refine Eq.trans (k_gtI rfl s_363 rfl (by decide)) ?_
  refine Eq.trans (k_con rfl) ?_
  refine Eq.trans (k_i2eq rfl rfl) ?_
  refine ifc ?_ ?_
  · refine Eq.trans (k_ald0 rfl) ?_
    refine Eq.trans (k_ald0 rfl) ?_
    refine Eq.trans (k_gtI rfl s_363 rfl (by decide)) ?_
    refine Eq.trans (k_ptI rfl s_363 rfl rfl) ?_
    refine Eq.trans (k_ald0 rfl) ?_
    refine Eq.trans (k_ald0 rfl) ?_
    refine Eq.trans (k_gtR rfl s_363 rfl (by decide)) ?_
    refine Eq.trans (k_ald0 rfl) ?_
    refine Eq.trans (k_gtR rfl s_363 rfl (by decide)) ?_
    refine Eq.trans (k_ald0 rfl) ?_
    refine Eq.trans (k_gtI rfl s_363 rfl (by decide)) ?_
    exact k_cV3 rfl s_363 q_163 rfl rfl rfl (bl rfl)
  · refine Eq.trans (k_ild2 rfl) ?_
    exact k_rtI rfl rfl
theorem b_191_117 {d : Nat} {m : Nat → Nat → Int} {q : Nat → Nat → Option Nat} {w : Option (Nat → Int64)} {u1 : Option Value} {v2 : Int}   : gv d rR191 117 [some (.ref 363), u1, some (.int (iI v2))] [] (mk m q w) =
    rBd (ev d 163 [.ref 363, .ref 369, .ref 371, .int (iI (m 363 23))] (mk m q w)) (fun v M' => gv d rR191 133 [some (.ref 363), u1, some (.int (iI v2))] (v.toList ++ []) M') := by
  refine Eq.trans (k_ald0 rfl) ?_
  refine Eq.trans (k_ald0 rfl) ?_
  refine Eq.trans (k_gtR rfl s_363 rfl (by decide)) ?_
  refine Eq.trans (k_ald0 rfl) ?_
  refine Eq.trans (k_gtR rfl s_363 rfl (by decide)) ?_
  refine Eq.trans (k_ald0 rfl) ?_
  refine Eq.trans (k_gtI rfl s_363 rfl (by decide)) ?_
  exact k_cV3 rfl s_363 q_163 rfl rfl rfl (bl rfl)
theorem b_191_133 {d : Nat} {m : Nat → Nat → Int} {q : Nat → Nat → Option Nat} {w : Option (Nat → Int64)} {u0 u1 : Option Value} {v2 : Int}   : gv d rR191 133 [u0, u1, some (.int (iI v2))] [] (mk m q w) =
    some (.inl (some (.int (iI v2))), (mk m q w, (0, 0))) := by
  refine Eq.trans (k_ild2 rfl) ?_
  exact k_rtI rfl rfl
theorem e_191 {d : Nat} (hd : 1 ≤ d) {a0 a1 : Value} (M : rMem) (h0 : a0.category = 1) (h1 : a1.category = 1) : ev d 191 [a0, a1] M = gv (d - 1) rR191 0 [some a0, some a1, none] [] M := ev_at hd q_191 rfl (by simp [*]) rfl
/-! FanHouseModel.bothOf(III)I -/
theorem b_192_0 {d : Nat} {m : Nat → Nat → Int} {q : Nat → Nat → Option Nat} {w : Option (Nat → Int64)} {v0 v1 v2 : Int}   : gv d rR192 0 [some (.int (iI v0)), some (.int (iI v1)), some (.int (iI v2))] [] (mk m q w) =
    if iI v0 = iI 2 then (some (.inl (some (.int (iI (v1 + v2)))), (mk m q w, (0, 0)))) else (if iI v0 = iI 3 then (some (.inl (some (.int (iI (v1 - v2)))), (mk m q w, (0, 0)))) else (if iI v0 = iI 4 then (some (.inl (some (.int (iI (v1 * v2)))), (mk m q w, (0, 0)))) else (if iI v0 = iI 5 then (gv d rR192 38 [some (.int (iI v0)), some (.int (iI v1)), some (.int (iI v2))] [] (mk m q w)) else (if iI v0 = iI 8 then (gv d rR192 38 [some (.int (iI v0)), some (.int (iI v1)), some (.int (iI v2))] [] (mk m q w)) else (if iI v1 < iI v2 then (gv d rR192 71 [some (.int (iI v0)), some (.int (iI v1)), some (.int (iI v2))] [.int (iI 1)] (mk m q w)) else (gv d rR192 71 [some (.int (iI v0)), some (.int (iI v1)), some (.int (iI v2))] [.int (iI 0)] (mk m q w))))))) := by
  refine Eq.trans (k_ild0 rfl) ?_
  refine Eq.trans (k_con rfl) ?_
  refine Eq.trans (k_i2ne rfl rfl) ?_
  refine ifc ?_ ?_
  · refine Eq.trans (k_ild1 rfl) ?_
    refine Eq.trans (k_ild2 rfl) ?_
    refine Eq.trans (k_add rfl) ?_
    exact k_rtI rfl rfl
  · refine Eq.trans (k_ild0 rfl) ?_
    refine Eq.trans (k_con rfl) ?_
    refine Eq.trans (k_i2ne rfl rfl) ?_
    refine ifc ?_ ?_
    · refine Eq.trans (k_ild1 rfl) ?_
      refine Eq.trans (k_ild2 rfl) ?_
      refine Eq.trans (k_sub rfl) ?_
      exact k_rtI rfl rfl
    · refine Eq.trans (k_ild0 rfl) ?_
      refine Eq.trans (k_con rfl) ?_
      refine Eq.trans (k_i2ne rfl rfl) ?_
      refine ifc ?_ ?_
      · refine Eq.trans (k_ild1 rfl) ?_
        refine Eq.trans (k_ild2 rfl) ?_
        refine Eq.trans (k_mul rfl) ?_
        exact k_rtI rfl rfl
      · refine Eq.trans (k_ild0 rfl) ?_
        refine Eq.trans (k_con rfl) ?_
        refine Eq.trans (k_i2eq rfl rfl) ?_
        refine ifc ?_ ?_
        · exact rfl
        · refine Eq.trans (k_ild0 rfl) ?_
          refine Eq.trans (k_bip rfl (by decide)) ?_
          refine Eq.trans (k_i2ne rfl rfl) ?_
          refine ifc ?_ ?_
          · exact rfl
          · refine Eq.trans (k_ild1 rfl) ?_
            refine Eq.trans (k_ild2 rfl) ?_
            refine Eq.trans (k_i2ge rfl rfl) ?_
            refine ifc ?_ ?_
            · refine Eq.trans (k_con rfl) ?_
              refine Eq.trans (k_go rfl rfl) ?_
              exact rfl
            · refine Eq.trans (k_con rfl) ?_
              exact rfl
theorem b_192_38 {d : Nat} {m : Nat → Nat → Int} {q : Nat → Nat → Option Nat} {w : Option (Nat → Int64)} {v0 v1 v2 : Int}   : gv d rR192 38 [some (.int (iI v0)), some (.int (iI v1)), some (.int (iI v2))] [] (mk m q w) =
    if iI v2 = iI 0 then (gv d rR192 60 [some (.int (iI v0)), some (.int (iI v1)), some (.int (iI v2))] [.int (iI 0)] (mk m q w)) else (if iI v0 = iI 5 then (gv d rR192 51 [some (.int (iI v0)), some (.int (iI v1)), some (.int (iI v2))] [] (mk m q w)) else (gv d rR192 57 [some (.int (iI v0)), some (.int (iI v1)), some (.int (iI v2))] [] (mk m q w))) := by
  refine Eq.trans (k_ild2 rfl) ?_
  refine Eq.trans (k_i1ne rfl rfl) ?_
  refine ifc ?_ ?_
  · refine Eq.trans (k_con rfl) ?_
    refine Eq.trans (k_go rfl rfl) ?_
    exact rfl
  · refine Eq.trans (k_ild0 rfl) ?_
    refine Eq.trans (k_con rfl) ?_
    refine Eq.trans (k_i2ne rfl rfl) ?_
    refine ifc ?_ ?_
    · exact rfl
    · exact rfl
theorem b_192_51 {d : Nat} {m : Nat → Nat → Int} {q : Nat → Nat → Option Nat} {w : Option (Nat → Int64)} {u0 : Option Value} {v1 v2 : Int}  (g0 : iI v2 ≠ 0) : gv d rR192 51 [u0, some (.int (iI v1)), some (.int (iI v2))] [] (mk m q w) =
    gv d rR192 60 [u0, some (.int (iI v1)), some (.int (iI v2))] [.int (iI (zDiv v1 v2))] (mk m q w) := by
  refine Eq.trans (k_ild1 rfl) ?_
  refine Eq.trans (k_ild2 rfl) ?_
  refine Eq.trans (k_div rfl g0) ?_
  refine Eq.trans (k_go rfl rfl) ?_
  exact rfl
theorem b_192_57 {d : Nat} {m : Nat → Nat → Int} {q : Nat → Nat → Option Nat} {w : Option (Nat → Int64)} {u0 : Option Value} {v1 v2 : Int}  (g0 : iI v2 ≠ 0) : gv d rR192 57 [u0, some (.int (iI v1)), some (.int (iI v2))] [] (mk m q w) =
    gv d rR192 60 [u0, some (.int (iI v1)), some (.int (iI v2))] [.int (iI (zRem v1 v2))] (mk m q w) := by
  refine Eq.trans (k_ild1 rfl) ?_
  refine Eq.trans (k_ild2 rfl) ?_
  refine Eq.trans (k_rem rfl g0) ?_
  exact rfl
theorem b_192_60 {d : Nat} {m : Nat → Nat → Int} {q : Nat → Nat → Option Nat} {w : Option (Nat → Int64)} {u0 u1 u2 : Option Value} {s0 : Int}   : gv d rR192 60 [u0, u1, u2] [.int (iI s0)] (mk m q w) =
    some (.inl (some (.int (iI s0))), (mk m q w, (0, 0))) := by
  exact k_rtI rfl rfl
theorem b_192_71 {d : Nat} {m : Nat → Nat → Int} {q : Nat → Nat → Option Nat} {w : Option (Nat → Int64)} {v0 v1 v2 s0 : Int}   : gv d rR192 71 [some (.int (iI v0)), some (.int (iI v1)), some (.int (iI v2))] [.int (iI s0)] (mk m q w) =
    if iI v0 = iI 6 then (gv d rR192 82 [some (.int (iI v0)), some (.int (iI v1)), some (.int (iI v2))] [.int (iI 1), .int (iI s0)] (mk m q w)) else (gv d rR192 82 [some (.int (iI v0)), some (.int (iI v1)), some (.int (iI v2))] [.int (iI 0), .int (iI s0)] (mk m q w)) := by
  refine Eq.trans (k_ild0 rfl) ?_
  refine Eq.trans (k_bip rfl (by decide)) ?_
  refine Eq.trans (k_i2ne rfl rfl) ?_
  refine ifc ?_ ?_
  · refine Eq.trans (k_con rfl) ?_
    refine Eq.trans (k_go rfl rfl) ?_
    exact rfl
  · refine Eq.trans (k_con rfl) ?_
    exact rfl
theorem b_192_82 {d : Nat} {m : Nat → Nat → Int} {q : Nat → Nat → Option Nat} {w : Option (Nat → Int64)} {u0 : Option Value} {v1 v2 s0 s1 : Int}   : gv d rR192 82 [u0, some (.int (iI v1)), some (.int (iI v2))] [.int (iI s1), .int (iI s0)] (mk m q w) =
    if iI s0 = iI s1 then (gv d rR192 90 [u0, some (.int (iI v1)), some (.int (iI v2))] [.int (iI v1)] (mk m q w)) else (gv d rR192 90 [u0, some (.int (iI v1)), some (.int (iI v2))] [.int (iI v2)] (mk m q w)) := by
  refine Eq.trans (k_i2ne rfl rfl) ?_
  refine ifc ?_ ?_
  · refine Eq.trans (k_ild1 rfl) ?_
    refine Eq.trans (k_go rfl rfl) ?_
    exact rfl
  · refine Eq.trans (k_ild2 rfl) ?_
    exact rfl
theorem b_192_90 {d : Nat} {m : Nat → Nat → Int} {q : Nat → Nat → Option Nat} {w : Option (Nat → Int64)} {u0 u1 u2 : Option Value} {s0 : Int}   : gv d rR192 90 [u0, u1, u2] [.int (iI s0)] (mk m q w) =
    some (.inl (some (.int (iI s0))), (mk m q w, (0, 0))) := by
  exact k_rtI rfl rfl
theorem e_192 {d : Nat} (hd : 1 ≤ d) {a0 a1 a2 : Value} (M : rMem) (h0 : a0.category = 1) (h1 : a1.category = 1) (h2 : a2.category = 1) : ev d 192 [a0, a1, a2] M = gv (d - 1) rR192 0 [some a0, some a1, some a2] [] M := ev_at hd q_192 rfl (by simp [*]) rfl
/-! FanHouseModel.valueNow()I -/
theorem b_193_0 {d : Nat} {m : Nat → Nat → Int} {q : Nat → Nat → Option Nat} {w : Option (Nat → Int64)} {u1 u2 u3 : Option Value}   : gv d rR193 0 [some (.ref 363), u1, u2, u3] [] (mk m q w) =
    gv d rR193 4 [some (.ref 363), some (.int (iI 0)), some (.int (iI 0)), u3] [] (mk m q w) := by
  refine Eq.trans (k_con rfl) ?_
  refine Eq.trans (k_ist1 rfl) ?_
  refine Eq.trans (k_con rfl) ?_
  refine Eq.trans (k_ist2 rfl) ?_
  exact rfl
theorem b_193_4 {d : Nat} {m : Nat → Nat → Int} {q : Nat → Nat → Option Nat} {w : Option (Nat → Int64)} {u3 : Option Value} {v1 v2 : Int}   : gv d rR193 4 [some (.ref 363), some (.int (iI v1)), some (.int (iI v2)), u3] [] (mk m q w) =
    if iI v2 < iI (m 363 24) then (gv d rR193 12 [some (.ref 363), some (.int (iI v1)), some (.int (iI v2)), u3] [] (mk m q w)) else (some (.inl (some (.int (iI (m 372 0)))), (mk m q w, (0, 0)))) := by
  refine Eq.trans (k_ild2 rfl) ?_
  refine Eq.trans (k_ald0 rfl) ?_
  refine Eq.trans (k_gtI rfl s_363 rfl (by decide)) ?_
  refine Eq.trans (k_i2ge rfl rfl) ?_
  refine ifc ?_ ?_
  · exact rfl
  · refine Eq.trans (k_ald0 rfl) ?_
    refine Eq.trans (k_gtR rfl s_363 rfl (by decide)) ?_
    refine Eq.trans (k_con rfl) ?_
    refine Eq.trans (k_iald rfl s_372 (bl rfl) (by decide) (by decide)) ?_
    exact k_rtI rfl rfl
theorem b_193_12 {d : Nat} {m : Nat → Nat → Int} {q : Nat → Nat → Option Nat} {w : Option (Nat → Int64)} {u3 : Option Value} {v1 v2 : Int}  (g0 : 0 ≤ v2) (g1 : v2 < 150) : gv d rR193 12 [some (.ref 363), some (.int (iI v1)), some (.int (iI v2)), u3] [] (mk m q w) =
    if iI 1 < iI (m 370 (Int.toNat v2)) then (gv d rR193 60 [some (.ref 363), some (.int (iI v1)), some (.int (iI v2)), some (.int (iI (m 370 (Int.toNat v2))))] [] (mk m q w)) else (if iI (m 370 (Int.toNat v2)) = iI 0 then (gv d rR193 53 [some (.ref 363), some (.int (iI v1)), some (.int (iI v2)), some (.int (iI (m 370 (Int.toNat v2))))] [.int (iI (m 371 (Int.toNat v2))), .int (iI v1), .ref 372] (mk m q w)) else (gv d rR193 42 [some (.ref 363), some (.int (iI v1)), some (.int (iI v2)), some (.int (iI (m 370 (Int.toNat v2))))] [.int (iI v1), .ref 372] (mk m q w))) := by
  refine Eq.trans (k_ald0 rfl) ?_
  refine Eq.trans (k_gtR rfl s_363 rfl (by decide)) ?_
  refine Eq.trans (k_ild2 rfl) ?_
  refine Eq.trans (k_iald rfl s_370 (bl rfl) g0 g1) ?_
  refine Eq.trans (k_ist3 rfl) ?_
  refine Eq.trans (k_ild3 rfl) ?_
  refine Eq.trans (k_con rfl) ?_
  refine Eq.trans (k_i2gt rfl rfl) ?_
  refine ifc ?_ ?_
  · exact rfl
  · refine Eq.trans (k_ald0 rfl) ?_
    refine Eq.trans (k_gtR rfl s_363 rfl (by decide)) ?_
    refine Eq.trans (k_ild1 rfl) ?_
    refine Eq.trans (k_ild3 rfl) ?_
    refine Eq.trans (k_i1ne rfl rfl) ?_
    refine ifc ?_ ?_
    · refine Eq.trans (k_ald0 rfl) ?_
      refine Eq.trans (k_gtR rfl s_363 rfl (by decide)) ?_
      refine Eq.trans (k_ild2 rfl) ?_
      refine Eq.trans (k_iald rfl s_371 (bl rfl) g0 g1) ?_
      refine Eq.trans (k_go rfl rfl) ?_
      exact rfl
    · exact rfl
theorem b_193_42 {d : Nat} {m : Nat → Nat → Int} {q : Nat → Nat → Option Nat} {w : Option (Nat → Int64)} {u3 : Option Value} {v1 v2 s1 : Int}  (g0 : 0 ≤ v2) (g1 : v2 < 150) (g2 : 0 ≤ (m 371 (Int.toNat v2))) (g3 : (m 371 (Int.toNat v2)) < 7) : gv d rR193 42 [some (.ref 363), some (.int (iI v1)), some (.int (iI v2)), u3] [.int (iI s1), .ref 372] (mk m q w) =
    gv d rR193 53 [some (.ref 363), some (.int (iI v1)), some (.int (iI v2)), u3] [.int (iI (m 373 (Int.toNat (m 371 (Int.toNat v2))))), .int (iI s1), .ref 372] (mk m q w) := by
  refine Eq.trans (k_ald0 rfl) ?_
  refine Eq.trans (k_gtR rfl s_363 rfl (by decide)) ?_
  refine Eq.trans (k_ald0 rfl) ?_
  refine Eq.trans (k_gtR rfl s_363 rfl (by decide)) ?_
  refine Eq.trans (k_ild2 rfl) ?_
  refine Eq.trans (k_iald rfl s_371 (bl rfl) g0 g1) ?_
  refine Eq.trans (k_iald rfl s_373 (bl rfl) g2 g3) ?_
  exact rfl
theorem b_193_53 {d : Nat} {m : Nat → Nat → Int} {q : Nat → Nat → Option Nat} {w : Option (Nat → Int64)} {u3 : Option Value} {v1 v2 s1 s2 : Int}  (g0 : 0 ≤ s1) (g1 : s1 < 150) : gv d rR193 53 [some (.ref 363), some (.int (iI v1)), some (.int (iI v2)), u3] [.int (iI s2), .int (iI s1), .ref 372] (mk m q w) =
    gv d rR193 89 [some (.ref 363), some (.int (iI (v1 + 1))), some (.int (iI v2)), u3] [] (mk (wr m 372 (Int.toNat s1) s2) q w) := by
  refine Eq.trans (k_iast rfl s_372 (bl rfl) g0 g1) ?_
  refine Eq.trans (k_inc1 rfl) ?_
  refine Eq.trans (k_go rfl rfl) ?_
  exact rfl
theorem b_193_60 {d : Nat} {m : Nat → Nat → Int} {q : Nat → Nat → Option Nat} {w : Option (Nat → Int64)} {v1 v2 v3 : Int}  (g0 : 0 ≤ ((v1 + (-1)) - 1)) (g1 : ((v1 + (-1)) - 1) < 150) (g2 : 0 ≤ (v1 + (-1))) (g3 : (v1 + (-1)) < 150) : gv d rR193 60 [some (.ref 363), some (.int (iI v1)), some (.int (iI v2)), some (.int (iI v3))] [] (mk m q w) =
    rBd (ev d 192 [.int (iI v3), .int (iI (m 372 (Int.toNat ((v1 + (-1)) - 1)))), .int (iI (m 372 (Int.toNat (v1 + (-1)))))] (mk m q w)) (fun v M' => gv d rR193 88 [some (.ref 363), some (.int (iI (v1 + (-1)))), some (.int (iI v2)), some (.int (iI v3))] (v.toList ++ [.int (iI ((v1 + (-1)) - 1)), .ref 372]) M') := by
  refine Eq.trans (k_inc1 rfl) ?_
  refine Eq.trans (k_ald0 rfl) ?_
  refine Eq.trans (k_gtR rfl s_363 rfl (by decide)) ?_
  refine Eq.trans (k_ild1 rfl) ?_
  refine Eq.trans (k_con rfl) ?_
  refine Eq.trans (k_sub rfl) ?_
  refine Eq.trans (k_ild3 rfl) ?_
  refine Eq.trans (k_ald0 rfl) ?_
  refine Eq.trans (k_gtR rfl s_363 rfl (by decide)) ?_
  refine Eq.trans (k_ild1 rfl) ?_
  refine Eq.trans (k_con rfl) ?_
  refine Eq.trans (k_sub rfl) ?_
  refine Eq.trans (k_iald rfl s_372 (bl rfl) g0 g1) ?_
  refine Eq.trans (k_ald0 rfl) ?_
  refine Eq.trans (k_gtR rfl s_363 rfl (by decide)) ?_
  refine Eq.trans (k_ild1 rfl) ?_
  refine Eq.trans (k_iald rfl s_372 (bl rfl) g2 g3) ?_
  exact k_cS3 rfl (by decide) q_192 rfl rfl (bl rfl)
theorem b_193_88 {d : Nat} {m : Nat → Nat → Int} {q : Nat → Nat → Option Nat} {w : Option (Nat → Int64)} {u3 : Option Value} {v1 v2 s1 s2 : Int}  (g0 : 0 ≤ s1) (g1 : s1 < 150) : gv d rR193 88 [some (.ref 363), some (.int (iI v1)), some (.int (iI v2)), u3] [.int (iI s2), .int (iI s1), .ref 372] (mk m q w) =
    gv d rR193 89 [some (.ref 363), some (.int (iI v1)), some (.int (iI v2)), u3] [] (mk (wr m 372 (Int.toNat s1) s2) q w) := by
  refine Eq.trans (k_iast rfl s_372 (bl rfl) g0 g1) ?_
  exact rfl
theorem b_193_89 {d : Nat} {m : Nat → Nat → Int} {q : Nat → Nat → Option Nat} {w : Option (Nat → Int64)} {u3 : Option Value} {v1 v2 : Int}   : gv d rR193 89 [some (.ref 363), some (.int (iI v1)), some (.int (iI v2)), u3] [] (mk m q w) =
    gv d rR193 4 [some (.ref 363), some (.int (iI v1)), some (.int (iI (v2 + 1))), u3] [] (mk m q w) := by
  refine Eq.trans (k_inc2 rfl) ?_
  refine Eq.trans (k_go rfl rfl) ?_
  exact rfl
theorem e_193 {d : Nat} (hd : 1 ≤ d) {a0 : Value} (M : rMem) (h0 : a0.category = 1) : ev d 193 [a0] M = gv (d - 1) rR193 0 [some a0, none, none, none] [] M := ev_at hd q_193 rfl (by simp [*]) rfl
/-! FanHouseModel.strainNow()I -/
theorem b_194_0 {d : Nat} {m : Nat → Nat → Int} {q : Nat → Nat → Option Nat} {w : Option (Nat → Int64)} {u1 : Option Value}   : gv d rR194 0 [some (.ref 363), u1] [] (mk m q w) =
    if iI (m 363 24) = iI 0 then (gv d rR194 20 [some (.ref 363), u1] [.int (iI (m 373 1))] (mk m q w)) else (rBd (ev d 193 [.ref 363] (mk m q w)) (fun v M' => gv d rR194 20 [some (.ref 363), u1] (v.toList ++ []) M')) := by
  refine Eq.trans (k_ald0 rfl) ?_
  refine Eq.trans (k_gtI rfl s_363 rfl (by decide)) ?_
  refine Eq.trans (k_i1ne rfl rfl) ?_
  refine ifc ?_ ?_
  · refine Eq.trans (k_ald0 rfl) ?_
    refine Eq.trans (k_gtR rfl s_363 rfl (by decide)) ?_
    refine Eq.trans (k_con rfl) ?_
    refine Eq.trans (k_iald rfl s_373 (bl rfl) (by decide) (by decide)) ?_
    refine Eq.trans (k_go rfl rfl) ?_
    exact rfl
  · refine Eq.trans (k_ald0 rfl) ?_
    exact k_cV0 rfl s_363 q_193 rfl rfl rfl (bl rfl)
theorem b_194_20 {d : Nat} {m : Nat → Nat → Int} {q : Nat → Nat → Option Nat} {w : Option (Nat → Int64)} {u0 u1 : Option Value} {s0 : Int}   : gv d rR194 20 [u0, u1] [.int (iI s0)] (mk m q w) =
    if iI s0 < iI 0 then (gv d rR194 41 [u0, some (.int (iI s0))] [.int (iI 0)] (mk m q w)) else (if iI 60 < iI s0 then (gv d rR194 41 [u0, some (.int (iI s0))] [.int (iI 60)] (mk m q w)) else (gv d rR194 41 [u0, some (.int (iI s0))] [.int (iI s0)] (mk m q w))) := by
  refine Eq.trans (k_ist1 rfl) ?_
  refine Eq.trans (k_ild1 rfl) ?_
  refine Eq.trans (k_i1ge rfl rfl) ?_
  refine ifc ?_ ?_
  · refine Eq.trans (k_con rfl) ?_
    refine Eq.trans (k_go rfl rfl) ?_
    exact rfl
  · refine Eq.trans (k_ild1 rfl) ?_
    refine Eq.trans (k_bip rfl (by decide)) ?_
    refine Eq.trans (k_i2le rfl rfl) ?_
    refine ifc ?_ ?_
    · refine Eq.trans (k_bip rfl (by decide)) ?_
      refine Eq.trans (k_go rfl rfl) ?_
      exact rfl
    · refine Eq.trans (k_ild1 rfl) ?_
      exact rfl
theorem b_194_41 {d : Nat} {m : Nat → Nat → Int} {q : Nat → Nat → Option Nat} {w : Option (Nat → Int64)} {u0 u1 : Option Value} {s0 : Int}   : gv d rR194 41 [u0, u1] [.int (iI s0)] (mk m q w) =
    some (.inl (some (.int (iI s0))), (mk m q w, (0, 0))) := by
  exact k_rtI rfl rfl
theorem e_194 {d : Nat} (hd : 1 ≤ d) {a0 : Value} (M : rMem) (h0 : a0.category = 1) : ev d 194 [a0] M = gv (d - 1) rR194 0 [some a0, none] [] M := ev_at hd q_194 rfl (by simp [*]) rfl
/-! FanHouseModel.tellsStep(IIII)V -/
theorem b_195_0 {d : Nat} {m : Nat → Nat → Int} {q : Nat → Nat → Option Nat} {w : Option (Nat → Int64)} {v1 v2 v3 v4 : Int}   : gv d rR195 0 [some (.ref 363), some (.int (iI v1)), some (.int (iI v2)), some (.int (iI v3)), some (.int (iI v4))] [] (mk m q w) =
    rBd (ev d 167 [.ref 363] (mk m q w)) (fun v M' => gv d rR195 4 [some (.ref 363), some (.int (iI v1)), some (.int (iI v2)), some (.int (iI v3)), some (.int (iI v4))] (v.toList ++ []) M') := by
  refine Eq.trans (k_ald0 rfl) ?_
  exact k_cV0 rfl s_363 q_167 rfl rfl rfl (bl rfl)
theorem b_195_4 {d : Nat} {m : Nat → Nat → Int} {q : Nat → Nat → Option Nat} {w : Option (Nat → Int64)} {v1 v2 v3 v4 s0 : Int}   : gv d rR195 4 [some (.ref 363), some (.int (iI v1)), some (.int (iI v2)), some (.int (iI v3)), some (.int (iI v4))] [.int (iI s0)] (mk m q w) =
    if iI s0 = iI 0 then (some (.inl none, (mk m q w, (0, 0)))) else (gv d rR195 8 [some (.ref 363), some (.int (iI v1)), some (.int (iI v2)), some (.int (iI v3)), some (.int (iI v4))] [] (mk m q w)) := by
  refine Eq.trans (k_i1ne rfl rfl) ?_
  refine ifc ?_ ?_
  · exact k_rtV rfl rfl
  · exact rfl
theorem b_195_8 {d : Nat} {m : Nat → Nat → Int} {q : Nat → Nat → Option Nat} {w : Option (Nat → Int64)} {v1 v2 v3 v4 : Int}  (g0 : 0 ≤ (m 363 28)) (g1 : (m 363 28) < 200) (g2 : 0 ≤ (((wr m 374 (Int.toNat (m 363 28)) v1) 363 28) + 1)) (g3 : (((wr m 374 (Int.toNat (m 363 28)) v1) 363 28) + 1) < 200) (g4 : 0 ≤ (((wr (wr m 374 (Int.toNat (m 363 28)) v1) 374 (Int.toNat (((wr m 374 (Int.toNat (m 363 28)) v1) 363 28) + 1)) v2) 363 28) + 2)) (g5 : (((wr (wr m 374 (Int.toNat (m 363 28)) v1) 374 (Int.toNat (((wr m 374 (Int.toNat (m 363 28)) v1) 363 28) + 1)) v2) 363 28) + 2) < 200) (g6 : 0 ≤ (((wr (wr (wr m 374 (Int.toNat (m 363 28)) v1) 374 (Int.toNat (((wr m 374 (Int.toNat (m 363 28)) v1) 363 28) + 1)) v2) 374 (Int.toNat (((wr (wr m 374 (Int.toNat (m 363 28)) v1) 374 (Int.toNat (((wr m 374 (Int.toNat (m 363 28)) v1) 363 28) + 1)) v2) 363 28) + 2)) v3) 363 28) + 3)) (g7 : (((wr (wr (wr m 374 (Int.toNat (m 363 28)) v1) 374 (Int.toNat (((wr m 374 (Int.toNat (m 363 28)) v1) 363 28) + 1)) v2) 374 (Int.toNat (((wr (wr m 374 (Int.toNat (m 363 28)) v1) 374 (Int.toNat (((wr m 374 (Int.toNat (m 363 28)) v1) 363 28) + 1)) v2) 363 28) + 2)) v3) 363 28) + 3) < 200) : gv d rR195 8 [some (.ref 363), some (.int (iI v1)), some (.int (iI v2)), some (.int (iI v3)), some (.int (iI v4))] [] (mk m q w) =
    some (.inl none, (mk (wr (wr (wr (wr (wr m 374 (Int.toNat (m 363 28)) v1) 374 (Int.toNat (((wr m 374 (Int.toNat (m 363 28)) v1) 363 28) + 1)) v2) 374 (Int.toNat (((wr (wr m 374 (Int.toNat (m 363 28)) v1) 374 (Int.toNat (((wr m 374 (Int.toNat (m 363 28)) v1) 363 28) + 1)) v2) 363 28) + 2)) v3) 374 (Int.toNat (((wr (wr (wr m 374 (Int.toNat (m 363 28)) v1) 374 (Int.toNat (((wr m 374 (Int.toNat (m 363 28)) v1) 363 28) + 1)) v2) 374 (Int.toNat (((wr (wr m 374 (Int.toNat (m 363 28)) v1) 374 (Int.toNat (((wr m 374 (Int.toNat (m 363 28)) v1) 363 28) + 1)) v2) 363 28) + 2)) v3) 363 28) + 3)) v4) 363 28 (((wr (wr (wr (wr m 374 (Int.toNat (m 363 28)) v1) 374 (Int.toNat (((wr m 374 (Int.toNat (m 363 28)) v1) 363 28) + 1)) v2) 374 (Int.toNat (((wr (wr m 374 (Int.toNat (m 363 28)) v1) 374 (Int.toNat (((wr m 374 (Int.toNat (m 363 28)) v1) 363 28) + 1)) v2) 363 28) + 2)) v3) 374 (Int.toNat (((wr (wr (wr m 374 (Int.toNat (m 363 28)) v1) 374 (Int.toNat (((wr m 374 (Int.toNat (m 363 28)) v1) 363 28) + 1)) v2) 374 (Int.toNat (((wr (wr m 374 (Int.toNat (m 363 28)) v1) 374 (Int.toNat (((wr m 374 (Int.toNat (m 363 28)) v1) 363 28) + 1)) v2) 363 28) + 2)) v3) 363 28) + 3)) v4) 363 28) + 4)) q w, (0, 0))) := by
  refine Eq.trans (k_ald0 rfl) ?_
  refine Eq.trans (k_gtR rfl s_363 rfl (by decide)) ?_
  refine Eq.trans (k_ald0 rfl) ?_
  refine Eq.trans (k_gtI rfl s_363 rfl (by decide)) ?_
  refine Eq.trans (k_ild1 rfl) ?_
  refine Eq.trans (k_iast rfl s_374 (bl rfl) g0 g1) ?_
  refine Eq.trans (k_ald0 rfl) ?_
  refine Eq.trans (k_gtR rfl s_363 rfl (by decide)) ?_
  refine Eq.trans (k_ald0 rfl) ?_
  refine Eq.trans (k_gtI rfl s_363 rfl (by decide)) ?_
  refine Eq.trans (k_con rfl) ?_
  refine Eq.trans (k_add rfl) ?_
  refine Eq.trans (k_ild2 rfl) ?_
  refine Eq.trans (k_iast rfl s_374 (bl rfl) g2 g3) ?_
  refine Eq.trans (k_ald0 rfl) ?_
  refine Eq.trans (k_gtR rfl s_363 rfl (by decide)) ?_
  refine Eq.trans (k_ald0 rfl) ?_
  refine Eq.trans (k_gtI rfl s_363 rfl (by decide)) ?_
  refine Eq.trans (k_con rfl) ?_
  refine Eq.trans (k_add rfl) ?_
  refine Eq.trans (k_ild3 rfl) ?_
  refine Eq.trans (k_iast rfl s_374 (bl rfl) g4 g5) ?_
  refine Eq.trans (k_ald0 rfl) ?_
  refine Eq.trans (k_gtR rfl s_363 rfl (by decide)) ?_
  refine Eq.trans (k_ald0 rfl) ?_
  refine Eq.trans (k_gtI rfl s_363 rfl (by decide)) ?_
  refine Eq.trans (k_con rfl) ?_
  refine Eq.trans (k_add rfl) ?_
  refine Eq.trans (k_ild4 rfl) ?_
  refine Eq.trans (k_iast rfl s_374 (bl rfl) g6 g7) ?_
  refine Eq.trans (k_ald0 rfl) ?_
  refine Eq.trans (k_dup rfl rfl) ?_
  refine Eq.trans (k_gtI rfl s_363 rfl (by decide)) ?_
  refine Eq.trans (k_con rfl) ?_
  refine Eq.trans (k_add rfl) ?_
  refine Eq.trans (k_ptI rfl s_363 rfl rfl) ?_
  exact k_rtV rfl rfl
theorem e_195 {d : Nat} (hd : 1 ≤ d) {a0 a1 a2 a3 a4 : Value} (M : rMem) (h0 : a0.category = 1) (h1 : a1.category = 1) (h2 : a2.category = 1) (h3 : a3.category = 1) (h4 : a4.category = 1) : ev d 195 [a0, a1, a2, a3, a4] M = gv (d - 1) rR195 0 [some a0, some a1, some a2, some a3, some a4] [] M := ev_at hd q_195 rfl (by simp [*]) rfl
/-! FanHouseModel.stepOf(I)I -/
theorem b_196_0 {d : Nat} {m : Nat → Nat → Int} {q : Nat → Nat → Option Nat} {w : Option (Nat → Int64)} {v0 : Int}   : gv d rR196 0 [some (.int (iI v0))] [] (mk m q w) =
    rBd (ev d 173 [.ref 15] (mk m q w)) (fun v M' => gv d rR196 7 [some (.int (iI v0))] (v.toList ++ [.int (iI v0)]) M') := by
  refine Eq.trans (k_ild0 rfl) ?_
  refine Eq.trans (k_ldwr rfl) ?_
  exact k_cS1 rfl (by decide) q_173 rfl rfl (bl rfl)
theorem b_196_7 {d : Nat} {m : Nat → Nat → Int} {q : Nat → Nat → Option Nat} {w : Option (Nat → Int64)} {v0 s0 s1 : Int}   : gv d rR196 7 [some (.int (iI v0))] [.int (iI s1), .int (iI s0)] (mk m q w) =
    if iI s0 = iI s1 then (gv d rR196 114 [some (.int (iI v0))] [.int (iI 0)] (mk m q w)) else (rBd (ev d 173 [.ref 24] (mk m q w)) (fun v M' => gv d rR196 21 [some (.int (iI v0))] (v.toList ++ [.int (iI v0)]) M')) := by
  refine Eq.trans (k_i2ne rfl rfl) ?_
  refine ifc ?_ ?_
  · refine Eq.trans (k_con rfl) ?_
    refine Eq.trans (k_go rfl rfl) ?_
    exact rfl
  · refine Eq.trans (k_ild0 rfl) ?_
    refine Eq.trans (k_ldwr rfl) ?_
    exact k_cS1 rfl (by decide) q_173 rfl rfl (bl rfl)
theorem b_196_21 {d : Nat} {m : Nat → Nat → Int} {q : Nat → Nat → Option Nat} {w : Option (Nat → Int64)} {v0 s0 s1 : Int}   : gv d rR196 21 [some (.int (iI v0))] [.int (iI s1), .int (iI s0)] (mk m q w) =
    if iI s0 = iI s1 then (gv d rR196 114 [some (.int (iI v0))] [.int (iI 1)] (mk m q w)) else (rBd (ev d 173 [.ref 26] (mk m q w)) (fun v M' => gv d rR196 35 [some (.int (iI v0))] (v.toList ++ [.int (iI v0)]) M')) := by
  refine Eq.trans (k_i2ne rfl rfl) ?_
  refine ifc ?_ ?_
  · refine Eq.trans (k_con rfl) ?_
    refine Eq.trans (k_go rfl rfl) ?_
    exact rfl
  · refine Eq.trans (k_ild0 rfl) ?_
    refine Eq.trans (k_ldwr rfl) ?_
    exact k_cS1 rfl (by decide) q_173 rfl rfl (bl rfl)
theorem b_196_35 {d : Nat} {m : Nat → Nat → Int} {q : Nat → Nat → Option Nat} {w : Option (Nat → Int64)} {v0 s0 s1 : Int}   : gv d rR196 35 [some (.int (iI v0))] [.int (iI s1), .int (iI s0)] (mk m q w) =
    if iI s0 = iI s1 then (gv d rR196 114 [some (.int (iI v0))] [.int (iI 2)] (mk m q w)) else (rBd (ev d 173 [.ref 28] (mk m q w)) (fun v M' => gv d rR196 49 [some (.int (iI v0))] (v.toList ++ [.int (iI v0)]) M')) := by
  refine Eq.trans (k_i2ne rfl rfl) ?_
  refine ifc ?_ ?_
  · refine Eq.trans (k_con rfl) ?_
    refine Eq.trans (k_go rfl rfl) ?_
    exact rfl
  · refine Eq.trans (k_ild0 rfl) ?_
    refine Eq.trans (k_ldwr rfl) ?_
    exact k_cS1 rfl (by decide) q_173 rfl rfl (bl rfl)
theorem b_196_49 {d : Nat} {m : Nat → Nat → Int} {q : Nat → Nat → Option Nat} {w : Option (Nat → Int64)} {v0 s0 s1 : Int}   : gv d rR196 49 [some (.int (iI v0))] [.int (iI s1), .int (iI s0)] (mk m q w) =
    if iI s0 = iI s1 then (gv d rR196 114 [some (.int (iI v0))] [.int (iI 3)] (mk m q w)) else (rBd (ev d 173 [.ref 18] (mk m q w)) (fun v M' => gv d rR196 62 [some (.int (iI v0))] (v.toList ++ [.int (iI v0)]) M')) := by
  refine Eq.trans (k_i2ne rfl rfl) ?_
  refine ifc ?_ ?_
  · refine Eq.trans (k_con rfl) ?_
    refine Eq.trans (k_go rfl rfl) ?_
    exact rfl
  · refine Eq.trans (k_ild0 rfl) ?_
    refine Eq.trans (k_ldr rfl) ?_
    exact k_cS1 rfl (by decide) q_173 rfl rfl (bl rfl)
theorem b_196_62 {d : Nat} {m : Nat → Nat → Int} {q : Nat → Nat → Option Nat} {w : Option (Nat → Int64)} {v0 s0 s1 : Int}   : gv d rR196 62 [some (.int (iI v0))] [.int (iI s1), .int (iI s0)] (mk m q w) =
    if iI s0 = iI s1 then (gv d rR196 114 [some (.int (iI v0))] [.int (iI 4)] (mk m q w)) else (rBd (ev d 173 [.ref 14] (mk m q w)) (fun v M' => gv d rR196 76 [some (.int (iI v0))] (v.toList ++ [.int (iI v0)]) M')) := by
  refine Eq.trans (k_i2ne rfl rfl) ?_
  refine ifc ?_ ?_
  · refine Eq.trans (k_con rfl) ?_
    refine Eq.trans (k_go rfl rfl) ?_
    exact rfl
  · refine Eq.trans (k_ild0 rfl) ?_
    refine Eq.trans (k_ldwr rfl) ?_
    exact k_cS1 rfl (by decide) q_173 rfl rfl (bl rfl)
theorem b_196_76 {d : Nat} {m : Nat → Nat → Int} {q : Nat → Nat → Option Nat} {w : Option (Nat → Int64)} {v0 s0 s1 : Int}   : gv d rR196 76 [some (.int (iI v0))] [.int (iI s1), .int (iI s0)] (mk m q w) =
    if iI s0 = iI s1 then (gv d rR196 114 [some (.int (iI v0))] [.int (iI 5)] (mk m q w)) else (rBd (ev d 173 [.ref 23] (mk m q w)) (fun v M' => gv d rR196 90 [some (.int (iI v0))] (v.toList ++ [.int (iI v0)]) M')) := by
  refine Eq.trans (k_i2ne rfl rfl) ?_
  refine ifc ?_ ?_
  · refine Eq.trans (k_con rfl) ?_
    refine Eq.trans (k_go rfl rfl) ?_
    exact rfl
  · refine Eq.trans (k_ild0 rfl) ?_
    refine Eq.trans (k_ldwr rfl) ?_
    exact k_cS1 rfl (by decide) q_173 rfl rfl (bl rfl)
theorem b_196_90 {d : Nat} {m : Nat → Nat → Int} {q : Nat → Nat → Option Nat} {w : Option (Nat → Int64)} {v0 s0 s1 : Int}   : gv d rR196 90 [some (.int (iI v0))] [.int (iI s1), .int (iI s0)] (mk m q w) =
    if iI s0 = iI s1 then (gv d rR196 114 [some (.int (iI v0))] [.int (iI 6)] (mk m q w)) else (rBd (ev d 173 [.ref 11] (mk m q w)) (fun v M' => gv d rR196 105 [some (.int (iI v0))] (v.toList ++ [.int (iI v0)]) M')) := by
  refine Eq.trans (k_i2ne rfl rfl) ?_
  refine ifc ?_ ?_
  · refine Eq.trans (k_bip rfl (by decide)) ?_
    refine Eq.trans (k_go rfl rfl) ?_
    exact rfl
  · refine Eq.trans (k_ild0 rfl) ?_
    refine Eq.trans (k_ldwr rfl) ?_
    exact k_cS1 rfl (by decide) q_173 rfl rfl (bl rfl)
theorem b_196_105 {d : Nat} {m : Nat → Nat → Int} {q : Nat → Nat → Option Nat} {w : Option (Nat → Int64)} {u0 : Option Value} {s0 s1 : Int}   : gv d rR196 105 [u0] [.int (iI s1), .int (iI s0)] (mk m q w) =
    if iI s0 = iI s1 then (gv d rR196 114 [u0] [.int (iI 7)] (mk m q w)) else (gv d rR196 114 [u0] [.int (iI (-1))] (mk m q w)) := by
  refine Eq.trans (k_i2ne rfl rfl) ?_
  refine ifc ?_ ?_
  · refine Eq.trans (k_bip rfl (by decide)) ?_
    refine Eq.trans (k_go rfl rfl) ?_
    exact rfl
  · refine Eq.trans (k_con rfl) ?_
    exact rfl
theorem b_196_114 {d : Nat} {m : Nat → Nat → Int} {q : Nat → Nat → Option Nat} {w : Option (Nat → Int64)} {u0 : Option Value} {s0 : Int}   : gv d rR196 114 [u0] [.int (iI s0)] (mk m q w) =
    some (.inl (some (.int (iI s0))), (mk m q w, (0, 0))) := by
  exact k_rtI rfl rfl
theorem e_196 {d : Nat} (hd : 1 ≤ d) {a0 : Value} (M : rMem) (h0 : a0.category = 1) : ev d 196 [a0] M = gv (d - 1) rR196 0 [some a0] [] M := ev_at hd q_196 rfl (by simp [*]) rfl
/-! FanHouseModel.readPlace()I -/
theorem b_197_0 {d : Nat} {m : Nat → Nat → Int} {q : Nat → Nat → Option Nat} {w : Option (Nat → Int64)}   : gv d rR197 0 [some (.ref 363)] [] (mk m q w) =
    rBd (ev d 175 [.ref 363, .int (iI 0), .int (iI ((m 363 15) - 1))] (mk m q w)) (fun v M' => gv d rR197 11 [some (.ref 363)] (v.toList ++ []) M') := by
  refine Eq.trans (k_ald0 rfl) ?_
  refine Eq.trans (k_con rfl) ?_
  refine Eq.trans (k_ald0 rfl) ?_
  refine Eq.trans (k_gtI rfl s_363 rfl (by decide)) ?_
  refine Eq.trans (k_con rfl) ?_
  refine Eq.trans (k_sub rfl) ?_
  exact k_cV2 rfl s_363 q_175 rfl rfl rfl (bl rfl)
theorem b_197_11 {d : Nat} {m : Nat → Nat → Int} {q : Nat → Nat → Option Nat} {w : Option (Nat → Int64)} {u0 : Option Value} {s0 : Int}   : gv d rR197 11 [u0] [.int (iI s0)] (mk m q w) =
    some (.inl (some (.int (iI s0))), (mk m q w, (0, 0))) := by
  exact k_rtI rfl rfl
theorem e_197 {d : Nat} (hd : 1 ≤ d) {a0 : Value} (M : rMem) (h0 : a0.category = 1) : ev d 197 [a0] M = gv (d - 1) rR197 0 [some a0] [] M := ev_at hd q_197 rfl (by simp [*]) rfl
/-! FanHouseModel.readAgain()V -/
theorem b_198_0 {d : Nat} {m : Nat → Nat → Int} {q : Nat → Nat → Option Nat} {w : Option (Nat → Int64)} {u1 u2 : Option Value}   : gv d rR198 0 [some (.ref 363), u1, u2] [] (mk m q w) =
    rBd (ev d 185 [.ref 363, .int (iI 5)] (mk m q w)) (fun v M' => gv d rR198 5 [some (.ref 363), u1, u2] (v.toList ++ []) M') := by
  refine Eq.trans (k_ald0 rfl) ?_
  refine Eq.trans (k_con rfl) ?_
  exact k_cV1 rfl s_363 q_185 rfl rfl rfl (bl rfl)
theorem b_198_5 {d : Nat} {m : Nat → Nat → Int} {q : Nat → Nat → Option Nat} {w : Option (Nat → Int64)} {u1 u2 : Option Value}   : gv d rR198 5 [some (.ref 363), u1, u2] [] (mk m q w) =
    rBd (ev d 175 [.ref 363, .int (iI 0), .int (iI 40)] (mk m q w)) (fun v M' => gv d rR198 12 [some (.ref 363), u1, u2] (v.toList ++ []) M') := by
  refine Eq.trans (k_ald0 rfl) ?_
  refine Eq.trans (k_con rfl) ?_
  refine Eq.trans (k_bip rfl (by decide)) ?_
  exact k_cV2 rfl s_363 q_175 rfl rfl rfl (bl rfl)
theorem b_198_12 {d : Nat} {m : Nat → Nat → Int} {q : Nat → Nat → Option Nat} {w : Option (Nat → Int64)} {u1 u2 : Option Value} {s0 : Int}   : gv d rR198 12 [some (.ref 363), u1, u2] [.int (iI s0)] (mk m q w) =
    rBd (ev d 176 [.ref 363, .int (iI 91)] (mk m q w)) (fun v M' => gv d rR198 19 [some (.ref 363), some (.int (iI s0)), u2] (v.toList ++ []) M') := by
  refine Eq.trans (k_ist1 rfl) ?_
  refine Eq.trans (k_ald0 rfl) ?_
  refine Eq.trans (k_bip rfl (by decide)) ?_
  exact k_cV1 rfl s_363 q_176 rfl rfl rfl (bl rfl)
theorem b_198_19 {d : Nat} {m : Nat → Nat → Int} {q : Nat → Nat → Option Nat} {w : Option (Nat → Int64)} {u2 : Option Value} {v1 : Int}   : gv d rR198 19 [some (.ref 363), some (.int (iI v1)), u2] [] (mk m q w) =
    rBd (ev d 195 [.ref 363, .int (iI 7), .int (iI v1), .int (iI 0), .int (iI 0)] (mk m q w)) (fun v M' => gv d rR198 33 [some (.ref 363), some (.int (iI v1)), some (.int (iI (m 363 28)))] (v.toList ++ []) M') := by
  refine Eq.trans (k_ald0 rfl) ?_
  refine Eq.trans (k_gtI rfl s_363 rfl (by decide)) ?_
  refine Eq.trans (k_ist2 rfl) ?_
  refine Eq.trans (k_ald0 rfl) ?_
  refine Eq.trans (k_bip rfl (by decide)) ?_
  refine Eq.trans (k_ild1 rfl) ?_
  refine Eq.trans (k_con rfl) ?_
  refine Eq.trans (k_con rfl) ?_
  exact k_cV4 rfl s_363 q_195 rfl rfl rfl (bl rfl)
theorem b_198_33 {d : Nat} {m : Nat → Nat → Int} {q : Nat → Nat → Option Nat} {w : Option (Nat → Int64)} {u1 : Option Value} {v2 : Int}   : gv d rR198 33 [some (.ref 363), u1, some (.int (iI v2))] [] (mk m q w) =
    rBd (ev d 167 [.ref 363] (mk m q w)) (fun v M' => gv d rR198 37 [some (.ref 363), u1, some (.int (iI v2))] (v.toList ++ []) M') := by
  refine Eq.trans (k_ald0 rfl) ?_
  exact k_cV0 rfl s_363 q_167 rfl rfl rfl (bl rfl)
theorem b_198_37 {d : Nat} {m : Nat → Nat → Int} {q : Nat → Nat → Option Nat} {w : Option (Nat → Int64)} {u1 : Option Value} {v2 s0 : Int}   : gv d rR198 37 [some (.ref 363), u1, some (.int (iI v2))] [.int (iI s0)] (mk m q w) =
    if iI s0 = iI 0 then (gv d rR198 56 [some (.ref 363), u1, some (.int (iI v2))] [] (mk m q w)) else (rBd (ev d 169 [.ref 363] (mk m q w)) (fun v M' => gv d rR198 44 [some (.ref 363), u1, some (.int (iI v2))] (v.toList ++ []) M')) := by
  refine Eq.trans (k_i1eq rfl rfl) ?_
  refine ifc ?_ ?_
  · exact rfl
  · refine Eq.trans (k_ald0 rfl) ?_
    exact k_cV0 rfl s_363 q_169 rfl rfl rfl (bl rfl)
theorem b_198_44 {d : Nat} {m : Nat → Nat → Int} {q : Nat → Nat → Option Nat} {w : Option (Nat → Int64)} {u1 : Option Value} {v2 s0 : Int}   : gv d rR198 44 [some (.ref 363), u1, some (.int (iI v2))] [.int (iI s0)] (mk m q w) =
    if iI s0 = iI 93 then (gv d rR198 56 [some (.ref 363), u1, some (.int (iI v2))] [] (mk m q w)) else (rBd (ev d 199 [.ref 363] (mk m q w)) (fun v M' => gv d rR198 53 [some (.ref 363), u1, some (.int (iI v2))] (v.toList ++ []) M')) := by
  refine Eq.trans (k_bip rfl (by decide)) ?_
  refine Eq.trans (k_i2eq rfl rfl) ?_
  refine ifc ?_ ?_
  · exact rfl
  · refine Eq.trans (k_ald0 rfl) ?_
    exact k_cV0 rfl s_363 q_199 rfl rfl rfl (bl rfl)
theorem b_198_53 {d : Nat} {m : Nat → Nat → Int} {q : Nat → Nat → Option Nat} {w : Option (Nat → Int64)} {u1 : Option Value} {v2 : Int}   : gv d rR198 53 [some (.ref 363), u1, some (.int (iI v2))] [] (mk m q w) =
    gv d rR198 33 [some (.ref 363), u1, some (.int (iI v2))] [] (mk m q w) := by
  refine Eq.trans (k_go rfl rfl) ?_
  exact rfl
theorem b_198_56 {d : Nat} {m : Nat → Nat → Int} {q : Nat → Nat → Option Nat} {w : Option (Nat → Int64)} {u1 : Option Value} {v2 : Int}   : gv d rR198 56 [some (.ref 363), u1, some (.int (iI v2))] [] (mk m q w) =
    rBd (ev d 176 [.ref 363, .int (iI 93)] (mk m q w)) (fun v M' => gv d rR198 62 [some (.ref 363), u1, some (.int (iI v2))] (v.toList ++ []) M') := by
  refine Eq.trans (k_ald0 rfl) ?_
  refine Eq.trans (k_bip rfl (by decide)) ?_
  exact k_cV1 rfl s_363 q_176 rfl rfl rfl (bl rfl)
theorem b_198_62 {d : Nat} {m : Nat → Nat → Int} {q : Nat → Nat → Option Nat} {w : Option (Nat → Int64)} {u1 : Option Value} {v2 : Int}   : gv d rR198 62 [some (.ref 363), u1, some (.int (iI v2))] [] (mk m q w) =
    rBd (ev d 167 [.ref 363] (mk (wr m 363 7 ((m 363 7) - 1)) q w)) (fun v M' => gv d rR198 76 [some (.ref 363), u1, some (.int (iI v2))] (v.toList ++ []) M') := by
  refine Eq.trans (k_ald0 rfl) ?_
  refine Eq.trans (k_dup rfl rfl) ?_
  refine Eq.trans (k_gtI rfl s_363 rfl (by decide)) ?_
  refine Eq.trans (k_con rfl) ?_
  refine Eq.trans (k_sub rfl) ?_
  refine Eq.trans (k_ptI rfl s_363 rfl rfl) ?_
  refine Eq.trans (k_ald0 rfl) ?_
  exact k_cV0 rfl s_363 q_167 rfl rfl rfl (bl rfl)
theorem b_198_76 {d : Nat} {m : Nat → Nat → Int} {q : Nat → Nat → Option Nat} {w : Option (Nat → Int64)} {u1 : Option Value} {v2 s0 : Int}   : gv d rR198 76 [some (.ref 363), u1, some (.int (iI v2))] [.int (iI s0)] (mk m q w) =
    if iI s0 = iI 0 then (gv d rR198 91 [some (.ref 363), u1, some (.int (iI v2))] [] (mk m q w)) else (gv d rR198 79 [some (.ref 363), u1, some (.int (iI v2))] [] (mk m q w)) := by
  refine Eq.trans (k_i1eq rfl rfl) ?_
  refine ifc ?_ ?_
  · exact rfl
  · exact rfl
theorem b_198_79 {d : Nat} {m : Nat → Nat → Int} {q : Nat → Nat → Option Nat} {w : Option (Nat → Int64)} {u1 : Option Value} {v2 : Int}  (g0 : 0 ≤ (v2 + 2)) (g1 : (v2 + 2) < 200) : gv d rR198 79 [some (.ref 363), u1, some (.int (iI v2))] [] (mk m q w) =
    gv d rR198 91 [some (.ref 363), u1, some (.int (iI v2))] [] (mk (wr m 374 (Int.toNat (v2 + 2)) (m 363 28)) q w) := by
  refine Eq.trans (k_ald0 rfl) ?_
  refine Eq.trans (k_gtR rfl s_363 rfl (by decide)) ?_
  refine Eq.trans (k_ild2 rfl) ?_
  refine Eq.trans (k_con rfl) ?_
  refine Eq.trans (k_add rfl) ?_
  refine Eq.trans (k_ald0 rfl) ?_
  refine Eq.trans (k_gtI rfl s_363 rfl (by decide)) ?_
  refine Eq.trans (k_iast rfl s_374 (bl rfl) g0 g1) ?_
  exact rfl
theorem b_198_91 {d : Nat} {m : Nat → Nat → Int} {q : Nat → Nat → Option Nat} {w : Option (Nat → Int64)} {u0 u1 u2 : Option Value}   : gv d rR198 91 [u0, u1, u2] [] (mk m q w) =
    some (.inl none, (mk m q w, (0, 0))) := by
  exact k_rtV rfl rfl
theorem e_198 {d : Nat} (hd : 1 ≤ d) {a0 : Value} (M : rMem) (h0 : a0.category = 1) : ev d 198 [a0] M = gv (d - 1) rR198 0 [some a0, none, none] [] M := ev_at hd q_198 rfl (by simp [*]) rfl
/-! FanHouseModel.readStep()V -/
theorem b_199_0 {d : Nat} {m : Nat → Nat → Int} {q : Nat → Nat → Option Nat} {w : Option (Nat → Int64)} {u1 u2 u3 : Option Value}   : gv d rR199 0 [some (.ref 363), u1, u2, u3] [] (mk m q w) =
    rBd (ev d 172 [.ref 363] (mk m q w)) (fun v M' => gv d rR199 4 [some (.ref 363), u1, u2, u3] (v.toList ++ []) M') := by
  refine Eq.trans (k_ald0 rfl) ?_
  exact k_cV0 rfl s_363 q_172 rfl rfl rfl (bl rfl)
theorem b_199_4 {d : Nat} {m : Nat → Nat → Int} {q : Nat → Nat → Option Nat} {w : Option (Nat → Int64)} {u1 u2 u3 : Option Value} {s0 : Int}   : gv d rR199 4 [some (.ref 363), u1, u2, u3] [.int (iI s0)] (mk m q w) =
    rBd (ev d 196 [.int (iI s0)] (mk m q w)) (fun v M' => gv d rR199 7 [some (.ref 363), u1, u2, u3] (v.toList ++ []) M') := by
  exact k_cS1 rfl (by decide) q_196 rfl rfl (bl rfl)
theorem b_199_7 {d : Nat} {m : Nat → Nat → Int} {q : Nat → Nat → Option Nat} {w : Option (Nat → Int64)} {u1 u2 u3 : Option Value} {s0 : Int}   : gv d rR199 7 [some (.ref 363), u1, u2, u3] [.int (iI s0)] (mk m q w) =
    if iI s0 = iI (-1) then (rBd (ev d 168 [.ref 363, .int (iI 1), .int (iI (m 363 4))] (mk m q w)) (fun v M' => gv d rR199 22 [some (.ref 363), some (.int (iI s0)), u2, u3] (v.toList ++ []) M')) else (if iI s0 = iI 7 then (rBd (ev d 198 [.ref 363] (mk m q w)) (fun v M' => gv d rR199 35 [some (.ref 363), some (.int (iI s0)), u2, u3] (v.toList ++ []) M')) else (rBd (ev d 174 [.ref 363] (mk m q w)) (fun v M' => gv d rR199 42 [some (.ref 363), some (.int (iI s0)), u2, u3] (v.toList ++ []) M'))) := by
  refine Eq.trans (k_ist1 rfl) ?_
  refine Eq.trans (k_ild1 rfl) ?_
  refine Eq.trans (k_con rfl) ?_
  refine Eq.trans (k_i2ne rfl rfl) ?_
  refine ifc ?_ ?_
  · refine Eq.trans (k_ald0 rfl) ?_
    refine Eq.trans (k_con rfl) ?_
    refine Eq.trans (k_ald0 rfl) ?_
    refine Eq.trans (k_gtI rfl s_363 rfl (by decide)) ?_
    exact k_cV2 rfl s_363 q_168 rfl rfl rfl (bl rfl)
  · refine Eq.trans (k_ild1 rfl) ?_
    refine Eq.trans (k_bip rfl (by decide)) ?_
    refine Eq.trans (k_i2ne rfl rfl) ?_
    refine ifc ?_ ?_
    · refine Eq.trans (k_ald0 rfl) ?_
      exact k_cV0 rfl s_363 q_198 rfl rfl rfl (bl rfl)
    · refine Eq.trans (k_ald0 rfl) ?_
      exact k_cV0 rfl s_363 q_174 rfl rfl rfl (bl rfl)
theorem b_199_22 {d : Nat} {m : Nat → Nat → Int} {q : Nat → Nat → Option Nat} {w : Option (Nat → Int64)} {u1 u2 u3 : Option Value}   : gv d rR199 22 [some (.ref 363), u1, u2, u3] [] (mk m q w) =
    gv d rR199 144 [some (.ref 363), u1, u2, u3] [] (mk m q w) := by
  refine Eq.trans (k_go rfl rfl) ?_
  exact rfl
theorem b_199_35 {d : Nat} {m : Nat → Nat → Int} {q : Nat → Nat → Option Nat} {w : Option (Nat → Int64)} {u1 u2 u3 : Option Value}   : gv d rR199 35 [some (.ref 363), u1, u2, u3] [] (mk m q w) =
    gv d rR199 144 [some (.ref 363), u1, u2, u3] [] (mk m q w) := by
  refine Eq.trans (k_go rfl rfl) ?_
  exact rfl
theorem b_199_42 {d : Nat} {m : Nat → Nat → Int} {q : Nat → Nat → Option Nat} {w : Option (Nat → Int64)} {u2 u3 : Option Value} {v1 : Int}   : gv d rR199 42 [some (.ref 363), some (.int (iI v1)), u2, u3] [] (mk m q w) =
    if iI v1 = iI 0 then (rBd (ev d 175 [.ref 363, .int (iI 0), .int (iI 3)] (mk m q w)) (fun v M' => gv d rR199 52 [some (.ref 363), some (.int (iI v1)), u2, u3] (v.toList ++ []) M')) else (if iI v1 = iI 2 then (gv d rR199 70 [some (.ref 363), some (.int (iI v1)), u2, u3] [] (mk m q w)) else (if iI v1 = iI 3 then (gv d rR199 70 [some (.ref 363), some (.int (iI v1)), u2, u3] [] (mk m q w)) else (if iI v1 = iI 4 then (gv d rR199 70 [some (.ref 363), some (.int (iI v1)), u2, u3] [] (mk m q w)) else (gv d rR199 78 [some (.ref 363), some (.int (iI v1)), u2, u3] [.int (iI 0)] (mk m q w))))) := by
  refine Eq.trans (k_ild1 rfl) ?_
  refine Eq.trans (k_i1ne rfl rfl) ?_
  refine ifc ?_ ?_
  · refine Eq.trans (k_ald0 rfl) ?_
    refine Eq.trans (k_con rfl) ?_
    refine Eq.trans (k_con rfl) ?_
    exact k_cV2 rfl s_363 q_175 rfl rfl rfl (bl rfl)
  · refine Eq.trans (k_ild1 rfl) ?_
    refine Eq.trans (k_con rfl) ?_
    refine Eq.trans (k_i2eq rfl rfl) ?_
    refine ifc ?_ ?_
    · exact rfl
    · refine Eq.trans (k_ild1 rfl) ?_
      refine Eq.trans (k_con rfl) ?_
      refine Eq.trans (k_i2eq rfl rfl) ?_
      refine ifc ?_ ?_
      · exact rfl
      · refine Eq.trans (k_ild1 rfl) ?_
        refine Eq.trans (k_con rfl) ?_
        refine Eq.trans (k_i2ne rfl rfl) ?_
        refine ifc ?_ ?_
        · exact rfl
        · refine Eq.trans (k_con rfl) ?_
          exact rfl
theorem b_199_52 {d : Nat} {m : Nat → Nat → Int} {q : Nat → Nat → Option Nat} {w : Option (Nat → Int64)} {u2 u3 : Option Value} {v1 s0 : Int}   : gv d rR199 52 [some (.ref 363), some (.int (iI v1)), u2, u3] [.int (iI s0)] (mk m q w) =
    gv d rR199 78 [some (.ref 363), some (.int (iI v1)), u2, u3] [.int (iI s0)] (mk m q w) := by
  refine Eq.trans (k_go rfl rfl) ?_
  exact rfl
theorem b_199_70 {d : Nat} {m : Nat → Nat → Int} {q : Nat → Nat → Option Nat} {w : Option (Nat → Int64)} {u2 u3 : Option Value} {v1 : Int}   : gv d rR199 70 [some (.ref 363), some (.int (iI v1)), u2, u3] [] (mk m q w) =
    rBd (ev d 197 [.ref 363] (mk m q w)) (fun v M' => gv d rR199 74 [some (.ref 363), some (.int (iI v1)), u2, u3] (v.toList ++ []) M') := by
  refine Eq.trans (k_ald0 rfl) ?_
  exact k_cV0 rfl s_363 q_197 rfl rfl rfl (bl rfl)
theorem b_199_74 {d : Nat} {m : Nat → Nat → Int} {q : Nat → Nat → Option Nat} {w : Option (Nat → Int64)} {u2 u3 : Option Value} {v1 s0 : Int}   : gv d rR199 74 [some (.ref 363), some (.int (iI v1)), u2, u3] [.int (iI s0)] (mk m q w) =
    gv d rR199 78 [some (.ref 363), some (.int (iI v1)), u2, u3] [.int (iI s0)] (mk m q w) := by
  refine Eq.trans (k_go rfl rfl) ?_
  exact rfl
theorem b_199_78 {d : Nat} {m : Nat → Nat → Int} {q : Nat → Nat → Option Nat} {w : Option (Nat → Int64)} {u2 u3 : Option Value} {v1 s0 : Int}   : gv d rR199 78 [some (.ref 363), some (.int (iI v1)), u2, u3] [.int (iI s0)] (mk m q w) =
    if iI v1 = iI 0 then (rBd (ev d 175 [.ref 363, .int (iI 1), .int (iI 7)] (mk m q w)) (fun v M' => gv d rR199 90 [some (.ref 363), some (.int (iI v1)), some (.int (iI s0)), u3] (v.toList ++ []) M')) else (if iI v1 = iI 2 then (rBd (ev d 197 [.ref 363] (mk m q w)) (fun v M' => gv d rR199 102 [some (.ref 363), some (.int (iI v1)), some (.int (iI s0)), u3] (v.toList ++ []) M')) else (if iI v1 = iI 4 then (rBd (ev d 175 [.ref 363, .int (iI 0), .int (iI 3)] (mk m q w)) (fun v M' => gv d rR199 116 [some (.ref 363), some (.int (iI v1)), some (.int (iI s0)), u3] (v.toList ++ []) M')) else (gv d rR199 120 [some (.ref 363), some (.int (iI v1)), some (.int (iI s0)), u3] [.int (iI 0)] (mk m q w)))) := by
  refine Eq.trans (k_ist2 rfl) ?_
  refine Eq.trans (k_ild1 rfl) ?_
  refine Eq.trans (k_i1ne rfl rfl) ?_
  refine ifc ?_ ?_
  · refine Eq.trans (k_ald0 rfl) ?_
    refine Eq.trans (k_con rfl) ?_
    refine Eq.trans (k_bip rfl (by decide)) ?_
    exact k_cV2 rfl s_363 q_175 rfl rfl rfl (bl rfl)
  · refine Eq.trans (k_ild1 rfl) ?_
    refine Eq.trans (k_con rfl) ?_
    refine Eq.trans (k_i2ne rfl rfl) ?_
    refine ifc ?_ ?_
    · refine Eq.trans (k_ald0 rfl) ?_
      exact k_cV0 rfl s_363 q_197 rfl rfl rfl (bl rfl)
    · refine Eq.trans (k_ild1 rfl) ?_
      refine Eq.trans (k_con rfl) ?_
      refine Eq.trans (k_i2ne rfl rfl) ?_
      refine ifc ?_ ?_
      · refine Eq.trans (k_ald0 rfl) ?_
        refine Eq.trans (k_con rfl) ?_
        refine Eq.trans (k_con rfl) ?_
        exact k_cV2 rfl s_363 q_175 rfl rfl rfl (bl rfl)
      · refine Eq.trans (k_con rfl) ?_
        exact rfl
theorem b_199_90 {d : Nat} {m : Nat → Nat → Int} {q : Nat → Nat → Option Nat} {w : Option (Nat → Int64)} {u3 : Option Value} {v1 v2 s0 : Int}   : gv d rR199 90 [some (.ref 363), some (.int (iI v1)), some (.int (iI v2)), u3] [.int (iI s0)] (mk m q w) =
    gv d rR199 120 [some (.ref 363), some (.int (iI v1)), some (.int (iI v2)), u3] [.int (iI s0)] (mk m q w) := by
  refine Eq.trans (k_go rfl rfl) ?_
  exact rfl
theorem b_199_102 {d : Nat} {m : Nat → Nat → Int} {q : Nat → Nat → Option Nat} {w : Option (Nat → Int64)} {u3 : Option Value} {v1 v2 s0 : Int}   : gv d rR199 102 [some (.ref 363), some (.int (iI v1)), some (.int (iI v2)), u3] [.int (iI s0)] (mk m q w) =
    gv d rR199 120 [some (.ref 363), some (.int (iI v1)), some (.int (iI v2)), u3] [.int (iI s0)] (mk m q w) := by
  refine Eq.trans (k_go rfl rfl) ?_
  exact rfl
theorem b_199_116 {d : Nat} {m : Nat → Nat → Int} {q : Nat → Nat → Option Nat} {w : Option (Nat → Int64)} {u3 : Option Value} {v1 v2 s0 : Int}   : gv d rR199 116 [some (.ref 363), some (.int (iI v1)), some (.int (iI v2)), u3] [.int (iI s0)] (mk m q w) =
    gv d rR199 120 [some (.ref 363), some (.int (iI v1)), some (.int (iI v2)), u3] [.int (iI s0)] (mk m q w) := by
  refine Eq.trans (k_go rfl rfl) ?_
  exact rfl
theorem b_199_120 {d : Nat} {m : Nat → Nat → Int} {q : Nat → Nat → Option Nat} {w : Option (Nat → Int64)} {u3 : Option Value} {v1 v2 s0 : Int}   : gv d rR199 120 [some (.ref 363), some (.int (iI v1)), some (.int (iI v2)), u3] [.int (iI s0)] (mk m q w) =
    if iI v1 = iI 4 then (rBd (ev d 175 [.ref 363, .int (iI 0), .int (iI 15)] (mk m q w)) (fun v M' => gv d rR199 137 [some (.ref 363), some (.int (iI v1)), some (.int (iI v2)), some (.int (iI s0))] (v.toList ++ [.int (iI s0), .int (iI v2), .int (iI v1), .ref 363]) M')) else (gv d rR199 141 [some (.ref 363), some (.int (iI v1)), some (.int (iI v2)), some (.int (iI s0))] [.int (iI 0), .int (iI s0), .int (iI v2), .int (iI v1), .ref 363] (mk m q w)) := by
  refine Eq.trans (k_ist3 rfl) ?_
  refine Eq.trans (k_ald0 rfl) ?_
  refine Eq.trans (k_ild1 rfl) ?_
  refine Eq.trans (k_ild2 rfl) ?_
  refine Eq.trans (k_ild3 rfl) ?_
  refine Eq.trans (k_ild1 rfl) ?_
  refine Eq.trans (k_con rfl) ?_
  refine Eq.trans (k_i2ne rfl rfl) ?_
  refine ifc ?_ ?_
  · refine Eq.trans (k_ald0 rfl) ?_
    refine Eq.trans (k_con rfl) ?_
    refine Eq.trans (k_bip rfl (by decide)) ?_
    exact k_cV2 rfl s_363 q_175 rfl rfl rfl (bl rfl)
  · refine Eq.trans (k_con rfl) ?_
    exact rfl
theorem b_199_137 {d : Nat} {m : Nat → Nat → Int} {q : Nat → Nat → Option Nat} {w : Option (Nat → Int64)} {u1 u2 u3 : Option Value} {s1 s2 s3 s4 : Int}   : gv d rR199 137 [some (.ref 363), u1, u2, u3] [.int (iI s4), .int (iI s3), .int (iI s2), .int (iI s1), .ref 363] (mk m q w) =
    gv d rR199 141 [some (.ref 363), u1, u2, u3] [.int (iI s4), .int (iI s3), .int (iI s2), .int (iI s1), .ref 363] (mk m q w) := by
  refine Eq.trans (k_go rfl rfl) ?_
  exact rfl
theorem b_199_141 {d : Nat} {m : Nat → Nat → Int} {q : Nat → Nat → Option Nat} {w : Option (Nat → Int64)} {u1 u2 u3 : Option Value} {s1 s2 s3 s4 : Int}   : gv d rR199 141 [some (.ref 363), u1, u2, u3] [.int (iI s4), .int (iI s3), .int (iI s2), .int (iI s1), .ref 363] (mk m q w) =
    rBd (ev d 195 [.ref 363, .int (iI s1), .int (iI s2), .int (iI s3), .int (iI s4)] (mk m q w)) (fun v M' => gv d rR199 144 [some (.ref 363), u1, u2, u3] (v.toList ++ []) M') := by
  exact k_cV4 rfl s_363 q_195 rfl rfl rfl (bl rfl)
theorem b_199_144 {d : Nat} {m : Nat → Nat → Int} {q : Nat → Nat → Option Nat} {w : Option (Nat → Int64)} {u1 u2 u3 : Option Value}   : gv d rR199 144 [some (.ref 363), u1, u2, u3] [] (mk m q w) =
    rBd (ev d 176 [.ref 363, .int (iI 59)] (mk m q w)) (fun v M' => gv d rR199 150 [some (.ref 363), u1, u2, u3] (v.toList ++ []) M') := by
  refine Eq.trans (k_ald0 rfl) ?_
  refine Eq.trans (k_bip rfl (by decide)) ?_
  exact k_cV1 rfl s_363 q_176 rfl rfl rfl (bl rfl)
theorem b_199_150 {d : Nat} {m : Nat → Nat → Int} {q : Nat → Nat → Option Nat} {w : Option (Nat → Int64)} {u0 u1 u2 u3 : Option Value}   : gv d rR199 150 [u0, u1, u2, u3] [] (mk m q w) =
    some (.inl none, (mk m q w, (0, 0))) := by
  exact k_rtV rfl rfl
theorem e_199 {d : Nat} (hd : 1 ≤ d) {a0 : Value} (M : rMem) (h0 : a0.category = 1) : ev d 199 [a0] M = gv (d - 1) rR199 0 [some a0, none, none, none] [] M := ev_at hd q_199 rfl (by simp [*]) rfl
