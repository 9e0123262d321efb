/-! FanHouse$Ways.firstAt(I)I -/
theorem b_94_0 {d : Nat} {m : Nat → Nat → Int} {q : Nat → Nat → Option Nat} {w : Option (Nat → Int64)} {u2 u3 u4 : Option Value} {v1 : Int}   : gv d rR94 0 [some (.ref 164), some (.int (iI v1)), u2, u3, u4] [] (mk m q w) =
    gv d rR94 4 [some (.ref 164), some (.int (iI v1)), some (.int (iI 0)), some (.int (iI 0)), u4] [] (mk m q w) := by
  refine Eq.trans (k_con rfl) ?_
  refine Eq.trans (k_ist2 rfl) ?_
  refine Eq.trans (k_con rfl) ?_
  refine Eq.trans (k_ist3 rfl) ?_
  exact rfl
theorem b_94_4 {d : Nat} {m : Nat → Nat → Int} {q : Nat → Nat → Option Nat} {w : Option (Nat → Int64)} {u4 : Option Value} {v1 v2 v3 : Int}   : gv d rR94 4 [some (.ref 164), some (.int (iI v1)), some (.int (iI v2)), some (.int (iI v3)), u4] [] (mk m q w) =
    if iI v3 < iI v1 then (rBd (ev d 93 [.ref 164, .int (iI v2), .int (iI v3)] (mk m q w)) (fun v M' => gv d rR94 17 [some (.ref 164), some (.int (iI v1)), some (.int (iI v2)), some (.int (iI v3)), u4] (v.toList ++ [.int (iI 1), .int (iI v2)]) M')) else (rBd (ev d 93 [.ref 164, .int (iI v2), .int (iI v1)] (mk m q w)) (fun v M' => gv d rR94 32 [some (.ref 164), some (.int (iI v1)), some (.int (iI v2)), some (.int (iI v3)), u4] (v.toList ++ []) M')) := by
  refine Eq.trans (k_ild3 rfl) ?_
  refine Eq.trans (k_ild1 rfl) ?_
  refine Eq.trans (k_i2ge rfl rfl) ?_
  refine ifc ?_ ?_
  · refine Eq.trans (k_ild2 rfl) ?_
    refine Eq.trans (k_con rfl) ?_
    refine Eq.trans (k_ald0 rfl) ?_
    refine Eq.trans (k_ild2 rfl) ?_
    refine Eq.trans (k_ild3 rfl) ?_
    exact k_cV2 rfl s_164 q_93 rfl rfl rfl (bl rfl)
  · refine Eq.trans (k_ald0 rfl) ?_
    refine Eq.trans (k_ild2 rfl) ?_
    refine Eq.trans (k_ild1 rfl) ?_
    exact k_cV2 rfl s_164 q_93 rfl rfl rfl (bl rfl)
theorem b_94_17 {d : Nat} {m : Nat → Nat → Int} {q : Nat → Nat → Option Nat} {w : Option (Nat → Int64)} {u2 u4 : Option Value} {v1 v3 s0 s1 s2 : Int}   : gv d rR94 17 [some (.ref 164), some (.int (iI v1)), u2, some (.int (iI v3)), u4] [.int (iI s2), .int (iI s1), .int (iI s0)] (mk m q w) =
    gv d rR94 4 [some (.ref 164), some (.int (iI v1)), some (.int (iI (zOr s0 (zShl s1 s2)))), some (.int (iI (v3 + 1))), u4] [] (mk m q w) := by
  refine Eq.trans (k_shl rfl) ?_
  refine Eq.trans (k_ior rfl) ?_
  refine Eq.trans (k_ist2 rfl) ?_
  refine Eq.trans (k_inc3 rfl) ?_
  refine Eq.trans (k_go rfl rfl) ?_
  exact rfl
theorem b_94_32 {d : Nat} {m : Nat → Nat → Int} {q : Nat → Nat → Option Nat} {w : Option (Nat → Int64)} {u2 u3 u4 : Option Value} {v1 s0 : Int}   : gv d rR94 32 [some (.ref 164), some (.int (iI v1)), u2, u3, u4] [.int (iI s0)] (mk m q w) =
    rBd (ev d 91 [.ref 164, .int (iI v1), .int (iI s0)] (mk m q w)) (fun v M' => gv d rR94 39 [some (.ref 164), some (.int (iI v1)), u2, some (.int (iI s0)), u4] (v.toList ++ []) M') := by
  refine Eq.trans (k_ist3 rfl) ?_
  refine Eq.trans (k_ald0 rfl) ?_
  refine Eq.trans (k_ild1 rfl) ?_
  refine Eq.trans (k_ild3 rfl) ?_
  exact k_cV2 rfl s_164 q_91 rfl rfl rfl (bl rfl)
theorem b_94_39 {d : Nat} {m : Nat → Nat → Int} {q : Nat → Nat → Option Nat} {w : Option (Nat → Int64)} {u0 u1 u2 u4 : Option Value} {v3 s0 : Int}   : gv d rR94 39 [u0, u1, u2, some (.int (iI v3)), u4] [.int (iI s0)] (mk m q w) =
    if iI (zAnd s0 1) = iI 0 then (gv d rR94 49 [u0, u1, u2, some (.int (iI v3)), u4] [.int (iI 0)] (mk m q w)) else (gv d rR94 49 [u0, u1, u2, some (.int (iI v3)), u4] [.int (iI 1)] (mk m q w)) := by
  refine Eq.trans (k_con rfl) ?_
  refine Eq.trans (k_and rfl) ?_
  refine Eq.trans (k_i1eq rfl rfl) ?_
  refine ifc ?_ ?_
  · refine Eq.trans (k_con rfl) ?_
    exact rfl
  · refine Eq.trans (k_con rfl) ?_
    refine Eq.trans (k_go rfl rfl) ?_
    exact rfl
theorem b_94_49 {d : Nat} {m : Nat → Nat → Int} {q : Nat → Nat → Option Nat} {w : Option (Nat → Int64)} {u0 u1 u2 u4 : Option Value} {v3 s0 : Int}   : gv d rR94 49 [u0, u1, u2, some (.int (iI v3)), u4] [.int (iI s0)] (mk m q w) =
    if iI s0 = iI 0 then (gv d rR94 64 [u0, u1, u2, some (.int (iI v3)), some (.int (iI s0))] [.int (iI 1), .int (iI (2 * v3))] (mk m q w)) else (gv d rR94 64 [u0, u1, u2, some (.int (iI v3)), some (.int (iI s0))] [.int (iI 0), .int (iI (2 * v3))] (mk m q w)) := by
  refine Eq.trans (k_ist4 rfl) ?_
  refine Eq.trans (k_con rfl) ?_
  refine Eq.trans (k_ild3 rfl) ?_
  refine Eq.trans (k_mul rfl) ?_
  refine Eq.trans (k_ild4 rfl) ?_
  refine Eq.trans (k_i1eq rfl rfl) ?_
  refine ifc ?_ ?_
  · refine Eq.trans (k_con rfl) ?_
    exact rfl
  · refine Eq.trans (k_con rfl) ?_
    refine Eq.trans (k_go rfl rfl) ?_
    exact rfl
theorem b_94_64 {d : Nat} {m : Nat → Nat → Int} {q : Nat → Nat → Option Nat} {w : Option (Nat → Int64)} {u0 u1 u2 u3 u4 : Option Value} {s0 s1 : Int}   : gv d rR94 64 [u0, u1, u2, u3, u4] [.int (iI s1), .int (iI s0)] (mk m q w) =
    some (.inl (some (.int (iI (s0 + s1)))), (mk m q w, (0, 0))) := by
  refine Eq.trans (k_add rfl) ?_
  exact k_rtI rfl rfl
theorem e_94 {d : Nat} (hd : 1 ≤ d) {a0 a1 : Value} (M : rMem) (h0 : a0.category = 1) (h1 : a1.category = 1) : ev d 94 [a0, a1] M = gv (d - 1) rR94 0 [some a0, some a1, none, none, none] [] M := ev_at hd q_94 rfl (by simp [*]) rfl
/-! FanHouse$Ways.fewestHalves()I -/
theorem b_95_0 {d : Nat} {m : Nat → Nat → Int} {q : Nat → Nat → Option Nat} {w : Option (Nat → Int64)} {u1 u2 u3 u4 u5 u6 : Option Value}  (g0 : 0 ≤ ((zShl 1 (m 164 1)) - 1)) (g1 : ((zShl 1 (m 164 1)) - 1) < 128) : gv d rR95 0 [some (.ref 164), u1, u2, u3, u4, u5, u6] [] (mk m q w) =
    gv d rR95 20 [some (.ref 164), some (.int (iI ((zShl 1 (m 164 1)) - 1))), some (.int (iI (((zShl 1 (m 164 1)) - 1) - 1))), u3, u4, u5, u6] [] (mk (wr m 169 (Int.toNat ((zShl 1 (m 164 1)) - 1)) 0) q w) := by
  refine Eq.trans (k_con rfl) ?_
  refine Eq.trans (k_ald0 rfl) ?_
  refine Eq.trans (k_gtI rfl s_164 rfl (by decide)) ?_
  refine Eq.trans (k_shl rfl) ?_
  refine Eq.trans (k_con rfl) ?_
  refine Eq.trans (k_sub rfl) ?_
  refine Eq.trans (k_ist1 rfl) ?_
  refine Eq.trans (k_ald0 rfl) ?_
  refine Eq.trans (k_gtR rfl s_164 rfl (by decide)) ?_
  refine Eq.trans (k_ild1 rfl) ?_
  refine Eq.trans (k_con rfl) ?_
  refine Eq.trans (k_iast rfl s_169 (bl rfl) g0 g1) ?_
  refine Eq.trans (k_ild1 rfl) ?_
  refine Eq.trans (k_con rfl) ?_
  refine Eq.trans (k_sub rfl) ?_
  refine Eq.trans (k_ist2 rfl) ?_
  exact rfl
theorem b_95_20 {d : Nat} {m : Nat → Nat → Int} {q : Nat → Nat → Option Nat} {w : Option (Nat → Int64)} {u1 u3 u4 u5 u6 : Option Value} {v2 : Int}   : gv d rR95 20 [some (.ref 164), u1, some (.int (iI v2)), u3, u4, u5, u6] [] (mk m q w) =
    if iI v2 < iI 0 then (some (.inl (some (.int (iI (m 169 0)))), (mk m q w, (0, 0)))) else (rBd (ev d 38 [.int (iI v2)] (mk m q w)) (fun v M' => gv d rR95 28 [some (.ref 164), u1, some (.int (iI v2)), u3, u4, u5, u6] (v.toList ++ []) M')) := by
  refine Eq.trans (k_ild2 rfl) ?_
  refine Eq.trans (k_i1lt rfl rfl) ?_
  refine ifc ?_ ?_
  · refine Eq.trans (k_ald0 rfl) ?_
    refine Eq.trans (k_gtR rfl s_164 rfl (by decide)) ?_
    refine Eq.trans (k_con rfl) ?_
    refine Eq.trans (k_iald rfl s_169 (bl rfl) (by decide) (by decide)) ?_
    exact k_rtI rfl rfl
  · refine Eq.trans (k_ild2 rfl) ?_
    exact k_cS1 rfl (by decide) q_38 rfl rfl (bl rfl)
theorem b_95_28 {d : Nat} {m : Nat → Nat → Int} {q : Nat → Nat → Option Nat} {w : Option (Nat → Int64)} {u1 u3 u4 u5 u6 : Option Value} {v2 s0 : Int}   : gv d rR95 28 [some (.ref 164), u1, some (.int (iI v2)), u3, u4, u5, u6] [.int (iI s0)] (mk m q w) =
    gv d rR95 37 [some (.ref 164), u1, some (.int (iI v2)), some (.int (iI s0)), some (.int (iI 1000)), some (.int (iI 0)), u6] [] (mk m q w) := by
  refine Eq.trans (k_ist3 rfl) ?_
  refine Eq.trans (k_sip rfl (by decide)) ?_
  refine Eq.trans (k_ist4 rfl) ?_
  refine Eq.trans (k_con rfl) ?_
  refine Eq.trans (k_ist5 rfl) ?_
  exact rfl
theorem b_95_37 {d : Nat} {m : Nat → Nat → Int} {q : Nat → Nat → Option Nat} {w : Option (Nat → Int64)} {u1 u6 : Option Value} {v2 v3 v4 v5 : Int}   : gv d rR95 37 [some (.ref 164), u1, some (.int (iI v2)), some (.int (iI v3)), some (.int (iI v4)), some (.int (iI v5)), u6] [] (mk m q w) =
    if iI v5 < iI (m 164 1) then (if iI (zAnd (zShr v2 v5) 1) = iI 0 then (rBd (ev d 91 [.ref 164, .int (iI v3), .int (iI v5)] (mk m q w)) (fun v M' => gv d rR95 62 [some (.ref 164), u1, some (.int (iI v2)), some (.int (iI v3)), some (.int (iI v4)), some (.int (iI v5)), u6] (v.toList ++ []) M')) else (gv d rR95 93 [some (.ref 164), u1, some (.int (iI v2)), some (.int (iI v3)), some (.int (iI v4)), some (.int (iI v5)), u6] [] (mk m q w))) else (gv d rR95 99 [some (.ref 164), u1, some (.int (iI v2)), some (.int (iI v3)), some (.int (iI v4)), some (.int (iI v5)), u6] [] (mk m q w)) := by
  refine Eq.trans (k_ild5 rfl) ?_
  refine Eq.trans (k_ald0 rfl) ?_
  refine Eq.trans (k_gtI rfl s_164 rfl (by decide)) ?_
  refine Eq.trans (k_i2ge rfl rfl) ?_
  refine ifc ?_ ?_
  · refine Eq.trans (k_ild2 rfl) ?_
    refine Eq.trans (k_ild5 rfl) ?_
    refine Eq.trans (k_shr rfl) ?_
    refine Eq.trans (k_con rfl) ?_
    refine Eq.trans (k_and rfl) ?_
    refine Eq.trans (k_i1ne rfl rfl) ?_
    refine ifc ?_ ?_
    · refine Eq.trans (k_ald0 rfl) ?_
      refine Eq.trans (k_ild3 rfl) ?_
      refine Eq.trans (k_ild5 rfl) ?_
      exact k_cV2 rfl s_164 q_91 rfl rfl rfl (bl rfl)
    · exact rfl
  · exact rfl
theorem b_95_62 {d : Nat} {m : Nat → Nat → Int} {q : Nat → Nat → Option Nat} {w : Option (Nat → Int64)} {u1 u6 : Option Value} {v2 v3 v4 v5 s0 : Int}   : gv d rR95 62 [some (.ref 164), u1, some (.int (iI v2)), some (.int (iI v3)), some (.int (iI v4)), some (.int (iI v5)), u6] [.int (iI s0)] (mk m q w) =
    if iI s0 = iI 0 then (gv d rR95 70 [some (.ref 164), u1, some (.int (iI v2)), some (.int (iI v3)), some (.int (iI v4)), some (.int (iI v5)), u6] [.int (iI 1)] (mk m q w)) else (gv d rR95 70 [some (.ref 164), u1, some (.int (iI v2)), some (.int (iI v3)), some (.int (iI v4)), some (.int (iI v5)), u6] [.int (iI 0)] (mk m q w)) := by
  refine Eq.trans (k_i1ne rfl rfl) ?_
  refine ifc ?_ ?_
  · refine Eq.trans (k_con rfl) ?_
    refine Eq.trans (k_go rfl rfl) ?_
    exact rfl
  · refine Eq.trans (k_con rfl) ?_
    exact rfl
theorem b_95_70 {d : Nat} {m : Nat → Nat → Int} {q : Nat → Nat → Option Nat} {w : Option (Nat → Int64)} {u1 u6 : Option Value} {v2 v3 v4 v5 s0 : Int}  (g0 : 0 ≤ (zOr v2 (zShl 1 v5))) (g1 : (zOr v2 (zShl 1 v5)) < 128) (g2 : 9 ≤ d) : gv d rR95 70 [some (.ref 164), u1, some (.int (iI v2)), some (.int (iI v3)), some (.int (iI v4)), some (.int (iI v5)), u6] [.int (iI s0)] (mk m q w) =
    gv d rR95 93 [some (.ref 164), u1, some (.int (iI v2)), some (.int (iI v3)), some (.int (iI (if iI (s0 + (m 169 (Int.toNat (zOr v2 (zShl 1 v5))))) < iI v4 then (s0 + (m 169 (Int.toNat (zOr v2 (zShl 1 v5))))) else v4))), some (.int (iI v5)), some (.int (iI s0))] [] (mk m q w) := by
  refine Eq.trans (k_ist6 rfl) ?_
  refine Eq.trans (k_ild4 rfl) ?_
  refine Eq.trans (k_ild6 rfl) ?_
  refine Eq.trans (k_ald0 rfl) ?_
  refine Eq.trans (k_gtR rfl s_164 rfl (by decide)) ?_
  refine Eq.trans (k_ild2 rfl) ?_
  refine Eq.trans (k_con rfl) ?_
  refine Eq.trans (k_ild5 rfl) ?_
  refine Eq.trans (k_shl rfl) ?_
  refine Eq.trans (k_ior rfl) ?_
  refine Eq.trans (k_iald rfl s_169 (bl rfl) g0 g1) ?_
  refine Eq.trans (k_add rfl) ?_
  refine Eq.trans (k_min rfl g2 (bl rfl)) ?_
  refine Eq.trans (k_ist4 rfl) ?_
  exact rfl
theorem b_95_93 {d : Nat} {m : Nat → Nat → Int} {q : Nat → Nat → Option Nat} {w : Option (Nat → Int64)} {u1 u6 : Option Value} {v2 v3 v4 v5 : Int}   : gv d rR95 93 [some (.ref 164), u1, some (.int (iI v2)), some (.int (iI v3)), some (.int (iI v4)), some (.int (iI v5)), u6] [] (mk m q w) =
    gv d rR95 37 [some (.ref 164), u1, some (.int (iI v2)), some (.int (iI v3)), some (.int (iI v4)), some (.int (iI (v5 + 1))), u6] [] (mk m q w) := by
  refine Eq.trans (k_inc5 rfl) ?_
  refine Eq.trans (k_go rfl rfl) ?_
  exact rfl
theorem b_95_99 {d : Nat} {m : Nat → Nat → Int} {q : Nat → Nat → Option Nat} {w : Option (Nat → Int64)} {u1 u3 u5 u6 : Option Value} {v2 v4 : Int}  (g0 : 0 ≤ v2) (g1 : v2 < 128) : gv d rR95 99 [some (.ref 164), u1, some (.int (iI v2)), u3, some (.int (iI v4)), u5, u6] [] (mk m q w) =
    gv d rR95 20 [some (.ref 164), u1, some (.int (iI (v2 + (-1)))), u3, some (.int (iI v4)), u5, u6] [] (mk (wr m 169 (Int.toNat v2) v4) q w) := by
  refine Eq.trans (k_ald0 rfl) ?_
  refine Eq.trans (k_gtR rfl s_164 rfl (by decide)) ?_
  refine Eq.trans (k_ild2 rfl) ?_
  refine Eq.trans (k_ild4 rfl) ?_
  refine Eq.trans (k_iast rfl s_169 (bl rfl) g0 g1) ?_
  refine Eq.trans (k_inc2 rfl) ?_
  refine Eq.trans (k_go rfl rfl) ?_
  exact rfl
theorem e_95 {d : Nat} (hd : 1 ≤ d) {a0 : Value} (M : rMem) (h0 : a0.category = 1) : ev d 95 [a0] M = gv (d - 1) rR95 0 [some a0, none, none, none, none, none, none] [] M := ev_at hd q_95 rfl (by simp [*]) rfl
/-! FanHouse$Ways.search(II)V -/
theorem b_96_0 {d : Nat} {m : Nat → Nat → Int} {q : Nat → Nat → Option Nat} {w : Option (Nat → Int64)} {u3 u4 u5 u6 u7 u8 : Option Value} {v1 v2 : Int}   : gv d rR96 0 [some (.ref 164), some (.int (iI v1)), some (.int (iI v2)), u3, u4, u5, u6, u7, u8] [] (mk m q w) =
    if iI v2 < iI (m 164 5) then (if iI v1 < iI (m 164 1) then (gv d rR96 25 [some (.ref 164), some (.int (iI v1)), some (.int (iI v2)), some (.int (iI v1)), u4, u5, u6, u7, u8] [] (mk m q w)) else (some (.inl none, (mk (wr m 164 5 v2) q w, (0, 0))))) else (some (.inl none, (mk m q w, (0, 0)))) := by
  refine Eq.trans (k_ild2 rfl) ?_
  refine Eq.trans (k_ald0 rfl) ?_
  refine Eq.trans (k_gtI rfl s_164 rfl (by decide)) ?_
  refine Eq.trans (k_i2lt rfl rfl) ?_
  refine ifc ?_ ?_
  · refine Eq.trans (k_ild1 rfl) ?_
    refine Eq.trans (k_ald0 rfl) ?_
    refine Eq.trans (k_gtI rfl s_164 rfl (by decide)) ?_
    refine Eq.trans (k_i2lt rfl rfl) ?_
    refine ifc ?_ ?_
    · refine Eq.trans (k_ild1 rfl) ?_
      refine Eq.trans (k_ist3 rfl) ?_
      exact rfl
    · refine Eq.trans (k_ald0 rfl) ?_
      refine Eq.trans (k_ild2 rfl) ?_
      refine Eq.trans (k_ptI rfl s_164 rfl rfl) ?_
      exact k_rtV rfl rfl
  · exact k_rtV rfl rfl
theorem b_96_25 {d : Nat} {m : Nat → Nat → Int} {q : Nat → Nat → Option Nat} {w : Option (Nat → Int64)} {u4 u5 u6 u7 u8 : Option Value} {v1 v2 v3 : Int}   : gv d rR96 25 [some (.ref 164), some (.int (iI v1)), some (.int (iI v2)), some (.int (iI v3)), u4, u5, u6, u7, u8] [] (mk m q w) =
    if iI v3 < iI (m 164 1) then (gv d rR96 33 [some (.ref 164), some (.int (iI v1)), some (.int (iI v2)), some (.int (iI v3)), u4, u5, u6, u7, u8] [] (mk m q w)) else (some (.inl none, (mk m q w, (0, 0)))) := by
  refine Eq.trans (k_ild3 rfl) ?_
  refine Eq.trans (k_ald0 rfl) ?_
  refine Eq.trans (k_gtI rfl s_164 rfl (by decide)) ?_
  refine Eq.trans (k_i2ge rfl rfl) ?_
  refine ifc ?_ ?_
  · exact rfl
  · exact k_rtV rfl rfl
theorem b_96_33 {d : Nat} {m : Nat → Nat → Int} {q : Nat → Nat → Option Nat} {w : Option (Nat → Int64)} {u4 u5 u6 u7 u8 : Option Value} {v1 v2 v3 : Int}  (g0 : 0 ≤ v3) (g1 : v3 < 7) : gv d rR96 33 [some (.ref 164), some (.int (iI v1)), some (.int (iI v2)), some (.int (iI v3)), u4, u5, u6, u7, u8] [] (mk m q w) =
    rBd (ev d 91 [.ref 164, .int (iI v1), .int (iI (m 170 (Int.toNat v3)))] (mk m q w)) (fun v M' => gv d rR96 48 [some (.ref 164), some (.int (iI v1)), some (.int (iI v2)), some (.int (iI v3)), some (.int (iI (m 170 (Int.toNat v3)))), u5, u6, u7, u8] (v.toList ++ []) M') := by
  refine Eq.trans (k_ald0 rfl) ?_
  refine Eq.trans (k_gtR rfl s_164 rfl (by decide)) ?_
  refine Eq.trans (k_ild3 rfl) ?_
  refine Eq.trans (k_iald rfl s_170 (bl rfl) g0 g1) ?_
  refine Eq.trans (k_ist4 rfl) ?_
  refine Eq.trans (k_ald0 rfl) ?_
  refine Eq.trans (k_ild1 rfl) ?_
  refine Eq.trans (k_ild4 rfl) ?_
  exact k_cV2 rfl s_164 q_91 rfl rfl rfl (bl rfl)
theorem b_96_48 {d : Nat} {m : Nat → Nat → Int} {q : Nat → Nat → Option Nat} {w : Option (Nat → Int64)} {u5 u6 u7 u8 : Option Value} {v1 v2 v3 v4 s0 : Int}   : gv d rR96 48 [some (.ref 164), some (.int (iI v1)), some (.int (iI v2)), some (.int (iI v3)), some (.int (iI v4)), u5, u6, u7, u8] [.int (iI s0)] (mk m q w) =
    if iI s0 = iI 0 then (gv d rR96 158 [some (.ref 164), some (.int (iI v1)), some (.int (iI v2)), some (.int (iI v3)), some (.int (iI v4)), some (.int (iI s0)), u6, u7, u8] [] (mk m q w)) else (rBd (ev d 14 [.ref 165, .int (iI v4)] (mk m q w)) (fun v M' => gv d rR96 67 [some (.ref 164), some (.int (iI v1)), some (.int (iI v2)), some (.int (iI v3)), some (.int (iI v4)), some (.int (iI s0)), u6, u7, u8] (v.toList ++ []) M')) := by
  refine Eq.trans (k_ist5 rfl) ?_
  refine Eq.trans (k_ild5 rfl) ?_
  refine Eq.trans (k_i1ne rfl rfl) ?_
  refine ifc ?_ ?_
  · refine Eq.trans (k_go rfl rfl) ?_
    exact rfl
  · refine Eq.trans (k_ald0 rfl) ?_
    refine Eq.trans (k_gtR rfl s_164 rfl (by decide)) ?_
    refine Eq.trans (k_ild4 rfl) ?_
    exact k_cV1 rfl s_165 q_14 rfl rfl rfl (bl rfl)
theorem b_96_67 {d : Nat} {m : Nat → Nat → Int} {q : Nat → Nat → Option Nat} {w : Option (Nat → Int64)} {u6 u7 u8 : Option Value} {v1 v2 v3 v4 v5 s0 : Int}   : gv d rR96 67 [some (.ref 164), some (.int (iI v1)), some (.int (iI v2)), some (.int (iI v3)), some (.int (iI v4)), some (.int (iI v5)), u6, u7, u8] [.int (iI s0)] (mk m q w) =
    if iI s0 = iI 0 then (gv d rR96 75 [some (.ref 164), some (.int (iI v1)), some (.int (iI v2)), some (.int (iI v3)), some (.int (iI v4)), some (.int (iI v5)), u6, u7, u8] [.int (iI 1)] (mk m q w)) else (gv d rR96 75 [some (.ref 164), some (.int (iI v1)), some (.int (iI v2)), some (.int (iI v3)), some (.int (iI v4)), some (.int (iI v5)), u6, u7, u8] [.int (iI 2)] (mk m q w)) := by
  refine Eq.trans (k_i1eq rfl rfl) ?_
  refine ifc ?_ ?_
  · refine Eq.trans (k_con rfl) ?_
    exact rfl
  · refine Eq.trans (k_con rfl) ?_
    refine Eq.trans (k_go rfl rfl) ?_
    exact rfl
theorem b_96_75 {d : Nat} {m : Nat → Nat → Int} {q : Nat → Nat → Option Nat} {w : Option (Nat → Int64)} {u6 u7 u8 : Option Value} {v1 v2 v3 v4 v5 s0 : Int}   : gv d rR96 75 [some (.ref 164), some (.int (iI v1)), some (.int (iI v2)), some (.int (iI v3)), some (.int (iI v4)), some (.int (iI v5)), u6, u7, u8] [.int (iI s0)] (mk m q w) =
    if iI (zAnd v5 s0) = iI 0 then (gv d rR96 90 [some (.ref 164), some (.int (iI v1)), some (.int (iI v2)), some (.int (iI v3)), some (.int (iI v4)), some (.int (iI v5)), some (.int (iI s0)), u7, u8] [.int (iI 1)] (mk m q w)) else (gv d rR96 90 [some (.ref 164), some (.int (iI v1)), some (.int (iI v2)), some (.int (iI v3)), some (.int (iI v4)), some (.int (iI v5)), some (.int (iI s0)), u7, u8] [.int (iI 0)] (mk m q w)) := by
  refine Eq.trans (k_ist6 rfl) ?_
  refine Eq.trans (k_ild5 rfl) ?_
  refine Eq.trans (k_ild6 rfl) ?_
  refine Eq.trans (k_and rfl) ?_
  refine Eq.trans (k_i1ne rfl rfl) ?_
  refine ifc ?_ ?_
  · refine Eq.trans (k_con rfl) ?_
    refine Eq.trans (k_go rfl rfl) ?_
    exact rfl
  · refine Eq.trans (k_con rfl) ?_
    exact rfl
theorem b_96_90 {d : Nat} {m : Nat → Nat → Int} {q : Nat → Nat → Option Nat} {w : Option (Nat → Int64)} {u5 u6 u7 u8 : Option Value} {v1 v2 v3 v4 s0 : Int}   : gv d rR96 90 [some (.ref 164), some (.int (iI v1)), some (.int (iI v2)), some (.int (iI v3)), some (.int (iI v4)), u5, u6, u7, u8] [.int (iI s0)] (mk m q w) =
    if iI v3 = iI v1 then (gv d rR96 102 [some (.ref 164), some (.int (iI v1)), some (.int (iI v2)), some (.int (iI v3)), some (.int (iI v4)), u5, u6, some (.int (iI s0)), u8] [.int (iI 0)] (mk m q w)) else (gv d rR96 102 [some (.ref 164), some (.int (iI v1)), some (.int (iI v2)), some (.int (iI v3)), some (.int (iI v4)), u5, u6, some (.int (iI s0)), u8] [.int (iI 1)] (mk m q w)) := by
  refine Eq.trans (k_ist7 rfl) ?_
  refine Eq.trans (k_ild3 rfl) ?_
  refine Eq.trans (k_ild1 rfl) ?_
  refine Eq.trans (k_i2ne rfl rfl) ?_
  refine ifc ?_ ?_
  · refine Eq.trans (k_con rfl) ?_
    refine Eq.trans (k_go rfl rfl) ?_
    exact rfl
  · refine Eq.trans (k_con rfl) ?_
    exact rfl
theorem b_96_102 {d : Nat} {m : Nat → Nat → Int} {q : Nat → Nat → Option Nat} {w : Option (Nat → Int64)} {u5 u6 u8 : Option Value} {v1 v2 v3 v4 v7 s0 : Int}  (g0 : 0 ≤ v1) (g1 : v1 < 7) (g2 : 0 ≤ v3) (g3 : v3 < 7) : gv d rR96 102 [some (.ref 164), some (.int (iI v1)), some (.int (iI v2)), some (.int (iI v3)), some (.int (iI v4)), u5, u6, some (.int (iI v7)), u8] [.int (iI s0)] (mk m q w) =
    rBd (ev d 96 [.ref 164, .int (iI (v1 + 1)), .int (iI ((v2 + v7) + s0))] (mk (wr (wr m 170 (Int.toNat v3) (m 170 (Int.toNat v1))) 170 (Int.toNat v1) v4) q w)) (fun v M' => gv d rR96 138 [some (.ref 164), some (.int (iI v1)), some (.int (iI v2)), some (.int (iI v3)), some (.int (iI v4)), u5, u6, some (.int (iI v7)), some (.int (iI s0))] (v.toList ++ []) M') := by
  refine Eq.trans (k_ist8 rfl) ?_
  refine Eq.trans (k_ald0 rfl) ?_
  refine Eq.trans (k_gtR rfl s_164 rfl (by decide)) ?_
  refine Eq.trans (k_ild3 rfl) ?_
  refine Eq.trans (k_ald0 rfl) ?_
  refine Eq.trans (k_gtR rfl s_164 rfl (by decide)) ?_
  refine Eq.trans (k_ild1 rfl) ?_
  refine Eq.trans (k_iald rfl s_170 (bl rfl) g0 g1) ?_
  refine Eq.trans (k_iast rfl s_170 (bl rfl) g2 g3) ?_
  refine Eq.trans (k_ald0 rfl) ?_
  refine Eq.trans (k_gtR rfl s_164 rfl (by decide)) ?_
  refine Eq.trans (k_ild1 rfl) ?_
  refine Eq.trans (k_ild4 rfl) ?_
  refine Eq.trans (k_iast rfl s_170 (bl rfl) g0 g1) ?_
  refine Eq.trans (k_ald0 rfl) ?_
  refine Eq.trans (k_ild1 rfl) ?_
  refine Eq.trans (k_con rfl) ?_
  refine Eq.trans (k_add rfl) ?_
  refine Eq.trans (k_ild2 rfl) ?_
  refine Eq.trans (k_ild7 rfl) ?_
  refine Eq.trans (k_add rfl) ?_
  refine Eq.trans (k_ild8 rfl) ?_
  refine Eq.trans (k_add rfl) ?_
  exact k_cV2 rfl s_164 q_96 rfl rfl rfl (bl rfl)
theorem b_96_138 {d : Nat} {m : Nat → Nat → Int} {q : Nat → Nat → Option Nat} {w : Option (Nat → Int64)} {u5 u6 u7 u8 : Option Value} {v1 v2 v3 v4 : Int}  (g0 : 0 ≤ v3) (g1 : v3 < 7) (g2 : 0 ≤ v1) (g3 : v1 < 7) : gv d rR96 138 [some (.ref 164), some (.int (iI v1)), some (.int (iI v2)), some (.int (iI v3)), some (.int (iI v4)), u5, u6, u7, u8] [] (mk m q w) =
    gv d rR96 158 [some (.ref 164), some (.int (iI v1)), some (.int (iI v2)), some (.int (iI v3)), some (.int (iI v4)), u5, u6, u7, u8] [] (mk (wr (wr m 170 (Int.toNat v1) (m 170 (Int.toNat v3))) 170 (Int.toNat v3) v4) q w) := by
  refine Eq.trans (k_ald0 rfl) ?_
  refine Eq.trans (k_gtR rfl s_164 rfl (by decide)) ?_
  refine Eq.trans (k_ild1 rfl) ?_
  refine Eq.trans (k_ald0 rfl) ?_
  refine Eq.trans (k_gtR rfl s_164 rfl (by decide)) ?_
  refine Eq.trans (k_ild3 rfl) ?_
  refine Eq.trans (k_iald rfl s_170 (bl rfl) g0 g1) ?_
  refine Eq.trans (k_iast rfl s_170 (bl rfl) g2 g3) ?_
  refine Eq.trans (k_ald0 rfl) ?_
  refine Eq.trans (k_gtR rfl s_164 rfl (by decide)) ?_
  refine Eq.trans (k_ild3 rfl) ?_
  refine Eq.trans (k_ild4 rfl) ?_
  refine Eq.trans (k_iast rfl s_170 (bl rfl) g0 g1) ?_
  exact rfl
theorem b_96_158 {d : Nat} {m : Nat → Nat → Int} {q : Nat → Nat → Option Nat} {w : Option (Nat → Int64)} {u4 u5 u6 u7 u8 : Option Value} {v1 v2 v3 : Int}   : gv d rR96 158 [some (.ref 164), some (.int (iI v1)), some (.int (iI v2)), some (.int (iI v3)), u4, u5, u6, u7, u8] [] (mk m q w) =
    gv d rR96 25 [some (.ref 164), some (.int (iI v1)), some (.int (iI v2)), some (.int (iI (v3 + 1))), u4, u5, u6, u7, u8] [] (mk m q w) := by
  refine Eq.trans (k_inc3 rfl) ?_
  refine Eq.trans (k_go rfl rfl) ?_
  exact rfl
theorem e_96 {d : Nat} (hd : 1 ≤ d) {a0 a1 a2 : Value} (M : rMem) (h0 : a0.category = 1) (h1 : a1.category = 1) (h2 : a2.category = 1) : ev d 96 [a0, a1, a2] M = gv (d - 1) rR96 0 [some a0, some a1, some a2, none, none, none, none, none, none] [] M := ev_at hd q_96 rfl (by simp [*]) rfl
/-! FanHouse$Ways.fewestMoves()I -/
theorem b_97_0 {d : Nat} {m : Nat → Nat → Int} {q : Nat → Nat → Option Nat} {w : Option (Nat → Int64)}  (g0 : 9 ≤ d) : gv d rR97 0 [some (.ref 164)] [] (mk m q w) =
    rBd (ev d 96 [.ref 164, .int (iI 0), .int (iI 0)] (mk (wr (row m 170 (fun j => if (Int.toNat 0) ≤ j ∧ j < (Int.toNat 0) + (Int.toNat (((7 : Nat) : Int))) then m 166 ((Int.toNat 0) + (j - (Int.toNat 0))) else m 170 j)) 164 5 1000) q w)) (fun v M' => gv d rR97 34 [some (.ref 164)] (v.toList ++ []) M') := by
  refine Eq.trans (k_ald0 rfl) ?_
  refine Eq.trans (k_gtR rfl s_164 rfl (by decide)) ?_
  refine Eq.trans (k_gtR rfl s_165 rfl (by decide)) ?_
  refine Eq.trans (k_con rfl) ?_
  refine Eq.trans (k_ald0 rfl) ?_
  refine Eq.trans (k_gtR rfl s_164 rfl (by decide)) ?_
  refine Eq.trans (k_con rfl) ?_
  refine Eq.trans (k_ald0 rfl) ?_
  refine Eq.trans (k_gtR rfl s_164 rfl (by decide)) ?_
  refine Eq.trans (k_alen rfl s_170 (by decide)) ?_
  refine Eq.trans (k_cpy rfl s_166 s_170 (by decide) (by decide) (by decide) (by decide) (by decide) (bl rfl) (bl rfl) g0 (bl rfl)) ?_
  refine Eq.trans (k_ald0 rfl) ?_
  refine Eq.trans (k_sip rfl (by decide)) ?_
  refine Eq.trans (k_ptI rfl s_164 rfl rfl) ?_
  refine Eq.trans (k_ald0 rfl) ?_
  refine Eq.trans (k_con rfl) ?_
  refine Eq.trans (k_con rfl) ?_
  exact k_cV2 rfl s_164 q_96 rfl rfl rfl (bl rfl)
theorem b_97_34 {d : Nat} {m : Nat → Nat → Int} {q : Nat → Nat → Option Nat} {w : Option (Nat → Int64)}   : gv d rR97 34 [some (.ref 164)] [] (mk m q w) =
    some (.inl (some (.int (iI (m 164 5)))), (mk m q w, (0, 0))) := by
  refine Eq.trans (k_ald0 rfl) ?_
  refine Eq.trans (k_gtI rfl s_164 rfl (by decide)) ?_
  exact k_rtI rfl rfl
theorem e_97 {d : Nat} (hd : 1 ≤ d) {a0 : Value} (M : rMem) (h0 : a0.category = 1) : ev d 97 [a0] M = gv (d - 1) rR97 0 [some a0] [] M := ev_at hd q_97 rfl (by simp [*]) rfl
/-! FanHouse$Work.readNumber(LFanHouse$Tape;CI)I -/
theorem b_99_0 {d : Nat} {m : Nat → Nat → Int} {q : Nat → Nat → Option Nat} {w : Option (Nat → Int64)} {v1 v2 : Int}   : gv d rR99 0 [some (.ref 101), some (.int (iI v1)), some (.int (iI v2))] [] (mk m q w) =
    gv d rR99 1 [some (.ref 101), some (.int (iI v1)), some (.int (iI v2))] [.int (iI v1)] (mk m q w) := by
  refine Eq.trans (k_ild1 rfl) ?_
  exact rfl
theorem b_99_1_0 {d : Nat} {m : Nat → Nat → Int} {q : Nat → Nat → Option Nat} {w : Option (Nat → Int64)} {u1 : Option Value} {v2 : Int}  : gv d rR99 1 [some (.ref 101), u1, some (.int (iI v2))] [.int (iI 104)] (mk m q w) = gv d rR99 100 [some (.ref 101), u1, some (.int (iI v2))] [] (mk m q w) := k_tsw rfl (by decide) (by decide) rfl rfl
theorem b_99_1_1 {d : Nat} {m : Nat → Nat → Int} {q : Nat → Nat → Option Nat} {w : Option (Nat → Int64)} {u1 : Option Value} {v2 : Int}  : gv d rR99 1 [some (.ref 101), u1, some (.int (iI v2))] [.int (iI 105)] (mk m q w) = gv d rR99 115 [some (.ref 101), u1, some (.int (iI v2))] [] (mk m q w) := k_tsw rfl (by decide) (by decide) rfl rfl
theorem b_99_1_2 {d : Nat} {m : Nat → Nat → Int} {q : Nat → Nat → Option Nat} {w : Option (Nat → Int64)} {u1 : Option Value} {v2 : Int}  : gv d rR99 1 [some (.ref 101), u1, some (.int (iI v2))] [.int (iI 106)] (mk m q w) = gv d rR99 115 [some (.ref 101), u1, some (.int (iI v2))] [] (mk m q w) := k_tsw rfl (by decide) (by decide) rfl rfl
theorem b_99_1_3 {d : Nat} {m : Nat → Nat → Int} {q : Nat → Nat → Option Nat} {w : Option (Nat → Int64)} {u1 : Option Value} {v2 : Int}  : gv d rR99 1 [some (.ref 101), u1, some (.int (iI v2))] [.int (iI 107)] (mk m q w) = gv d rR99 115 [some (.ref 101), u1, some (.int (iI v2))] [] (mk m q w) := k_tsw rfl (by decide) (by decide) rfl rfl
theorem b_99_1_4 {d : Nat} {m : Nat → Nat → Int} {q : Nat → Nat → Option Nat} {w : Option (Nat → Int64)} {u1 : Option Value} {v2 : Int}  : gv d rR99 1 [some (.ref 101), u1, some (.int (iI v2))] [.int (iI 108)] (mk m q w) = gv d rR99 115 [some (.ref 101), u1, some (.int (iI v2))] [] (mk m q w) := k_tsw rfl (by decide) (by decide) rfl rfl
theorem b_99_1_5 {d : Nat} {m : Nat → Nat → Int} {q : Nat → Nat → Option Nat} {w : Option (Nat → Int64)} {u1 : Option Value} {v2 : Int}  : gv d rR99 1 [some (.ref 101), u1, some (.int (iI v2))] [.int (iI 109)] (mk m q w) = gv d rR99 107 [some (.ref 101), u1, some (.int (iI v2))] [] (mk m q w) := k_tsw rfl (by decide) (by decide) rfl rfl
theorem b_99_1_6 {d : Nat} {m : Nat → Nat → Int} {q : Nat → Nat → Option Nat} {w : Option (Nat → Int64)} {u1 : Option Value} {v2 : Int}  : gv d rR99 1 [some (.ref 101), u1, some (.int (iI v2))] [.int (iI 110)] (mk m q w) = gv d rR99 83 [some (.ref 101), u1, some (.int (iI v2))] [] (mk m q w) := k_tsw rfl (by decide) (by decide) rfl rfl
theorem b_99_1_7 {d : Nat} {m : Nat → Nat → Int} {q : Nat → Nat → Option Nat} {w : Option (Nat → Int64)} {u1 : Option Value} {v2 : Int}  : gv d rR99 1 [some (.ref 101), u1, some (.int (iI v2))] [.int (iI 111)] (mk m q w) = gv d rR99 115 [some (.ref 101), u1, some (.int (iI v2))] [] (mk m q w) := k_tsw rfl (by decide) (by decide) rfl rfl
theorem b_99_1_8 {d : Nat} {m : Nat → Nat → Int} {q : Nat → Nat → Option Nat} {w : Option (Nat → Int64)} {u1 : Option Value} {v2 : Int}  : gv d rR99 1 [some (.ref 101), u1, some (.int (iI v2))] [.int (iI 112)] (mk m q w) = gv d rR99 91 [some (.ref 101), u1, some (.int (iI v2))] [] (mk m q w) := k_tsw rfl (by decide) (by decide) rfl rfl
theorem b_99_1_9 {d : Nat} {m : Nat → Nat → Int} {q : Nat → Nat → Option Nat} {w : Option (Nat → Int64)} {u1 : Option Value} {v2 : Int}  : gv d rR99 1 [some (.ref 101), u1, some (.int (iI v2))] [.int (iI 113)] (mk m q w) = gv d rR99 115 [some (.ref 101), u1, some (.int (iI v2))] [] (mk m q w) := k_tsw rfl (by decide) (by decide) rfl rfl
theorem b_99_1_10 {d : Nat} {m : Nat → Nat → Int} {q : Nat → Nat → Option Nat} {w : Option (Nat → Int64)} {u1 : Option Value} {v2 : Int}  : gv d rR99 1 [some (.ref 101), u1, some (.int (iI v2))] [.int (iI 114)] (mk m q w) = gv d rR99 115 [some (.ref 101), u1, some (.int (iI v2))] [] (mk m q w) := k_tsw rfl (by decide) (by decide) rfl rfl
theorem b_99_1_11 {d : Nat} {m : Nat → Nat → Int} {q : Nat → Nat → Option Nat} {w : Option (Nat → Int64)} {u1 : Option Value} {v2 : Int}  : gv d rR99 1 [some (.ref 101), u1, some (.int (iI v2))] [.int (iI 115)] (mk m q w) = gv d rR99 115 [some (.ref 101), u1, some (.int (iI v2))] [] (mk m q w) := k_tsw rfl (by decide) (by decide) rfl rfl
theorem b_99_1_12 {d : Nat} {m : Nat → Nat → Int} {q : Nat → Nat → Option Nat} {w : Option (Nat → Int64)} {u1 : Option Value} {v2 : Int}  : gv d rR99 1 [some (.ref 101), u1, some (.int (iI v2))] [.int (iI 116)] (mk m q w) = gv d rR99 115 [some (.ref 101), u1, some (.int (iI v2))] [] (mk m q w) := k_tsw rfl (by decide) (by decide) rfl rfl
theorem b_99_1_13 {d : Nat} {m : Nat → Nat → Int} {q : Nat → Nat → Option Nat} {w : Option (Nat → Int64)} {u1 : Option Value} {v2 : Int}  : gv d rR99 1 [some (.ref 101), u1, some (.int (iI v2))] [.int (iI 117)] (mk m q w) = gv d rR99 115 [some (.ref 101), u1, some (.int (iI v2))] [] (mk m q w) := k_tsw rfl (by decide) (by decide) rfl rfl
theorem b_99_1_14 {d : Nat} {m : Nat → Nat → Int} {q : Nat → Nat → Option Nat} {w : Option (Nat → Int64)} {u1 : Option Value} {v2 : Int}  : gv d rR99 1 [some (.ref 101), u1, some (.int (iI v2))] [.int (iI 118)] (mk m q w) = gv d rR99 76 [some (.ref 101), u1, some (.int (iI v2))] [] (mk m q w) := k_tsw rfl (by decide) (by decide) rfl rfl
theorem b_99_1_d {d : Nat} {m : Nat → Nat → Int} {q : Nat → Nat → Option Nat} {w : Option (Nat → Int64)} {u1 : Option Value} {v2 s0 : Int}  (g0 : i32 s0) (g1 : s0 < 104 ∨ 118 < s0) : gv d rR99 1 [some (.ref 101), u1, some (.int (iI v2))] [.int (iI s0)] (mk m q w) = gv d rR99 115 [some (.ref 101), u1, some (.int (iI v2))] [] (mk m q w) := k_tsd rfl g0 g1 rfl
theorem b_99_76 {d : Nat} {m : Nat → Nat → Int} {q : Nat → Nat → Option Nat} {w : Option (Nat → Int64)} {u1 u2 : Option Value}   : gv d rR99 76 [some (.ref 101), u1, u2] [] (mk m q w) =
    rBd (ev d 7 [.ref 101, .int (iI 0), .int (iI 3)] (mk m q w)) (fun v M' => gv d rR99 82 [some (.ref 101), u1, u2] (v.toList ++ []) M') := by
  refine Eq.trans (k_ald0 rfl) ?_
  refine Eq.trans (k_con rfl) ?_
  refine Eq.trans (k_con rfl) ?_
  exact k_cV2 rfl s_101 q_7 rfl rfl rfl (bl rfl)
theorem b_99_82 {d : Nat} {m : Nat → Nat → Int} {q : Nat → Nat → Option Nat} {w : Option (Nat → Int64)} {u0 u1 u2 : Option Value} {s0 : Int}   : gv d rR99 82 [u0, u1, u2] [.int (iI s0)] (mk m q w) =
    some (.inl (some (.int (iI s0))), (mk m q w, (0, 0))) := by
  exact k_rtI rfl rfl
theorem b_99_83 {d : Nat} {m : Nat → Nat → Int} {q : Nat → Nat → Option Nat} {w : Option (Nat → Int64)} {u1 u2 : Option Value}   : gv d rR99 83 [some (.ref 101), u1, u2] [] (mk m q w) =
    rBd (ev d 7 [.ref 101, .int (iI 1), .int (iI 7)] (mk m q w)) (fun v M' => gv d rR99 90 [some (.ref 101), u1, u2] (v.toList ++ []) M') := by
  refine Eq.trans (k_ald0 rfl) ?_
  refine Eq.trans (k_con rfl) ?_
  refine Eq.trans (k_bip rfl (by decide)) ?_
  exact k_cV2 rfl s_101 q_7 rfl rfl rfl (bl rfl)
theorem b_99_90 {d : Nat} {m : Nat → Nat → Int} {q : Nat → Nat → Option Nat} {w : Option (Nat → Int64)} {u0 u1 u2 : Option Value} {s0 : Int}   : gv d rR99 90 [u0, u1, u2] [.int (iI s0)] (mk m q w) =
    some (.inl (some (.int (iI s0))), (mk m q w, (0, 0))) := by
  exact k_rtI rfl rfl
theorem b_99_91 {d : Nat} {m : Nat → Nat → Int} {q : Nat → Nat → Option Nat} {w : Option (Nat → Int64)} {u1 : Option Value} {v2 : Int}   : gv d rR99 91 [some (.ref 101), u1, some (.int (iI v2))] [] (mk m q w) =
    rBd (ev d 7 [.ref 101, .int (iI 0), .int (iI (v2 - 1))] (mk m q w)) (fun v M' => gv d rR99 99 [some (.ref 101), u1, some (.int (iI v2))] (v.toList ++ []) M') := by
  refine Eq.trans (k_ald0 rfl) ?_
  refine Eq.trans (k_con rfl) ?_
  refine Eq.trans (k_ild2 rfl) ?_
  refine Eq.trans (k_con rfl) ?_
  refine Eq.trans (k_sub rfl) ?_
  exact k_cV2 rfl s_101 q_7 rfl rfl rfl (bl rfl)
theorem b_99_99 {d : Nat} {m : Nat → Nat → Int} {q : Nat → Nat → Option Nat} {w : Option (Nat → Int64)} {u0 u1 u2 : Option Value} {s0 : Int}   : gv d rR99 99 [u0, u1, u2] [.int (iI s0)] (mk m q w) =
    some (.inl (some (.int (iI s0))), (mk m q w, (0, 0))) := by
  exact k_rtI rfl rfl
theorem b_99_100 {d : Nat} {m : Nat → Nat → Int} {q : Nat → Nat → Option Nat} {w : Option (Nat → Int64)} {u1 u2 : Option Value}   : gv d rR99 100 [some (.ref 101), u1, u2] [] (mk m q w) =
    rBd (ev d 7 [.ref 101, .int (iI 0), .int (iI 3)] (mk m q w)) (fun v M' => gv d rR99 106 [some (.ref 101), u1, u2] (v.toList ++ []) M') := by
  refine Eq.trans (k_ald0 rfl) ?_
  refine Eq.trans (k_con rfl) ?_
  refine Eq.trans (k_con rfl) ?_
  exact k_cV2 rfl s_101 q_7 rfl rfl rfl (bl rfl)
theorem b_99_106 {d : Nat} {m : Nat → Nat → Int} {q : Nat → Nat → Option Nat} {w : Option (Nat → Int64)} {u0 u1 u2 : Option Value} {s0 : Int}   : gv d rR99 106 [u0, u1, u2] [.int (iI s0)] (mk m q w) =
    some (.inl (some (.int (iI s0))), (mk m q w, (0, 0))) := by
  exact k_rtI rfl rfl
theorem b_99_107 {d : Nat} {m : Nat → Nat → Int} {q : Nat → Nat → Option Nat} {w : Option (Nat → Int64)} {u1 u2 : Option Value}   : gv d rR99 107 [some (.ref 101), u1, u2] [] (mk m q w) =
    rBd (ev d 7 [.ref 101, .int (iI 0), .int (iI 15)] (mk m q w)) (fun v M' => gv d rR99 114 [some (.ref 101), u1, u2] (v.toList ++ []) M') := by
  refine Eq.trans (k_ald0 rfl) ?_
  refine Eq.trans (k_con rfl) ?_
  refine Eq.trans (k_bip rfl (by decide)) ?_
  exact k_cV2 rfl s_101 q_7 rfl rfl rfl (bl rfl)
theorem b_99_114 {d : Nat} {m : Nat → Nat → Int} {q : Nat → Nat → Option Nat} {w : Option (Nat → Int64)} {u0 u1 u2 : Option Value} {s0 : Int}   : gv d rR99 114 [u0, u1, u2] [.int (iI s0)] (mk m q w) =
    some (.inl (some (.int (iI s0))), (mk m q w, (0, 0))) := by
  exact k_rtI rfl rfl
theorem b_99_115 {d : Nat} {m : Nat → Nat → Int} {q : Nat → Nat → Option Nat} {w : Option (Nat → Int64)} {u1 u2 : Option Value}   : gv d rR99 115 [some (.ref 101), u1, u2] [] (mk m q w) =
    rBd (ev d 7 [.ref 101, .int (iI 0), .int (iI 40)] (mk m q w)) (fun v M' => gv d rR99 122 [some (.ref 101), u1, u2] (v.toList ++ []) M') := by
  refine Eq.trans (k_ald0 rfl) ?_
  refine Eq.trans (k_con rfl) ?_
  refine Eq.trans (k_bip rfl (by decide)) ?_
  exact k_cV2 rfl s_101 q_7 rfl rfl rfl (bl rfl)
theorem b_99_122 {d : Nat} {m : Nat → Nat → Int} {q : Nat → Nat → Option Nat} {w : Option (Nat → Int64)} {u0 u1 u2 : Option Value} {s0 : Int}   : gv d rR99 122 [u0, u1, u2] [.int (iI s0)] (mk m q w) =
    some (.inl (some (.int (iI s0))), (mk m q w, (0, 0))) := by
  exact k_rtI rfl rfl
theorem e_99 {d : Nat} (hd : 1 ≤ d) {a0 a1 a2 : Value} (M : rMem) (h0 : a0.category = 1) (h1 : a1.category = 1) (h2 : a2.category = 1) : ev d 99 [a0, a1, a2] M = gv (d - 1) rR99 0 [some a0, some a1, some a2] [] M := ev_at hd q_99 rfl (by simp [*]) rfl
/-! FanHouse$Work.readSteps(LFanHouse$Tape;II)V -/
theorem b_101_0 {d : Nat} {m : Nat → Nat → Int} {q : Nat → Nat → Option Nat} {w : Option (Nat → Int64)} {u4 : Option Value} {v2 v3 : Int}   : gv d rR101 0 [some (.ref 103), some (.ref 101), some (.int (iI v2)), some (.int (iI v3)), u4] [] (mk m q w) =
    gv d rR101 3 [some (.ref 103), some (.ref 101), some (.int (iI v2)), some (.int (iI v3)), some (.int (iI 0))] [] (mk m q w) := by
  refine Eq.trans (k_con rfl) ?_
  refine Eq.trans (k_ist4 rfl) ?_
  exact rfl
theorem b_101_3 {d : Nat} {m : Nat → Nat → Int} {q : Nat → Nat → Option Nat} {w : Option (Nat → Int64)} {v2 v3 v4 : Int}   : gv d rR101 3 [some (.ref 103), some (.ref 101), some (.int (iI v2)), some (.int (iI v3)), some (.int (iI v4))] [] (mk m q w) =
    if iI v4 < iI 150 then (rBd (ev d 26 [.ref 101] (mk m q w)) (fun v M' => gv d rR101 15 [some (.ref 103), some (.ref 101), some (.int (iI v2)), some (.int (iI v3)), some (.int (iI v4))] (v.toList ++ []) M')) else (gv d rR101 37 [some (.ref 103), some (.ref 101), some (.int (iI v2)), some (.int (iI v3)), some (.int (iI v4))] [] (mk m q w)) := by
  refine Eq.trans (k_ild4 rfl) ?_
  refine Eq.trans (k_sip rfl (by decide)) ?_
  refine Eq.trans (k_i2ge rfl rfl) ?_
  refine ifc ?_ ?_
  · refine Eq.trans (k_ald1 rfl) ?_
    exact k_cV0 rfl s_101 q_26 rfl rfl rfl (bl rfl)
  · exact rfl
theorem b_101_15 {d : Nat} {m : Nat → Nat → Int} {q : Nat → Nat → Option Nat} {w : Option (Nat → Int64)} {v2 v3 v4 s0 : Int}   : gv d rR101 15 [some (.ref 103), some (.ref 101), some (.int (iI v2)), some (.int (iI v3)), some (.int (iI v4))] [.int (iI s0)] (mk m q w) =
    if iI s0 = iI 0 then (gv d rR101 37 [some (.ref 103), some (.ref 101), some (.int (iI v2)), some (.int (iI v3)), some (.int (iI v4))] [] (mk m q w)) else (rBd (ev d 100 [.ref 103, .ref 101, .int (iI v2), .int (iI v3)] (mk m q w)) (fun v M' => gv d rR101 25 [some (.ref 103), some (.ref 101), some (.int (iI v2)), some (.int (iI v3)), some (.int (iI v4))] (v.toList ++ []) M')) := by
  refine Eq.trans (k_i1eq rfl rfl) ?_
  refine ifc ?_ ?_
  · exact rfl
  · refine Eq.trans (k_ald0 rfl) ?_
    refine Eq.trans (k_ald1 rfl) ?_
    refine Eq.trans (k_ild2 rfl) ?_
    refine Eq.trans (k_ild3 rfl) ?_
    exact k_cV3 rfl s_103 q_100 rfl rfl rfl (bl rfl)
theorem b_101_25 {d : Nat} {m : Nat → Nat → Int} {q : Nat → Nat → Option Nat} {w : Option (Nat → Int64)} {v2 v3 v4 : Int}   : gv d rR101 25 [some (.ref 103), some (.ref 101), some (.int (iI v2)), some (.int (iI v3)), some (.int (iI v4))] [] (mk m q w) =
    rBd (ev d 9 [.ref 101, .int (iI 59)] (mk m q w)) (fun v M' => gv d rR101 31 [some (.ref 103), some (.ref 101), some (.int (iI v2)), some (.int (iI v3)), some (.int (iI v4))] (v.toList ++ []) M') := by
  refine Eq.trans (k_ald1 rfl) ?_
  refine Eq.trans (k_bip rfl (by decide)) ?_
  exact k_cV1 rfl s_101 q_9 rfl rfl rfl (bl rfl)
theorem b_101_31 {d : Nat} {m : Nat → Nat → Int} {q : Nat → Nat → Option Nat} {w : Option (Nat → Int64)} {v2 v3 v4 : Int}   : gv d rR101 31 [some (.ref 103), some (.ref 101), some (.int (iI v2)), some (.int (iI v3)), some (.int (iI v4))] [] (mk m q w) =
    gv d rR101 3 [some (.ref 103), some (.ref 101), some (.int (iI v2)), some (.int (iI v3)), some (.int (iI (v4 + 1)))] [] (mk m q w) := by
  refine Eq.trans (k_inc4 rfl) ?_
  refine Eq.trans (k_go rfl rfl) ?_
  exact rfl
theorem b_101_37 {d : Nat} {m : Nat → Nat → Int} {q : Nat → Nat → Option Nat} {w : Option (Nat → Int64)} {u0 u1 u2 u3 u4 : Option Value}   : gv d rR101 37 [u0, u1, u2, u3, u4] [] (mk m q w) =
    some (.inl none, (mk m q w, (0, 0))) := by
  exact k_rtV rfl rfl
theorem e_101 {d : Nat} (hd : 1 ≤ d) {a0 a1 a2 a3 : Value} (M : rMem) (h0 : a0.category = 1) (h1 : a1.category = 1) (h2 : a2.category = 1) (h3 : a3.category = 1) : ev d 101 [a0, a1, a2, a3] M = gv (d - 1) rR101 0 [some a0, some a1, some a2, some a3, none] [] M := ev_at hd q_101 rfl (by simp [*]) rfl
/-! FanHouse$Work.readFrom(LFanHouse$Tape;I)V -/
theorem b_102_0 {d : Nat} {m : Nat → Nat → Int} {q : Nat → Nat → Option Nat} {w : Option (Nat → Int64)} {v2 : Int}   : gv d rR102 0 [some (.ref 103), some (.ref 101), some (.int (iI v2))] [] (mk m q w) =
    rBd (ev d 101 [.ref 103, .ref 101, .int (iI v2), .int (iI 0)] (mk (wr m 103 3 0) q w)) (fun v M' => gv d rR102 12 [some (.ref 103), some (.ref 101), some (.int (iI v2))] (v.toList ++ []) M') := by
  refine Eq.trans (k_ald0 rfl) ?_
  refine Eq.trans (k_con rfl) ?_
  refine Eq.trans (k_ptI rfl s_103 rfl rfl) ?_
  refine Eq.trans (k_ald0 rfl) ?_
  refine Eq.trans (k_ald1 rfl) ?_
  refine Eq.trans (k_ild2 rfl) ?_
  refine Eq.trans (k_con rfl) ?_
  exact k_cV3 rfl s_103 q_101 rfl rfl rfl (bl rfl)
theorem b_102_12 {d : Nat} {m : Nat → Nat → Int} {q : Nat → Nat → Option Nat} {w : Option (Nat → Int64)} {u0 u1 u2 : Option Value}   : gv d rR102 12 [u0, u1, u2] [] (mk m q w) =
    some (.inl none, (mk m q w, (0, 0))) := by
  exact k_rtV rfl rfl
theorem e_102 {d : Nat} (hd : 1 ≤ d) {a0 a1 a2 : Value} (M : rMem) (h0 : a0.category = 1) (h1 : a1.category = 1) (h2 : a2.category = 1) : ev d 102 [a0, a1, a2] M = gv (d - 1) rR102 0 [some a0, some a1, some a2] [] M := ev_at hd q_102 rfl (by simp [*]) rfl
/-! FanHouse$Work.doStep(LFanHouse$Fan;LFanHouse$Law;LFanHouse$Step;I)Z -/
theorem b_103_0 {d : Nat} {m : Nat → Nat → Int} {q : Nat → Nat → Option Nat} {w : Option (Nat → Int64)} {u5 u6 : Option Value} {v4 : Int} {p1 : Nat} {p2 : Nat} {p3 : Nat} (hp1 : iFan p1) (hp2 : iLaw p2) (hp3 : p3 < 8)  : gv d rR103 0 [some (.ref 103), some (.ref p1), some (.ref p2), some (.ref p3), some (.int (iI v4)), u5, u6] [] (mk m q w) =
    rBd (ev d 6 [.int (iI v4), .int (iI 0), .int (iI ((((450 : Nat) : Int)) - 3))] (mk m q w)) (fun v M' => gv d rR103 17 [some (.ref 103), some (.ref p1), some (.ref p2), some (.ref p3), some (.int (iI v4)), u5, u6] (v.toList ++ []) M') := by
  refine Eq.trans (k_ald3 rfl) ?_
  refine Eq.trans (k_inR rfl) ?_
  refine Eq.trans (k_ild4 rfl) ?_
  refine Eq.trans (k_con rfl) ?_
  refine Eq.trans (k_ald0 rfl) ?_
  refine Eq.trans (k_gtR rfl s_103 rfl (by decide)) ?_
  refine Eq.trans (k_alen rfl s_105 (by decide)) ?_
  refine Eq.trans (k_con rfl) ?_
  refine Eq.trans (k_sub rfl) ?_
  exact k_cS3 rfl (by decide) q_6 rfl rfl (bl rfl)
theorem b_103_17 {d : Nat} {m : Nat → Nat → Int} {q : Nat → Nat → Option Nat} {w : Option (Nat → Int64)} {u5 u6 : Option Value} {v4 s0 : Int} {p1 : Nat} {p2 : Nat} {p3 : Nat} (hp1 : iFan p1) (hp2 : iLaw p2) (hp3 : p3 < 8)  : gv d rR103 17 [some (.ref 103), some (.ref p1), some (.ref p2), some (.ref p3), some (.int (iI v4)), u5, u6] [.int (iI s0)] (mk m q w) =
    if iI s0 = iI 0 then (gv d rR103 20 [some (.ref 103), some (.ref p1), some (.ref p2), some (.ref p3), some (.int (iI v4)), u5, u6] [] (mk m q w)) else (gv d rR103 22 [some (.ref 103), some (.ref p1), some (.ref p2), some (.ref p3), some (.int (iI v4)), u5, u6] [] (mk m q w)) := by
  refine Eq.trans (k_i1ne rfl rfl) ?_
  refine ifc ?_ ?_
  · exact rfl
  · exact rfl
theorem b_103_20 {d : Nat} {m : Nat → Nat → Int} {q : Nat → Nat → Option Nat} {w : Option (Nat → Int64)} {u0 u1 u2 u3 u4 u5 u6 : Option Value}   : gv d rR103 20 [u0, u1, u2, u3, u4, u5, u6] [] (mk m q w) =
    some (.inl (some (.int (iI 0))), (mk m q w, (0, 0))) := by
  refine Eq.trans (k_con rfl) ?_
  exact k_rtZ rfl rfl (Or.inl rfl)
theorem b_103_22 {d : Nat} {m : Nat → Nat → Int} {q : Nat → Nat → Option Nat} {w : Option (Nat → Int64)} {u5 u6 : Option Value} {v4 : Int} {p1 : Nat} {p2 : Nat} {p3 : Nat} (hp1 : iFan p1) (hp2 : iLaw p2) (hp3 : p3 < 8) (g0 : 0 ≤ v4) (g1 : v4 < 450) (g2 : 0 ≤ (v4 + 1)) (g3 : (v4 + 1) < 450) (g4 : 9 ≤ d) (g5 : 0 ≤ (((p3 : Nat) : Int))) (g6 : (((p3 : Nat) : Int)) < 8) : gv d rR103 22 [some (.ref 103), some (.ref p1), some (.ref p2), some (.ref p3), some (.int (iI v4)), u5, u6] [] (mk m q w) =
    gv d rR103 50 [some (.ref 103), some (.ref p1), some (.ref p2), some (.ref p3), some (.int (iI v4)), some (.int (iI (m 105 (Int.toNat v4)))), some (.int (iI (m 105 (Int.toNat (v4 + 1)))))] [.int (iI (((rSw.getD (Int.toNat (((p3 : Nat) : Int))) 0 : Nat) : Int)))] (mk m q w) := by
  refine Eq.trans (k_ald0 rfl) ?_
  refine Eq.trans (k_gtR rfl s_103 rfl (by decide)) ?_
  refine Eq.trans (k_ild4 rfl) ?_
  refine Eq.trans (k_iald rfl s_105 (bl rfl) g0 g1) ?_
  refine Eq.trans (k_ist5 rfl) ?_
  refine Eq.trans (k_ald0 rfl) ?_
  refine Eq.trans (k_gtR rfl s_103 rfl (by decide)) ?_
  refine Eq.trans (k_ild4 rfl) ?_
  refine Eq.trans (k_con rfl) ?_
  refine Eq.trans (k_add rfl) ?_
  refine Eq.trans (k_iald rfl s_105 (bl rfl) g2 g3) ?_
  refine Eq.trans (k_ist6 rfl) ?_
  refine Eq.trans (k_gts (c := 9) rfl (by decide)) ?_
  refine Eq.trans (k_ald3 rfl) ?_
  refine Eq.trans (k_ord rfl hp3 g4 (bl rfl)) ?_
  refine Eq.trans (k_ial9 rfl g5 g6) ?_
  exact rfl
theorem b_103_50_0 {d : Nat} {m : Nat → Nat → Int} {q : Nat → Nat → Option Nat} {w : Option (Nat → Int64)} {u3 : Option Value} {v4 v5 v6 : Int} {p1 : Nat} {p2 : Nat} (hp1 : iFan p1) (hp2 : iLaw p2) : gv d rR103 50 [some (.ref 103), some (.ref p1), some (.ref p2), u3, some (.int (iI v4)), some (.int (iI v5)), some (.int (iI v6))] [.int (iI 1)] (mk m q w) = gv d rR103 88 [some (.ref 103), some (.ref p1), some (.ref p2), u3, some (.int (iI v4)), some (.int (iI v5)), some (.int (iI v6))] [] (mk m q w) := k_tsw rfl (by decide) (by decide) rfl rfl
theorem b_103_50_1 {d : Nat} {m : Nat → Nat → Int} {q : Nat → Nat → Option Nat} {w : Option (Nat → Int64)} {u3 : Option Value} {v4 v5 v6 : Int} {p1 : Nat} {p2 : Nat} (hp1 : iFan p1) (hp2 : iLaw p2) : gv d rR103 50 [some (.ref 103), some (.ref p1), some (.ref p2), u3, some (.int (iI v4)), some (.int (iI v5)), some (.int (iI v6))] [.int (iI 2)] (mk m q w) = gv d rR103 98 [some (.ref 103), some (.ref p1), some (.ref p2), u3, some (.int (iI v4)), some (.int (iI v5)), some (.int (iI v6))] [] (mk m q w) := k_tsw rfl (by decide) (by decide) rfl rfl
theorem b_103_50_2 {d : Nat} {m : Nat → Nat → Int} {q : Nat → Nat → Option Nat} {w : Option (Nat → Int64)} {u3 : Option Value} {v4 v5 v6 : Int} {p1 : Nat} {p2 : Nat} (hp1 : iFan p1) (hp2 : iLaw p2) : gv d rR103 50 [some (.ref 103), some (.ref p1), some (.ref p2), u3, some (.int (iI v4)), some (.int (iI v5)), some (.int (iI v6))] [.int (iI 3)] (mk m q w) = gv d rR103 103 [some (.ref 103), some (.ref p1), some (.ref p2), u3, some (.int (iI v4)), some (.int (iI v5)), some (.int (iI v6))] [] (mk m q w) := k_tsw rfl (by decide) (by decide) rfl rfl
theorem b_103_50_3 {d : Nat} {m : Nat → Nat → Int} {q : Nat → Nat → Option Nat} {w : Option (Nat → Int64)} {u3 : Option Value} {v4 v5 v6 : Int} {p1 : Nat} {p2 : Nat} (hp1 : iFan p1) (hp2 : iLaw p2) : gv d rR103 50 [some (.ref 103), some (.ref p1), some (.ref p2), u3, some (.int (iI v4)), some (.int (iI v5)), some (.int (iI v6))] [.int (iI 4)] (mk m q w) = gv d rR103 112 [some (.ref 103), some (.ref p1), some (.ref p2), u3, some (.int (iI v4)), some (.int (iI v5)), some (.int (iI v6))] [] (mk m q w) := k_tsw rfl (by decide) (by decide) rfl rfl
theorem b_103_50_4 {d : Nat} {m : Nat → Nat → Int} {q : Nat → Nat → Option Nat} {w : Option (Nat → Int64)} {u3 : Option Value} {v4 v5 v6 : Int} {p1 : Nat} {p2 : Nat} (hp1 : iFan p1) (hp2 : iLaw p2) : gv d rR103 50 [some (.ref 103), some (.ref p1), some (.ref p2), u3, some (.int (iI v4)), some (.int (iI v5)), some (.int (iI v6))] [.int (iI 5)] (mk m q w) = gv d rR103 119 [some (.ref 103), some (.ref p1), some (.ref p2), u3, some (.int (iI v4)), some (.int (iI v5)), some (.int (iI v6))] [] (mk m q w) := k_tsw rfl (by decide) (by decide) rfl rfl
theorem b_103_50_5 {d : Nat} {m : Nat → Nat → Int} {q : Nat → Nat → Option Nat} {w : Option (Nat → Int64)} {u3 : Option Value} {v4 v5 v6 : Int} {p1 : Nat} {p2 : Nat} (hp1 : iFan p1) (hp2 : iLaw p2) : gv d rR103 50 [some (.ref 103), some (.ref p1), some (.ref p2), u3, some (.int (iI v4)), some (.int (iI v5)), some (.int (iI v6))] [.int (iI 6)] (mk m q w) = gv d rR103 137 [some (.ref 103), some (.ref p1), some (.ref p2), u3, some (.int (iI v4)), some (.int (iI v5)), some (.int (iI v6))] [] (mk m q w) := k_tsw rfl (by decide) (by decide) rfl rfl
theorem b_103_50_d {d : Nat} {m : Nat → Nat → Int} {q : Nat → Nat → Option Nat} {w : Option (Nat → Int64)} {u3 : Option Value} {v4 v5 v6 s0 : Int} {p1 : Nat} {p2 : Nat} (hp1 : iFan p1) (hp2 : iLaw p2) (g0 : i32 s0) (g1 : s0 < 1 ∨ 6 < s0) : gv d rR103 50 [some (.ref 103), some (.ref p1), some (.ref p2), u3, some (.int (iI v4)), some (.int (iI v5)), some (.int (iI v6))] [.int (iI s0)] (mk m q w) = gv d rR103 142 [some (.ref 103), some (.ref p1), some (.ref p2), u3, some (.int (iI v4)), some (.int (iI v5)), some (.int (iI v6))] [] (mk m q w) := k_tsd rfl g0 g1 rfl
theorem b_103_88 {d : Nat} {m : Nat → Nat → Int} {q : Nat → Nat → Option Nat} {w : Option (Nat → Int64)} {u0 u3 u4 : Option Value} {v5 v6 : Int} {p1 : Nat} {p2 : Nat} (hp1 : iFan p1) (hp2 : iLaw p2)  : gv d rR103 88 [u0, some (.ref p1), some (.ref p2), u3, u4, some (.int (iI v5)), some (.int (iI v6))] [] (mk m q w) =
    rBd (ev d 44 [.ref p1, .ref p2, .int (iI v5), .int (iI v6)] (mk m q w)) (fun v M' => gv d rR103 97 [u0, some (.ref p1), some (.ref p2), u3, u4, some (.int (iI v5)), some (.int (iI v6))] (v.toList ++ []) M') := by
  refine Eq.trans (k_ald1 rfl) ?_
  refine Eq.trans (k_ald2 rfl) ?_
  refine Eq.trans (k_ild5 rfl) ?_
  refine Eq.trans (k_ild6 rfl) ?_
  exact k_cV3 rfl (fan_0 hp1) q_44 rfl rfl rfl (bl rfl)
theorem b_103_97 {d : Nat} {m : Nat → Nat → Int} {q : Nat → Nat → Option Nat} {w : Option (Nat → Int64)} {u0 u1 u2 u3 u4 u5 u6 : Option Value} {s0 : Int}  (g0 : iI s0 = iI 0 ∨ iI s0 = iI 1) : gv d rR103 97 [u0, u1, u2, u3, u4, u5, u6] [.int (iI s0)] (mk m q w) =
    some (.inl (some (.int (iI s0))), (mk m q w, (0, 0))) := by
  exact k_rtZ rfl rfl g0
theorem b_103_98 {d : Nat} {m : Nat → Nat → Int} {q : Nat → Nat → Option Nat} {w : Option (Nat → Int64)} {u0 u2 u3 u4 u5 u6 : Option Value} {p1 : Nat} (hp1 : iFan p1)  : gv d rR103 98 [u0, some (.ref p1), u2, u3, u4, u5, u6] [] (mk m q w) =
    rBd (ev d 24 [.ref p1] (mk m q w)) (fun v M' => gv d rR103 102 [u0, some (.ref p1), u2, u3, u4, u5, u6] (v.toList ++ []) M') := by
  refine Eq.trans (k_ald1 rfl) ?_
  exact k_cV0 rfl (fan_0 hp1) q_24 rfl rfl rfl (bl rfl)
theorem b_103_102 {d : Nat} {m : Nat → Nat → Int} {q : Nat → Nat → Option Nat} {w : Option (Nat → Int64)} {u0 u1 u2 u3 u4 u5 u6 : Option Value} {s0 : Int}  (g0 : iI s0 = iI 0 ∨ iI s0 = iI 1) : gv d rR103 102 [u0, u1, u2, u3, u4, u5, u6] [.int (iI s0)] (mk m q w) =
    some (.inl (some (.int (iI s0))), (mk m q w, (0, 0))) := by
  exact k_rtZ rfl rfl g0
theorem b_103_103 {d : Nat} {m : Nat → Nat → Int} {q : Nat → Nat → Option Nat} {w : Option (Nat → Int64)} {u0 u2 u3 u4 : Option Value} {v5 v6 : Int} {p1 : Nat} (hp1 : iFan p1)  : gv d rR103 103 [u0, some (.ref p1), u2, u3, u4, some (.int (iI v5)), some (.int (iI v6))] [] (mk m q w) =
    rBd (ev d 45 [.ref p1, .int (iI v5), .int (iI v6)] (mk m q w)) (fun v M' => gv d rR103 111 [u0, some (.ref p1), u2, u3, u4, some (.int (iI v5)), some (.int (iI v6))] (v.toList ++ []) M') := by
  refine Eq.trans (k_ald1 rfl) ?_
  refine Eq.trans (k_ild5 rfl) ?_
  refine Eq.trans (k_ild6 rfl) ?_
  exact k_cV2 rfl (fan_0 hp1) q_45 rfl rfl rfl (bl rfl)
theorem b_103_111 {d : Nat} {m : Nat → Nat → Int} {q : Nat → Nat → Option Nat} {w : Option (Nat → Int64)} {u0 u1 u2 u3 u4 u5 u6 : Option Value} {s0 : Int}  (g0 : iI s0 = iI 0 ∨ iI s0 = iI 1) : gv d rR103 111 [u0, u1, u2, u3, u4, u5, u6] [.int (iI s0)] (mk m q w) =
    some (.inl (some (.int (iI s0))), (mk m q w, (0, 0))) := by
  exact k_rtZ rfl rfl g0
theorem b_103_112 {d : Nat} {m : Nat → Nat → Int} {q : Nat → Nat → Option Nat} {w : Option (Nat → Int64)} {u0 u2 u3 u4 u6 : Option Value} {v5 : Int} {p1 : Nat} (hp1 : iFan p1)  : gv d rR103 112 [u0, some (.ref p1), u2, u3, u4, some (.int (iI v5)), u6] [] (mk m q w) =
    rBd (ev d 46 [.ref p1, .int (iI v5)] (mk m q w)) (fun v M' => gv d rR103 118 [u0, some (.ref p1), u2, u3, u4, some (.int (iI v5)), u6] (v.toList ++ []) M') := by
  refine Eq.trans (k_ald1 rfl) ?_
  refine Eq.trans (k_ild5 rfl) ?_
  exact k_cV1 rfl (fan_0 hp1) q_46 rfl rfl rfl (bl rfl)
theorem b_103_118 {d : Nat} {m : Nat → Nat → Int} {q : Nat → Nat → Option Nat} {w : Option (Nat → Int64)} {u0 u1 u2 u3 u4 u5 u6 : Option Value} {s0 : Int}  (g0 : iI s0 = iI 0 ∨ iI s0 = iI 1) : gv d rR103 118 [u0, u1, u2, u3, u4, u5, u6] [.int (iI s0)] (mk m q w) =
    some (.inl (some (.int (iI s0))), (mk m q w, (0, 0))) := by
  exact k_rtZ rfl rfl g0
theorem b_103_119 {d : Nat} {m : Nat → Nat → Int} {q : Nat → Nat → Option Nat} {w : Option (Nat → Int64)} {u2 u3 : Option Value} {v4 v5 v6 : Int} {p1 : Nat} (hp1 : iFan p1) (g0 : 0 ≤ (v4 + 2)) (g1 : (v4 + 2) < 450) : gv d rR103 119 [some (.ref 103), some (.ref p1), u2, u3, some (.int (iI v4)), some (.int (iI v5)), some (.int (iI v6))] [] (mk m q w) =
    rBd (ev d 47 [.ref p1, .int (iI v5), .int (iI v6), .int (iI (m 105 (Int.toNat (v4 + 2))))] (mk m q w)) (fun v M' => gv d rR103 136 [some (.ref 103), some (.ref p1), u2, u3, some (.int (iI v4)), some (.int (iI v5)), some (.int (iI v6))] (v.toList ++ []) M') := by
  refine Eq.trans (k_ald1 rfl) ?_
  refine Eq.trans (k_ild5 rfl) ?_
  refine Eq.trans (k_ild6 rfl) ?_
  refine Eq.trans (k_ald0 rfl) ?_
  refine Eq.trans (k_gtR rfl s_103 rfl (by decide)) ?_
  refine Eq.trans (k_ild4 rfl) ?_
  refine Eq.trans (k_con rfl) ?_
  refine Eq.trans (k_add rfl) ?_
  refine Eq.trans (k_iald rfl s_105 (bl rfl) g0 g1) ?_
  exact k_cV3 rfl (fan_0 hp1) q_47 rfl rfl rfl (bl rfl)
theorem b_103_136 {d : Nat} {m : Nat → Nat → Int} {q : Nat → Nat → Option Nat} {w : Option (Nat → Int64)} {u0 u1 u2 u3 u4 u5 u6 : Option Value} {s0 : Int}  (g0 : iI s0 = iI 0 ∨ iI s0 = iI 1) : gv d rR103 136 [u0, u1, u2, u3, u4, u5, u6] [.int (iI s0)] (mk m q w) =
    some (.inl (some (.int (iI s0))), (mk m q w, (0, 0))) := by
  exact k_rtZ rfl rfl g0
theorem b_103_137 {d : Nat} {m : Nat → Nat → Int} {q : Nat → Nat → Option Nat} {w : Option (Nat → Int64)} {u0 u2 u3 u4 u5 u6 : Option Value} {p1 : Nat} (hp1 : iFan p1)  : gv d rR103 137 [u0, some (.ref p1), u2, u3, u4, u5, u6] [] (mk m q w) =
    rBd (ev d 48 [.ref p1] (mk m q w)) (fun v M' => gv d rR103 141 [u0, some (.ref p1), u2, u3, u4, u5, u6] (v.toList ++ []) M') := by
  refine Eq.trans (k_ald1 rfl) ?_
  exact k_cV0 rfl (fan_0 hp1) q_48 rfl rfl rfl (bl rfl)
theorem b_103_141 {d : Nat} {m : Nat → Nat → Int} {q : Nat → Nat → Option Nat} {w : Option (Nat → Int64)} {u0 u1 u2 u3 u4 u5 u6 : Option Value} {s0 : Int}  (g0 : iI s0 = iI 0 ∨ iI s0 = iI 1) : gv d rR103 141 [u0, u1, u2, u3, u4, u5, u6] [.int (iI s0)] (mk m q w) =
    some (.inl (some (.int (iI s0))), (mk m q w, (0, 0))) := by
  exact k_rtZ rfl rfl g0
theorem b_103_142 {d : Nat} {m : Nat → Nat → Int} {q : Nat → Nat → Option Nat} {w : Option (Nat → Int64)} {u0 u2 u3 u4 u5 u6 : Option Value} {p1 : Nat} (hp1 : iFan p1)  : gv d rR103 142 [u0, some (.ref p1), u2, u3, u4, u5, u6] [] (mk m q w) =
    rBd (ev d 50 [.ref p1] (mk m q w)) (fun v M' => gv d rR103 146 [u0, some (.ref p1), u2, u3, u4, u5, u6] (v.toList ++ []) M') := by
  refine Eq.trans (k_ald1 rfl) ?_
  exact k_cV0 rfl (fan_0 hp1) q_50 rfl rfl rfl (bl rfl)
theorem b_103_146 {d : Nat} {m : Nat → Nat → Int} {q : Nat → Nat → Option Nat} {w : Option (Nat → Int64)} {u0 u1 u2 u3 u4 u5 u6 : Option Value} {s0 : Int}  (g0 : iI s0 = iI 0 ∨ iI s0 = iI 1) : gv d rR103 146 [u0, u1, u2, u3, u4, u5, u6] [.int (iI s0)] (mk m q w) =
    some (.inl (some (.int (iI s0))), (mk m q w, (0, 0))) := by
  exact k_rtZ rfl rfl g0
theorem e_103 {d : Nat} (hd : 1 ≤ d) {a0 a1 a2 a3 a4 : Value} (M : rMem) (h0 : a0.category = 1) (h1 : a1.category = 1) (h2 : a2.category = 1) (h3 : a3.category = 1) (h4 : a4.category = 1) : ev d 103 [a0, a1, a2, a3, a4] M = gv (d - 1) rR103 0 [some a0, some a1, some a2, some a3, some a4, none, none] [] M := ev_at hd q_103 rfl (by simp [*]) rfl
/-! FanHouse$Work.doAgain(LFanHouse$Fan;LFanHouse$Law;II)V -/
theorem b_104_0 {d : Nat} {m : Nat → Nat → Int} {q : Nat → Nat → Option Nat} {w : Option (Nat → Int64)} {u5 u6 : Option Value} {v3 v4 : Int} {p1 : Nat} {p2 : Nat} (hp1 : iFan p1) (hp2 : iLaw p2)  : gv d rR104 0 [some (.ref 103), some (.ref p1), some (.ref p2), some (.int (iI v3)), some (.int (iI v4)), u5, u6] [] (mk m q w) =
    if iI v4 < iI 6 then (gv d rR104 8 [some (.ref 103), some (.ref p1), some (.ref p2), some (.int (iI v3)), some (.int (iI v4)), u5, u6] [] (mk m q w)) else (some (.inl none, (mk m q w, (0, 0)))) := by
  refine Eq.trans (k_ild4 rfl) ?_
  refine Eq.trans (k_bip rfl (by decide)) ?_
  refine Eq.trans (k_i2lt rfl rfl) ?_
  refine ifc ?_ ?_
  · exact rfl
  · exact k_rtV rfl rfl
theorem b_104_8 {d : Nat} {m : Nat → Nat → Int} {q : Nat → Nat → Option Nat} {w : Option (Nat → Int64)} {u5 u6 : Option Value} {v3 v4 : Int} {p1 : Nat} {p2 : Nat} (hp1 : iFan p1) (hp2 : iLaw p2) (g0 : 0 ≤ (3 * v3)) (g1 : (3 * v3) < 450) : gv d rR104 8 [some (.ref 103), some (.ref p1), some (.ref p2), some (.int (iI v3)), some (.int (iI v4)), u5, u6] [] (mk m q w) =
    gv d rR104 21 [some (.ref 103), some (.ref p1), some (.ref p2), some (.int (iI v3)), some (.int (iI v4)), some (.int (iI (m 105 (Int.toNat (3 * v3))))), some (.int (iI 0))] [] (mk m q w) := by
  refine Eq.trans (k_ald0 rfl) ?_
  refine Eq.trans (k_gtR rfl s_103 rfl (by decide)) ?_
  refine Eq.trans (k_con rfl) ?_
  refine Eq.trans (k_ild3 rfl) ?_
  refine Eq.trans (k_mul rfl) ?_
  refine Eq.trans (k_iald rfl s_105 (bl rfl) g0 g1) ?_
  refine Eq.trans (k_ist5 rfl) ?_
  refine Eq.trans (k_con rfl) ?_
  refine Eq.trans (k_ist6 rfl) ?_
  exact rfl
theorem b_104_21 {d : Nat} {m : Nat → Nat → Int} {q : Nat → Nat → Option Nat} {w : Option (Nat → Int64)} {v3 v4 v5 v6 : Int} {p1 : Nat} {p2 : Nat} (hp1 : iFan p1) (hp2 : iLaw p2)  : gv d rR104 21 [some (.ref 103), some (.ref p1), some (.ref p2), some (.int (iI v3)), some (.int (iI v4)), some (.int (iI v5)), some (.int (iI v6))] [] (mk m q w) =
    if iI v6 < iI v5 then (if iI (m 103 4) < iI 200 then (gv d rR104 38 [some (.ref 103), some (.ref p1), some (.ref p2), some (.int (iI v3)), some (.int (iI v4)), some (.int (iI v5)), some (.int (iI v6))] [] (mk m q w)) else (gv d rR104 63 [some (.ref 103), some (.ref p1), some (.ref p2), some (.int (iI v3)), some (.int (iI v4)), some (.int (iI v5)), some (.int (iI v6))] [] (mk m q w))) else (gv d rR104 63 [some (.ref 103), some (.ref p1), some (.ref p2), some (.int (iI v3)), some (.int (iI v4)), some (.int (iI v5)), some (.int (iI v6))] [] (mk m q w)) := by
  refine Eq.trans (k_ild6 rfl) ?_
  refine Eq.trans (k_ild5 rfl) ?_
  refine Eq.trans (k_i2ge rfl rfl) ?_
  refine ifc ?_ ?_
  · refine Eq.trans (k_ald0 rfl) ?_
    refine Eq.trans (k_gtI rfl s_103 rfl (by decide)) ?_
    refine Eq.trans (k_sip rfl (by decide)) ?_
    refine Eq.trans (k_i2ge rfl rfl) ?_
    refine ifc ?_ ?_
    · exact rfl
    · exact rfl
  · exact rfl
theorem b_104_38 {d : Nat} {m : Nat → Nat → Int} {q : Nat → Nat → Option Nat} {w : Option (Nat → Int64)} {v3 v4 v5 v6 : Int} {p1 : Nat} {p2 : Nat} (hp1 : iFan p1) (hp2 : iLaw p2) (g0 : 0 ≤ v3) (g1 : v3 < 150) : gv d rR104 38 [some (.ref 103), some (.ref p1), some (.ref p2), some (.int (iI v3)), some (.int (iI v4)), some (.int (iI v5)), some (.int (iI v6))] [] (mk m q w) =
    rBd (ev d 105 [.ref 103, .ref p1, .ref p2, .int (iI (v3 + 1)), .int (iI (m 106 (Int.toNat v3))), .int (iI (v4 + 1))] (mk m q w)) (fun v M' => gv d rR104 57 [some (.ref 103), some (.ref p1), some (.ref p2), some (.int (iI v3)), some (.int (iI v4)), some (.int (iI v5)), some (.int (iI v6))] (v.toList ++ []) M') := by
  refine Eq.trans (k_ald0 rfl) ?_
  refine Eq.trans (k_ald1 rfl) ?_
  refine Eq.trans (k_ald2 rfl) ?_
  refine Eq.trans (k_ild3 rfl) ?_
  refine Eq.trans (k_con rfl) ?_
  refine Eq.trans (k_add rfl) ?_
  refine Eq.trans (k_ald0 rfl) ?_
  refine Eq.trans (k_gtR rfl s_103 rfl (by decide)) ?_
  refine Eq.trans (k_ild3 rfl) ?_
  refine Eq.trans (k_iald rfl s_106 (bl rfl) g0 g1) ?_
  refine Eq.trans (k_ild4 rfl) ?_
  refine Eq.trans (k_con rfl) ?_
  refine Eq.trans (k_add rfl) ?_
  exact k_cV5 rfl s_103 q_105 rfl rfl rfl (bl rfl)
theorem b_104_57 {d : Nat} {m : Nat → Nat → Int} {q : Nat → Nat → Option Nat} {w : Option (Nat → Int64)} {v3 v4 v5 v6 : Int} {p1 : Nat} {p2 : Nat} (hp1 : iFan p1) (hp2 : iLaw p2)  : gv d rR104 57 [some (.ref 103), some (.ref p1), some (.ref p2), some (.int (iI v3)), some (.int (iI v4)), some (.int (iI v5)), some (.int (iI v6))] [] (mk m q w) =
    gv d rR104 21 [some (.ref 103), some (.ref p1), some (.ref p2), some (.int (iI v3)), some (.int (iI v4)), some (.int (iI v5)), some (.int (iI (v6 + 1)))] [] (mk m q w) := by
  refine Eq.trans (k_inc6 rfl) ?_
  refine Eq.trans (k_go rfl rfl) ?_
  exact rfl
theorem b_104_63 {d : Nat} {m : Nat → Nat → Int} {q : Nat → Nat → Option Nat} {w : Option (Nat → Int64)} {u0 u1 u2 u3 u4 u5 u6 : Option Value}   : gv d rR104 63 [u0, u1, u2, u3, u4, u5, u6] [] (mk m q w) =
    some (.inl none, (mk m q w, (0, 0))) := by
  exact k_rtV rfl rfl
theorem e_104 {d : Nat} (hd : 1 ≤ d) {a0 a1 a2 a3 a4 : Value} (M : rMem) (h0 : a0.category = 1) (h1 : a1.category = 1) (h2 : a2.category = 1) (h3 : a3.category = 1) (h4 : a4.category = 1) : ev d 104 [a0, a1, a2, a3, a4] M = gv (d - 1) rR104 0 [some a0, some a1, some a2, some a3, some a4, none, none] [] M := ev_at hd q_104 rfl (by simp [*]) rfl
/-! FanHouse$Work.doSteps(LFanHouse$Fan;LFanHouse$Law;III)V -/
theorem b_105_0 {d : Nat} {m : Nat → Nat → Int} {q : Nat → Nat → Option Nat} {w : Option (Nat → Int64)} {u6 u7 u8 : Option Value} {v3 v4 v5 : Int} {p1 : Nat} {p2 : Nat} (hp1 : iFan p1) (hp2 : iLaw p2) (g0 : 9 ≤ d) : gv d rR105 0 [some (.ref 103), some (.ref p1), some (.ref p2), some (.int (iI v3)), some (.int (iI v4)), some (.int (iI v5)), u6, u7, u8] [] (mk m q w) =
    gv d rR105 17 [some (.ref 103), some (.ref p1), some (.ref p2), some (.int (iI v3)), some (.int (iI v4)), some (.int (iI v5)), some (.int (iI (if iI (m 103 3) < iI v4 then (m 103 3) else v4))), some (.int (iI v3)), some (.int (iI 0))] [] (mk m q w) := by
  refine Eq.trans (k_ild4 rfl) ?_
  refine Eq.trans (k_ald0 rfl) ?_
  refine Eq.trans (k_gtI rfl s_103 rfl (by decide)) ?_
  refine Eq.trans (k_min rfl g0 (bl rfl)) ?_
  refine Eq.trans (k_ist6 rfl) ?_
  refine Eq.trans (k_ild3 rfl) ?_
  refine Eq.trans (k_ist7 rfl) ?_
  refine Eq.trans (k_con rfl) ?_
  refine Eq.trans (k_ist8 rfl) ?_
  exact rfl
theorem b_105_17 {d : Nat} {m : Nat → Nat → Int} {q : Nat → Nat → Option Nat} {w : Option (Nat → Int64)} {u3 u4 : Option Value} {v5 v6 v7 v8 : Int} {p1 : Nat} {p2 : Nat} (hp1 : iFan p1) (hp2 : iLaw p2)  : gv d rR105 17 [some (.ref 103), some (.ref p1), some (.ref p2), u3, u4, some (.int (iI v5)), some (.int (iI v6)), some (.int (iI v7)), some (.int (iI v8))] [] (mk m q w) =
    if iI v8 < iI 150 then (if iI v7 < iI v6 then (if iI (m 103 4) < iI 200 then (gv d rR105 42 [some (.ref 103), some (.ref p1), some (.ref p2), u3, u4, some (.int (iI v5)), some (.int (iI v6)), some (.int (iI v7)), some (.int (iI v8))] [] (mk m q w)) else (gv d rR105 136 [some (.ref 103), some (.ref p1), some (.ref p2), u3, u4, some (.int (iI v5)), some (.int (iI v6)), some (.int (iI v7)), some (.int (iI v8))] [] (mk m q w))) else (gv d rR105 136 [some (.ref 103), some (.ref p1), some (.ref p2), u3, u4, some (.int (iI v5)), some (.int (iI v6)), some (.int (iI v7)), some (.int (iI v8))] [] (mk m q w))) else (gv d rR105 136 [some (.ref 103), some (.ref p1), some (.ref p2), u3, u4, some (.int (iI v5)), some (.int (iI v6)), some (.int (iI v7)), some (.int (iI v8))] [] (mk m q w)) := by
  refine Eq.trans (k_ild8 rfl) ?_
  refine Eq.trans (k_sip rfl (by decide)) ?_
  refine Eq.trans (k_i2ge rfl rfl) ?_
  refine ifc ?_ ?_
  · refine Eq.trans (k_ild7 rfl) ?_
    refine Eq.trans (k_ild6 rfl) ?_
    refine Eq.trans (k_i2ge rfl rfl) ?_
    refine ifc ?_ ?_
    · refine Eq.trans (k_ald0 rfl) ?_
      refine Eq.trans (k_gtI rfl s_103 rfl (by decide)) ?_
      refine Eq.trans (k_sip rfl (by decide)) ?_
      refine Eq.trans (k_i2ge rfl rfl) ?_
      refine ifc ?_ ?_
      · exact rfl
      · exact rfl
    · exact rfl
  · exact rfl
theorem b_105_42 {d : Nat} {m : Nat → Nat → Int} {q : Nat → Nat → Option Nat} {w : Option (Nat → Int64)} {u3 u4 : Option Value} {v5 v6 v7 v8 : Int} {p1 : Nat} {p2 : Nat} (hp1 : iFan p1) (hp2 : iLaw p2) (g0 : 0 ≤ v7) (g1 : v7 < 150) : gv d rR105 42 [some (.ref 103), some (.ref p1), some (.ref p2), u3, u4, some (.int (iI v5)), some (.int (iI v6)), some (.int (iI v7)), some (.int (iI v8))] [] (mk m q w) =
    gv d rR105 59 [some (.ref 103), some (.ref p1), some (.ref p2), u3, u4, some (.int (iI v5)), some (.int (iI v6)), some (.int (iI v7)), some (.int (iI v8))] (rOv (q 104 (Int.toNat v7)) :: []) (mk (wr m 103 4 ((m 103 4) + 1)) q w) := by
  refine Eq.trans (k_ald0 rfl) ?_
  refine Eq.trans (k_dup rfl rfl) ?_
  refine Eq.trans (k_gtI rfl s_103 rfl (by decide)) ?_
  refine Eq.trans (k_con rfl) ?_
  refine Eq.trans (k_add rfl) ?_
  refine Eq.trans (k_ptI rfl s_103 rfl rfl) ?_
  refine Eq.trans (k_ald0 rfl) ?_
  refine Eq.trans (k_gtR rfl s_103 rfl (by decide)) ?_
  refine Eq.trans (k_ild7 rfl) ?_
  exact k_aaV (t := 3) rfl s_104 (bl rfl) g0 g1
theorem b_105_59 {d : Nat} {m : Nat → Nat → Int} {q : Nat → Nat → Option Nat} {w : Option (Nat → Int64)} {u3 u4 : Option Value} {v5 v6 v7 v8 : Int} {p1 : Nat} {p2 : Nat} {z58 : Nat} (hp1 : iFan p1) (hp2 : iLaw p2) (hz58 : z58 < 8)  : gv d rR105 59 [some (.ref 103), some (.ref p1), some (.ref p2), u3, u4, some (.int (iI v5)), some (.int (iI v6)), some (.int (iI v7)), some (.int (iI v8))] [.ref z58] (mk m q w) =
    if z58 = 7 then (rBd (ev d 104 [.ref 103, .ref p1, .ref p2, .int (iI v7), .int (iI v5)] (mk m q w)) (fun v M' => gv d rR105 75 [some (.ref 103), some (.ref p1), some (.ref p2), u3, u4, some (.int (iI v5)), some (.int (iI v6)), some (.int (iI v7)), some (.int (iI v8))] (v.toList ++ []) M')) else (gv d rR105 78 [some (.ref 103), some (.ref p1), some (.ref p2), u3, u4, some (.int (iI v5)), some (.int (iI v6)), some (.int (iI v7)), some (.int (iI v8))] [] (mk m q w)) := by
  refine Eq.trans (k_gts (c := 7) rfl (by decide)) ?_
  refine Eq.trans (k_acm rfl rfl hz58 (by decide)) ?_
  refine ifc ?_ ?_
  · refine Eq.trans (k_ald0 rfl) ?_
    refine Eq.trans (k_ald1 rfl) ?_
    refine Eq.trans (k_ald2 rfl) ?_
    refine Eq.trans (k_ild7 rfl) ?_
    refine Eq.trans (k_ild5 rfl) ?_
    exact k_cV4 rfl s_103 q_104 rfl rfl rfl (bl rfl)
  · exact rfl
theorem b_105_75 {d : Nat} {m : Nat → Nat → Int} {q : Nat → Nat → Option Nat} {w : Option (Nat → Int64)} {u3 u4 : Option Value} {v5 v6 v7 v8 : Int} {p1 : Nat} {p2 : Nat} (hp1 : iFan p1) (hp2 : iLaw p2)  : gv d rR105 75 [some (.ref 103), some (.ref p1), some (.ref p2), u3, u4, some (.int (iI v5)), some (.int (iI v6)), some (.int (iI v7)), some (.int (iI v8))] [] (mk m q w) =
    gv d rR105 121 [some (.ref 103), some (.ref p1), some (.ref p2), u3, u4, some (.int (iI v5)), some (.int (iI v6)), some (.int (iI v7)), some (.int (iI v8))] [] (mk m q w) := by
  refine Eq.trans (k_go rfl rfl) ?_
  exact rfl
theorem b_105_78 {d : Nat} {m : Nat → Nat → Int} {q : Nat → Nat → Option Nat} {w : Option (Nat → Int64)} {u3 u4 : Option Value} {v5 v6 v7 v8 : Int} {p1 : Nat} {p2 : Nat} (hp1 : iFan p1) (hp2 : iLaw p2) (g0 : 0 ≤ v7) (g1 : v7 < 150) : gv d rR105 78 [some (.ref 103), some (.ref p1), some (.ref p2), u3, u4, some (.int (iI v5)), some (.int (iI v6)), some (.int (iI v7)), some (.int (iI v8))] [] (mk m q w) =
    gv d rR105 88 [some (.ref 103), some (.ref p1), some (.ref p2), u3, u4, some (.int (iI v5)), some (.int (iI v6)), some (.int (iI v7)), some (.int (iI v8))] (rOv (q 104 (Int.toNat v7)) :: [.ref p2, .ref p1, .ref 103]) (mk m q w) := by
  refine Eq.trans (k_ald0 rfl) ?_
  refine Eq.trans (k_ald1 rfl) ?_
  refine Eq.trans (k_ald2 rfl) ?_
  refine Eq.trans (k_ald0 rfl) ?_
  refine Eq.trans (k_gtR rfl s_103 rfl (by decide)) ?_
  refine Eq.trans (k_ild7 rfl) ?_
  exact k_aaV (t := 3) rfl s_104 (bl rfl) g0 g1
theorem b_105_88 {d : Nat} {m : Nat → Nat → Int} {q : Nat → Nat → Option Nat} {w : Option (Nat → Int64)} {u3 u4 : Option Value} {v5 v6 v7 v8 : Int} {p1 : Nat} {p2 : Nat} {z87 : Nat} (hp1 : iFan p1) (hp2 : iLaw p2) (hz87 : z87 < 8)  : gv d rR105 88 [some (.ref 103), some (.ref p1), some (.ref p2), u3, u4, some (.int (iI v5)), some (.int (iI v6)), some (.int (iI v7)), some (.int (iI v8))] [.ref z87, .ref p2, .ref p1, .ref 103] (mk m q w) =
    rBd (ev d 103 [.ref 103, .ref p1, .ref p2, .ref z87, .int (iI (3 * v7))] (mk m q w)) (fun v M' => gv d rR105 95 [some (.ref 103), some (.ref p1), some (.ref p2), u3, u4, some (.int (iI v5)), some (.int (iI v6)), some (.int (iI v7)), some (.int (iI v8))] (v.toList ++ []) M') := by
  refine Eq.trans (k_con rfl) ?_
  refine Eq.trans (k_ild7 rfl) ?_
  refine Eq.trans (k_mul rfl) ?_
  exact k_cV4 rfl s_103 q_103 rfl rfl rfl (bl rfl)
theorem b_105_95 {d : Nat} {m : Nat → Nat → Int} {q : Nat → Nat → Option Nat} {w : Option (Nat → Int64)} {u3 u4 : Option Value} {v5 v6 v7 v8 s0 : Int} {p1 : Nat} {p2 : Nat} (hp1 : iFan p1) (hp2 : iLaw p2)  : gv d rR105 95 [some (.ref 103), some (.ref p1), some (.ref p2), u3, u4, some (.int (iI v5)), some (.int (iI v6)), some (.int (iI v7)), some (.int (iI v8))] [.int (iI s0)] (mk m q w) =
    if iI s0 = iI 0 then (gv d rR105 121 [some (.ref 103), some (.ref p1), some (.ref p2), u3, u4, some (.int (iI v5)), some (.int (iI v6)), some (.int (iI v7)), some (.int (iI v8))] [] (mk (wr m 103 6 ((m 103 6) + 1)) q w)) else (gv d rR105 121 [some (.ref 103), some (.ref p1), some (.ref p2), u3, u4, some (.int (iI v5)), some (.int (iI v6)), some (.int (iI v7)), some (.int (iI v8))] [] (mk (wr m 103 5 ((m 103 5) + 1)) q w)) := by
  refine Eq.trans (k_i1eq rfl rfl) ?_
  refine ifc ?_ ?_
  · refine Eq.trans (k_ald0 rfl) ?_
    refine Eq.trans (k_dup rfl rfl) ?_
    refine Eq.trans (k_gtI rfl s_103 rfl (by decide)) ?_
    refine Eq.trans (k_con rfl) ?_
    refine Eq.trans (k_add rfl) ?_
    refine Eq.trans (k_ptI rfl s_103 rfl rfl) ?_
    exact rfl
  · refine Eq.trans (k_ald0 rfl) ?_
    refine Eq.trans (k_dup rfl rfl) ?_
    refine Eq.trans (k_gtI rfl s_103 rfl (by decide)) ?_
    refine Eq.trans (k_con rfl) ?_
    refine Eq.trans (k_add rfl) ?_
    refine Eq.trans (k_ptI rfl s_103 rfl rfl) ?_
    refine Eq.trans (k_go rfl rfl) ?_
    exact rfl
theorem b_105_121 {d : Nat} {m : Nat → Nat → Int} {q : Nat → Nat → Option Nat} {w : Option (Nat → Int64)} {u3 u4 : Option Value} {v5 v6 v7 v8 : Int} {p1 : Nat} {p2 : Nat} (hp1 : iFan p1) (hp2 : iLaw p2) (g0 : 0 ≤ v7) (g1 : v7 < 150) : gv d rR105 121 [some (.ref 103), some (.ref p1), some (.ref p2), u3, u4, some (.int (iI v5)), some (.int (iI v6)), some (.int (iI v7)), some (.int (iI v8))] [] (mk m q w) =
    gv d rR105 17 [some (.ref 103), some (.ref p1), some (.ref p2), u3, u4, some (.int (iI v5)), some (.int (iI v6)), some (.int (iI (m 106 (Int.toNat v7)))), some (.int (iI (v8 + 1)))] [] (mk m q w) := by
  refine Eq.trans (k_ald0 rfl) ?_
  refine Eq.trans (k_gtR rfl s_103 rfl (by decide)) ?_
  refine Eq.trans (k_ild7 rfl) ?_
  refine Eq.trans (k_iald rfl s_106 (bl rfl) g0 g1) ?_
  refine Eq.trans (k_ist7 rfl) ?_
  refine Eq.trans (k_inc8 rfl) ?_
  refine Eq.trans (k_go rfl rfl) ?_
  exact rfl
theorem b_105_136 {d : Nat} {m : Nat → Nat → Int} {q : Nat → Nat → Option Nat} {w : Option (Nat → Int64)} {u0 u1 u2 u3 u4 u5 u6 u7 u8 : Option Value}   : gv d rR105 136 [u0, u1, u2, u3, u4, u5, u6, u7, u8] [] (mk m q w) =
    some (.inl none, (mk m q w, (0, 0))) := by
  exact k_rtV rfl rfl
theorem e_105 {d : Nat} (hd : 1 ≤ d) {a0 a1 a2 a3 a4 a5 : Value} (M : rMem) (h0 : a0.category = 1) (h1 : a1.category = 1) (h2 : a2.category = 1) (h3 : a3.category = 1) (h4 : a4.category = 1) (h5 : a5.category = 1) : ev d 105 [a0, a1, a2, a3, a4, a5] M = gv (d - 1) rR105 0 [some a0, some a1, some a2, some a3, some a4, some a5, none, none, none] [] M := ev_at hd q_105 rfl (by simp [*]) rfl
/-! FanHouse$Work.doAll(LFanHouse$Fan;LFanHouse$Law;)V -/
theorem b_106_0 {d : Nat} {m : Nat → Nat → Int} {q : Nat → Nat → Option Nat} {w : Option (Nat → Int64)} {p1 : Nat} {p2 : Nat} (hp1 : iFan p1) (hp2 : iLaw p2)  : gv d rR106 0 [some (.ref 103), some (.ref p1), some (.ref p2)] [] (mk m q w) =
    rBd (ev d 105 [.ref 103, .ref p1, .ref p2, .int (iI 0), .int (iI ((wr (wr (wr m 103 4 0) 103 5 0) 103 6 0) 103 3)), .int (iI 0)] (mk (wr (wr (wr m 103 4 0) 103 5 0) 103 6 0) q w)) (fun v M' => gv d rR106 27 [some (.ref 103), some (.ref p1), some (.ref p2)] (v.toList ++ []) M') := by
  refine Eq.trans (k_ald0 rfl) ?_
  refine Eq.trans (k_con rfl) ?_
  refine Eq.trans (k_ptI rfl s_103 rfl rfl) ?_
  refine Eq.trans (k_ald0 rfl) ?_
  refine Eq.trans (k_con rfl) ?_
  refine Eq.trans (k_ptI rfl s_103 rfl rfl) ?_
  refine Eq.trans (k_ald0 rfl) ?_
  refine Eq.trans (k_con rfl) ?_
  refine Eq.trans (k_ptI rfl s_103 rfl rfl) ?_
  refine Eq.trans (k_ald0 rfl) ?_
  refine Eq.trans (k_ald1 rfl) ?_
  refine Eq.trans (k_ald2 rfl) ?_
  refine Eq.trans (k_con rfl) ?_
  refine Eq.trans (k_ald0 rfl) ?_
  refine Eq.trans (k_gtI rfl s_103 rfl (by decide)) ?_
  refine Eq.trans (k_con rfl) ?_
  exact k_cV5 rfl s_103 q_105 rfl rfl rfl (bl rfl)
theorem b_106_27 {d : Nat} {m : Nat → Nat → Int} {q : Nat → Nat → Option Nat} {w : Option (Nat → Int64)} {u0 u1 u2 : Option Value}   : gv d rR106 27 [u0, u1, u2] [] (mk m q w) =
    some (.inl none, (mk m q w, (0, 0))) := by
  exact k_rtV rfl rfl
theorem e_106 {d : Nat} (hd : 1 ≤ d) {a0 a1 a2 : Value} (M : rMem) (h0 : a0.category = 1) (h1 : a1.category = 1) (h2 : a2.category = 1) : ev d 106 [a0, a1, a2] M = gv (d - 1) rR106 0 [some a0, some a1, some a2] [] M := ev_at hd q_106 rfl (by simp [*]) rfl
/-! FanHouse$Years.draw(I)I -/
theorem b_108_0 {d : Nat} {m : Nat → Nat → Int} {q : Nat → Nat → Option Nat} {w : Option (Nat → Int64)} {v1 : Int}   : gv d rR108 0 [some (.ref 177), some (.int (iI v1))] [] (mk m q w) =
    if iI 0 < iI v1 then (gv d rR108 19 [some (.ref 177), some (.int (iI v1))] [] (mk (wr m 177 2 (((m 177 2) * (((1103515245 : Nat) : Int))) + 12345)) q w)) else (gv d rR108 36 [some (.ref 177), some (.int (iI v1))] [.int (iI 0)] (mk (wr m 177 2 (((m 177 2) * (((1103515245 : Nat) : Int))) + 12345)) q w)) := by
  refine Eq.trans (k_ald0 rfl) ?_
  refine Eq.trans (k_ald0 rfl) ?_
  refine Eq.trans (k_gtI rfl s_177 rfl (by decide)) ?_
  refine Eq.trans (k_ldi rfl) ?_
  refine Eq.trans (k_mul rfl) ?_
  refine Eq.trans (k_sip rfl (by decide)) ?_
  refine Eq.trans (k_add rfl) ?_
  refine Eq.trans (k_ptI rfl s_177 rfl rfl) ?_
  refine Eq.trans (k_ild1 rfl) ?_
  refine Eq.trans (k_i1le rfl rfl) ?_
  refine ifc ?_ ?_
  · exact rfl
  · refine Eq.trans (k_con rfl) ?_
    exact rfl
theorem b_108_19 {d : Nat} {m : Nat → Nat → Int} {q : Nat → Nat → Option Nat} {w : Option (Nat → Int64)} {v1 : Int}  (g0 : iI v1 ≠ 0) : gv d rR108 19 [some (.ref 177), some (.int (iI v1))] [] (mk m q w) =
    gv d rR108 36 [some (.ref 177), some (.int (iI v1))] [.int (iI (zRem (zAnd (zUsh (m 177 2) 16) 32767) v1))] (mk m q w) := by
  refine Eq.trans (k_ald0 rfl) ?_
  refine Eq.trans (k_gtI rfl s_177 rfl (by decide)) ?_
  refine Eq.trans (k_bip rfl (by decide)) ?_
  refine Eq.trans (k_ush rfl) ?_
  refine Eq.trans (k_sip rfl (by decide)) ?_
  refine Eq.trans (k_and rfl) ?_
  refine Eq.trans (k_ild1 rfl) ?_
  refine Eq.trans (k_rem rfl g0) ?_
  refine Eq.trans (k_go rfl rfl) ?_
  exact rfl
theorem b_108_36 {d : Nat} {m : Nat → Nat → Int} {q : Nat → Nat → Option Nat} {w : Option (Nat → Int64)} {u0 u1 : Option Value} {s0 : Int}   : gv d rR108 36 [u0, u1] [.int (iI s0)] (mk m q w) =
    some (.inl (some (.int (iI s0))), (mk m q w, (0, 0))) := by
  exact k_rtI rfl rfl
theorem e_108 {d : Nat} (hd : 1 ≤ d) {a0 a1 : Value} (M : rMem) (h0 : a0.category = 1) (h1 : a1.category = 1) : ev d 108 [a0, a1] M = gv (d - 1) rR108 0 [some a0, some a1] [] M := ev_at hd q_108 rfl (by simp [*]) rfl
/-! FanHouse$Years.drawOpen(LFanHouse$Law;)V -/
theorem b_109_0 {d : Nat} {m : Nat → Nat → Int} {q : Nat → Nat → Option Nat} {w : Option (Nat → Int64)} {u2 u3 : Option Value} {p1 : Nat} (hp1 : iLaw p1)  : gv d rR109 0 [some (.ref 177), some (.ref p1), u2, u3] [] (mk m q w) =
    rBd (ev d 108 [.ref 177, .int (iI 4)] (mk m q w)) (fun v M' => gv d rR109 5 [some (.ref 177), some (.ref p1), u2, u3] (v.toList ++ []) M') := by
  refine Eq.trans (k_ald0 rfl) ?_
  refine Eq.trans (k_con rfl) ?_
  exact k_cV1 rfl s_177 q_108 rfl rfl rfl (bl rfl)
theorem b_109_5 {d : Nat} {m : Nat → Nat → Int} {q : Nat → Nat → Option Nat} {w : Option (Nat → Int64)} {u2 u3 : Option Value} {s0 : Int} {p1 : Nat} (hp1 : iLaw p1)  : gv d rR109 5 [some (.ref 177), some (.ref p1), u2, u3] [.int (iI s0)] (mk m q w) =
    rBd (ev d 108 [.ref 177, .int (iI (m 178 0))] (mk m q w)) (fun v M' => gv d rR109 17 [some (.ref 177), some (.ref p1), some (.int (iI s0)), u3] (v.toList ++ []) M') := by
  refine Eq.trans (k_ist2 rfl) ?_
  refine Eq.trans (k_ald0 rfl) ?_
  refine Eq.trans (k_ald0 rfl) ?_
  refine Eq.trans (k_gtR rfl s_177 rfl (by decide)) ?_
  refine Eq.trans (k_gtI rfl s_178 rfl (by decide)) ?_
  exact k_cV1 rfl s_177 q_108 rfl rfl rfl (bl rfl)
theorem b_109_17 {d : Nat} {m : Nat → Nat → Int} {q : Nat → Nat → Option Nat} {w : Option (Nat → Int64)} {u3 : Option Value} {v2 s0 : Int} {p1 : Nat} (hp1 : iLaw p1)  : gv d rR109 17 [some (.ref 177), some (.ref p1), some (.int (iI v2)), u3] [.int (iI s0)] (mk m q w) =
    rBd (ev d 44 [.ref 178, .ref p1, .int (iI v2), .int (iI (s0 + 1))] (mk m q w)) (fun v M' => gv d rR109 30 [some (.ref 177), some (.ref p1), some (.int (iI v2)), some (.int (iI (s0 + 1)))] (v.toList ++ []) M') := by
  refine Eq.trans (k_con rfl) ?_
  refine Eq.trans (k_add rfl) ?_
  refine Eq.trans (k_ist3 rfl) ?_
  refine Eq.trans (k_ald0 rfl) ?_
  refine Eq.trans (k_gtR rfl s_177 rfl (by decide)) ?_
  refine Eq.trans (k_ald1 rfl) ?_
  refine Eq.trans (k_ild2 rfl) ?_
  refine Eq.trans (k_ild3 rfl) ?_
  exact k_cV3 rfl s_178 q_44 rfl rfl rfl (bl rfl)
theorem b_109_30 {d : Nat} {m : Nat → Nat → Int} {q : Nat → Nat → Option Nat} {w : Option (Nat → Int64)} {u0 u1 u2 u3 : Option Value} {s0 : Int}   : gv d rR109 30 [u0, u1, u2, u3] [.int (iI s0)] (mk m q w) =
    some (.inl none, (mk m q w, (0, 0))) := by
  refine Eq.trans (k_pop rfl rfl) ?_
  exact k_rtV rfl rfl
theorem e_109 {d : Nat} (hd : 1 ≤ d) {a0 a1 : Value} (M : rMem) (h0 : a0.category = 1) (h1 : a1.category = 1) : ev d 109 [a0, a1] M = gv (d - 1) rR109 0 [some a0, some a1, none, none] [] M := ev_at hd q_109 rfl (by simp [*]) rfl
/-! FanHouse$Years.drawSwap()V -/
theorem b_110_0 {d : Nat} {m : Nat → Nat → Int} {q : Nat → Nat → Option Nat} {w : Option (Nat → Int64)} {u1 u2 : Option Value}   : gv d rR110 0 [some (.ref 177), u1, u2] [] (mk m q w) =
    rBd (ev d 108 [.ref 177, .int (iI (m 178 0))] (mk m q w)) (fun v M' => gv d rR110 11 [some (.ref 177), u1, u2] (v.toList ++ []) M') := by
  refine Eq.trans (k_ald0 rfl) ?_
  refine Eq.trans (k_ald0 rfl) ?_
  refine Eq.trans (k_gtR rfl s_177 rfl (by decide)) ?_
  refine Eq.trans (k_gtI rfl s_178 rfl (by decide)) ?_
  exact k_cV1 rfl s_177 q_108 rfl rfl rfl (bl rfl)
theorem b_110_11 {d : Nat} {m : Nat → Nat → Int} {q : Nat → Nat → Option Nat} {w : Option (Nat → Int64)} {u1 u2 : Option Value} {s0 : Int}   : gv d rR110 11 [some (.ref 177), u1, u2] [.int (iI s0)] (mk m q w) =
    rBd (ev d 108 [.ref 177, .int (iI (m 178 0))] (mk m q w)) (fun v M' => gv d rR110 23 [some (.ref 177), some (.int (iI s0)), u2] (v.toList ++ []) M') := by
  refine Eq.trans (k_ist1 rfl) ?_
  refine Eq.trans (k_ald0 rfl) ?_
  refine Eq.trans (k_ald0 rfl) ?_
  refine Eq.trans (k_gtR rfl s_177 rfl (by decide)) ?_
  refine Eq.trans (k_gtI rfl s_178 rfl (by decide)) ?_
  exact k_cV1 rfl s_177 q_108 rfl rfl rfl (bl rfl)
theorem b_110_23 {d : Nat} {m : Nat → Nat → Int} {q : Nat → Nat → Option Nat} {w : Option (Nat → Int64)} {u2 : Option Value} {v1 s0 : Int}   : gv d rR110 23 [some (.ref 177), some (.int (iI v1)), u2] [.int (iI s0)] (mk m q w) =
    rBd (ev d 45 [.ref 178, .int (iI v1), .int (iI s0)] (mk m q w)) (fun v M' => gv d rR110 33 [some (.ref 177), some (.int (iI v1)), some (.int (iI s0))] (v.toList ++ []) M') := by
  refine Eq.trans (k_ist2 rfl) ?_
  refine Eq.trans (k_ald0 rfl) ?_
  refine Eq.trans (k_gtR rfl s_177 rfl (by decide)) ?_
  refine Eq.trans (k_ild1 rfl) ?_
  refine Eq.trans (k_ild2 rfl) ?_
  exact k_cV2 rfl s_178 q_45 rfl rfl rfl (bl rfl)
theorem b_110_33 {d : Nat} {m : Nat → Nat → Int} {q : Nat → Nat → Option Nat} {w : Option (Nat → Int64)} {u0 u1 u2 : Option Value} {s0 : Int}   : gv d rR110 33 [u0, u1, u2] [.int (iI s0)] (mk m q w) =
    some (.inl none, (mk m q w, (0, 0))) := by
  refine Eq.trans (k_pop rfl rfl) ?_
  exact k_rtV rfl rfl
theorem e_110 {d : Nat} (hd : 1 ≤ d) {a0 : Value} (M : rMem) (h0 : a0.category = 1) : ev d 110 [a0] M = gv (d - 1) rR110 0 [some a0, none, none] [] M := ev_at hd q_110 rfl (by simp [*]) rfl
/-! FanHouse$Years.drawPaint()V -/
theorem b_111_0 {d : Nat} {m : Nat → Nat → Int} {q : Nat → Nat → Option Nat} {w : Option (Nat → Int64)} {u1 u2 u3 : Option Value}   : gv d rR111 0 [some (.ref 177), u1, u2, u3] [] (mk m q w) =
    rBd (ev d 108 [.ref 177, .int (iI (m 178 0))] (mk m q w)) (fun v M' => gv d rR111 11 [some (.ref 177), u1, u2, u3] (v.toList ++ []) M') := by
  refine Eq.trans (k_ald0 rfl) ?_
  refine Eq.trans (k_ald0 rfl) ?_
  refine Eq.trans (k_gtR rfl s_177 rfl (by decide)) ?_
  refine Eq.trans (k_gtI rfl s_178 rfl (by decide)) ?_
  exact k_cV1 rfl s_177 q_108 rfl rfl rfl (bl rfl)
theorem b_111_11 {d : Nat} {m : Nat → Nat → Int} {q : Nat → Nat → Option Nat} {w : Option (Nat → Int64)} {u1 u2 u3 : Option Value} {s0 : Int}   : gv d rR111 11 [some (.ref 177), u1, u2, u3] [.int (iI s0)] (mk m q w) =
    rBd (ev d 108 [.ref 177, .int (iI 4)] (mk m q w)) (fun v M' => gv d rR111 17 [some (.ref 177), some (.int (iI s0)), u2, u3] (v.toList ++ []) M') := by
  refine Eq.trans (k_ist1 rfl) ?_
  refine Eq.trans (k_ald0 rfl) ?_
  refine Eq.trans (k_con rfl) ?_
  exact k_cV1 rfl s_177 q_108 rfl rfl rfl (bl rfl)
theorem b_111_17 {d : Nat} {m : Nat → Nat → Int} {q : Nat → Nat → Option Nat} {w : Option (Nat → Int64)} {u2 u3 : Option Value} {v1 s0 : Int}   : gv d rR111 17 [some (.ref 177), some (.int (iI v1)), u2, u3] [.int (iI s0)] (mk m q w) =
    rBd (ev d 108 [.ref 177, .int (iI 16)] (mk m q w)) (fun v M' => gv d rR111 24 [some (.ref 177), some (.int (iI v1)), some (.int (iI s0)), u3] (v.toList ++ []) M') := by
  refine Eq.trans (k_ist2 rfl) ?_
  refine Eq.trans (k_ald0 rfl) ?_
  refine Eq.trans (k_bip rfl (by decide)) ?_
  exact k_cV1 rfl s_177 q_108 rfl rfl rfl (bl rfl)
theorem b_111_24 {d : Nat} {m : Nat → Nat → Int} {q : Nat → Nat → Option Nat} {w : Option (Nat → Int64)} {u3 : Option Value} {v1 v2 s0 : Int}   : gv d rR111 24 [some (.ref 177), some (.int (iI v1)), some (.int (iI v2)), u3] [.int (iI s0)] (mk m q w) =
    rBd (ev d 47 [.ref 178, .int (iI v1), .int (iI v2), .int (iI s0)] (mk m q w)) (fun v M' => gv d rR111 35 [some (.ref 177), some (.int (iI v1)), some (.int (iI v2)), some (.int (iI s0))] (v.toList ++ []) M') := by
  refine Eq.trans (k_ist3 rfl) ?_
  refine Eq.trans (k_ald0 rfl) ?_
  refine Eq.trans (k_gtR rfl s_177 rfl (by decide)) ?_
  refine Eq.trans (k_ild1 rfl) ?_
  refine Eq.trans (k_ild2 rfl) ?_
  refine Eq.trans (k_ild3 rfl) ?_
  exact k_cV3 rfl s_178 q_47 rfl rfl rfl (bl rfl)
theorem b_111_35 {d : Nat} {m : Nat → Nat → Int} {q : Nat → Nat → Option Nat} {w : Option (Nat → Int64)} {u0 u1 u2 u3 : Option Value} {s0 : Int}   : gv d rR111 35 [u0, u1, u2, u3] [.int (iI s0)] (mk m q w) =
    some (.inl none, (mk m q w, (0, 0))) := by
  refine Eq.trans (k_pop rfl rfl) ?_
  exact k_rtV rfl rfl
theorem e_111 {d : Nat} (hd : 1 ≤ d) {a0 : Value} (M : rMem) (h0 : a0.category = 1) : ev d 111 [a0] M = gv (d - 1) rR111 0 [some a0, none, none, none] [] M := ev_at hd q_111 rfl (by simp [*]) rfl
/-! FanHouse$Years.act(LFanHouse$Law;)V -/
theorem b_112_0 {d : Nat} {m : Nat → Nat → Int} {q : Nat → Nat → Option Nat} {w : Option (Nat → Int64)} {p1 : Nat} (hp1 : iLaw p1)  : gv d rR112 0 [some (.ref 177), some (.ref p1)] [] (mk m q w) =
    rBd (ev d 108 [.ref 177, .int (iI 6)] (mk m q w)) (fun v M' => gv d rR112 6 [some (.ref 177), some (.ref p1)] (v.toList ++ []) M') := by
  refine Eq.trans (k_ald0 rfl) ?_
  refine Eq.trans (k_bip rfl (by decide)) ?_
  exact k_cV1 rfl s_177 q_108 rfl rfl rfl (bl rfl)
theorem b_112_6_0 {d : Nat} {m : Nat → Nat → Int} {q : Nat → Nat → Option Nat} {w : Option (Nat → Int64)}  {p1 : Nat} (hp1 : iLaw p1) : gv d rR112 6 [some (.ref 177), some (.ref p1)] [.int (iI 0)] (mk m q w) = gv d rR112 40 [some (.ref 177), some (.ref p1)] [] (mk m q w) := k_tsw rfl (by decide) (by decide) rfl rfl
theorem b_112_6_1 {d : Nat} {m : Nat → Nat → Int} {q : Nat → Nat → Option Nat} {w : Option (Nat → Int64)}  {p1 : Nat} (hp1 : iLaw p1) : gv d rR112 6 [some (.ref 177), some (.ref p1)] [.int (iI 1)] (mk m q w) = gv d rR112 48 [some (.ref 177), some (.ref p1)] [] (mk m q w) := k_tsw rfl (by decide) (by decide) rfl rfl
theorem b_112_6_2 {d : Nat} {m : Nat → Nat → Int} {q : Nat → Nat → Option Nat} {w : Option (Nat → Int64)}  {p1 : Nat} (hp1 : iLaw p1) : gv d rR112 6 [some (.ref 177), some (.ref p1)] [.int (iI 2)] (mk m q w) = gv d rR112 59 [some (.ref 177), some (.ref p1)] [] (mk m q w) := k_tsw rfl (by decide) (by decide) rfl rfl
theorem b_112_6_3 {d : Nat} {m : Nat → Nat → Int} {q : Nat → Nat → Option Nat} {w : Option (Nat → Int64)}  {p1 : Nat} (hp1 : iLaw p1) : gv d rR112 6 [some (.ref 177), some (.ref p1)] [.int (iI 3)] (mk m q w) = gv d rR112 66 [some (.ref 177), some (.ref p1)] [] (mk m q w) := k_tsw rfl (by decide) (by decide) rfl rfl
theorem b_112_6_4 {d : Nat} {m : Nat → Nat → Int} {q : Nat → Nat → Option Nat} {w : Option (Nat → Int64)}  {p1 : Nat} (hp1 : iLaw p1) : gv d rR112 6 [some (.ref 177), some (.ref p1)] [.int (iI 4)] (mk m q w) = gv d rR112 88 [some (.ref 177), some (.ref p1)] [] (mk m q w) := k_tsw rfl (by decide) (by decide) rfl rfl
theorem b_112_6_d {d : Nat} {m : Nat → Nat → Int} {q : Nat → Nat → Option Nat} {w : Option (Nat → Int64)} {s0 : Int} {p1 : Nat} (hp1 : iLaw p1) (g0 : i32 s0) (g1 : s0 < 0 ∨ 4 < s0) : gv d rR112 6 [some (.ref 177), some (.ref p1)] [.int (iI s0)] (mk m q w) = gv d rR112 95 [some (.ref 177), some (.ref p1)] [] (mk m q w) := k_tsd rfl g0 g1 rfl
theorem b_112_40 {d : Nat} {m : Nat → Nat → Int} {q : Nat → Nat → Option Nat} {w : Option (Nat → Int64)} {p1 : Nat} (hp1 : iLaw p1)  : gv d rR112 40 [some (.ref 177), some (.ref p1)] [] (mk m q w) =
    rBd (ev d 109 [.ref 177, .ref p1] (mk m q w)) (fun v M' => gv d rR112 45 [some (.ref 177), some (.ref p1)] (v.toList ++ []) M') := by
  refine Eq.trans (k_ald0 rfl) ?_
  refine Eq.trans (k_ald1 rfl) ?_
  exact k_cV1 rfl s_177 q_109 rfl rfl rfl (bl rfl)
theorem b_112_45 {d : Nat} {m : Nat → Nat → Int} {q : Nat → Nat → Option Nat} {w : Option (Nat → Int64)} {u0 u1 : Option Value}   : gv d rR112 45 [u0, u1] [] (mk m q w) =
    gv d rR112 103 [u0, u1] [] (mk m q w) := by
  refine Eq.trans (k_go rfl rfl) ?_
  exact rfl
theorem b_112_48 {d : Nat} {m : Nat → Nat → Int} {q : Nat → Nat → Option Nat} {w : Option (Nat → Int64)} {u1 : Option Value}   : gv d rR112 48 [some (.ref 177), u1] [] (mk m q w) =
    rBd (ev d 24 [.ref 178] (mk m q w)) (fun v M' => gv d rR112 55 [some (.ref 177), u1] (v.toList ++ []) M') := by
  refine Eq.trans (k_ald0 rfl) ?_
  refine Eq.trans (k_gtR rfl s_177 rfl (by decide)) ?_
  exact k_cV0 rfl s_178 q_24 rfl rfl rfl (bl rfl)
theorem b_112_55 {d : Nat} {m : Nat → Nat → Int} {q : Nat → Nat → Option Nat} {w : Option (Nat → Int64)} {u0 u1 : Option Value} {s0 : Int}   : gv d rR112 55 [u0, u1] [.int (iI s0)] (mk m q w) =
    gv d rR112 103 [u0, u1] [] (mk m q w) := by
  refine Eq.trans (k_pop rfl rfl) ?_
  refine Eq.trans (k_go rfl rfl) ?_
  exact rfl
theorem b_112_59 {d : Nat} {m : Nat → Nat → Int} {q : Nat → Nat → Option Nat} {w : Option (Nat → Int64)} {u1 : Option Value}   : gv d rR112 59 [some (.ref 177), u1] [] (mk m q w) =
    rBd (ev d 110 [.ref 177] (mk m q w)) (fun v M' => gv d rR112 63 [some (.ref 177), u1] (v.toList ++ []) M') := by
  refine Eq.trans (k_ald0 rfl) ?_
  exact k_cV0 rfl s_177 q_110 rfl rfl rfl (bl rfl)
theorem b_112_63 {d : Nat} {m : Nat → Nat → Int} {q : Nat → Nat → Option Nat} {w : Option (Nat → Int64)} {u0 u1 : Option Value}   : gv d rR112 63 [u0, u1] [] (mk m q w) =
    gv d rR112 103 [u0, u1] [] (mk m q w) := by
  refine Eq.trans (k_go rfl rfl) ?_
  exact rfl
theorem b_112_66 {d : Nat} {m : Nat → Nat → Int} {q : Nat → Nat → Option Nat} {w : Option (Nat → Int64)} {u1 : Option Value}   : gv d rR112 66 [some (.ref 177), u1] [] (mk m q w) =
    rBd (ev d 108 [.ref 177, .int (iI (m 178 0))] (mk m q w)) (fun v M' => gv d rR112 81 [some (.ref 177), u1] (v.toList ++ [.ref 178]) M') := by
  refine Eq.trans (k_ald0 rfl) ?_
  refine Eq.trans (k_gtR rfl s_177 rfl (by decide)) ?_
  refine Eq.trans (k_ald0 rfl) ?_
  refine Eq.trans (k_ald0 rfl) ?_
  refine Eq.trans (k_gtR rfl s_177 rfl (by decide)) ?_
  refine Eq.trans (k_gtI rfl s_178 rfl (by decide)) ?_
  exact k_cV1 rfl s_177 q_108 rfl rfl rfl (bl rfl)
theorem b_112_81 {d : Nat} {m : Nat → Nat → Int} {q : Nat → Nat → Option Nat} {w : Option (Nat → Int64)} {u0 u1 : Option Value} {s1 : Int}   : gv d rR112 81 [u0, u1] [.int (iI s1), .ref 178] (mk m q w) =
    rBd (ev d 46 [.ref 178, .int (iI s1)] (mk m q w)) (fun v M' => gv d rR112 84 [u0, u1] (v.toList ++ []) M') := by
  exact k_cV1 rfl s_178 q_46 rfl rfl rfl (bl rfl)
theorem b_112_84 {d : Nat} {m : Nat → Nat → Int} {q : Nat → Nat → Option Nat} {w : Option (Nat → Int64)} {u0 u1 : Option Value} {s0 : Int}   : gv d rR112 84 [u0, u1] [.int (iI s0)] (mk m q w) =
    gv d rR112 103 [u0, u1] [] (mk m q w) := by
  refine Eq.trans (k_pop rfl rfl) ?_
  refine Eq.trans (k_go rfl rfl) ?_
  exact rfl
theorem b_112_88 {d : Nat} {m : Nat → Nat → Int} {q : Nat → Nat → Option Nat} {w : Option (Nat → Int64)} {u1 : Option Value}   : gv d rR112 88 [some (.ref 177), u1] [] (mk m q w) =
    rBd (ev d 111 [.ref 177] (mk m q w)) (fun v M' => gv d rR112 92 [some (.ref 177), u1] (v.toList ++ []) M') := by
  refine Eq.trans (k_ald0 rfl) ?_
  exact k_cV0 rfl s_177 q_111 rfl rfl rfl (bl rfl)
theorem b_112_92 {d : Nat} {m : Nat → Nat → Int} {q : Nat → Nat → Option Nat} {w : Option (Nat → Int64)} {u0 u1 : Option Value}   : gv d rR112 92 [u0, u1] [] (mk m q w) =
    gv d rR112 103 [u0, u1] [] (mk m q w) := by
  refine Eq.trans (k_go rfl rfl) ?_
  exact rfl
theorem b_112_95 {d : Nat} {m : Nat → Nat → Int} {q : Nat → Nat → Option Nat} {w : Option (Nat → Int64)} {u1 : Option Value}   : gv d rR112 95 [some (.ref 177), u1] [] (mk m q w) =
    rBd (ev d 48 [.ref 178] (mk m q w)) (fun v M' => gv d rR112 102 [some (.ref 177), u1] (v.toList ++ []) M') := by
  refine Eq.trans (k_ald0 rfl) ?_
  refine Eq.trans (k_gtR rfl s_177 rfl (by decide)) ?_
  exact k_cV0 rfl s_178 q_48 rfl rfl rfl (bl rfl)
theorem b_112_102 {d : Nat} {m : Nat → Nat → Int} {q : Nat → Nat → Option Nat} {w : Option (Nat → Int64)} {u0 u1 : Option Value} {s0 : Int}   : gv d rR112 102 [u0, u1] [.int (iI s0)] (mk m q w) =
    gv d rR112 103 [u0, u1] [] (mk m q w) := by
  refine Eq.trans (k_pop rfl rfl) ?_
  exact rfl
theorem b_112_103 {d : Nat} {m : Nat → Nat → Int} {q : Nat → Nat → Option Nat} {w : Option (Nat → Int64)} {u0 u1 : Option Value}   : gv d rR112 103 [u0, u1] [] (mk m q w) =
    some (.inl none, (mk m q w, (0, 0))) := by
  exact k_rtV rfl rfl
theorem e_112 {d : Nat} (hd : 1 ≤ d) {a0 a1 : Value} (M : rMem) (h0 : a0.category = 1) (h1 : a1.category = 1) : ev d 112 [a0, a1] M = gv (d - 1) rR112 0 [some a0, some a1] [] M := ev_at hd q_112 rfl (by simp [*]) rfl
/-! FanHouse$Years.live(LFanHouse$Fan;LFanHouse$Law;III)V -/
theorem b_113_0 {d : Nat} {m : Nat → Nat → Int} {q : Nat → Nat → Option Nat} {w : Option (Nat → Int64)} {u6 u7 : Option Value} {v3 v4 v5 : Int} {p1 : Nat} {p2 : Nat} (hp1 : iFan p1) (hp2 : iLaw p2)  : gv d rR113 0 [some (.ref 177), some (.ref p1), some (.ref p2), some (.int (iI v3)), some (.int (iI v4)), some (.int (iI v5)), u6, u7] [] (mk m q w) =
    rBd (ev d 22 [.ref 178, .ref p1] (mk m q w)) (fun v M' => gv d rR113 8 [some (.ref 177), some (.ref p1), some (.ref p2), some (.int (iI v3)), some (.int (iI v4)), some (.int (iI v5)), u6, u7] (v.toList ++ []) M') := by
  refine Eq.trans (k_ald0 rfl) ?_
  refine Eq.trans (k_gtR rfl s_177 rfl (by decide)) ?_
  refine Eq.trans (k_ald1 rfl) ?_
  exact k_cV1 rfl s_178 q_22 rfl rfl rfl (bl rfl)
theorem b_113_8 {d : Nat} {m : Nat → Nat → Int} {q : Nat → Nat → Option Nat} {w : Option (Nat → Int64)} {u6 u7 : Option Value} {v3 v4 v5 : Int} {p1 : Nat} {p2 : Nat} (hp1 : iFan p1) (hp2 : iLaw p2)  : gv d rR113 8 [some (.ref 177), some (.ref p1), some (.ref p2), some (.int (iI v3)), some (.int (iI v4)), some (.int (iI v5)), u6, u7] [] (mk m q w) =
    gv d rR113 16 [some (.ref 177), some (.ref p1), some (.ref p2), some (.int (iI v3)), some (.int (iI v4)), some (.int (iI v5)), some (.int (iI 0)), u7] [] (mk (wr m 177 2 v3) q w) := by
  refine Eq.trans (k_ald0 rfl) ?_
  refine Eq.trans (k_ild3 rfl) ?_
  refine Eq.trans (k_ptI rfl s_177 rfl rfl) ?_
  refine Eq.trans (k_con rfl) ?_
  refine Eq.trans (k_ist6 rfl) ?_
  exact rfl
theorem b_113_16 {d : Nat} {m : Nat → Nat → Int} {q : Nat → Nat → Option Nat} {w : Option (Nat → Int64)} {u3 u7 : Option Value} {v4 v5 v6 : Int} {p1 : Nat} {p2 : Nat} (hp1 : iFan p1) (hp2 : iLaw p2)  : gv d rR113 16 [some (.ref 177), some (.ref p1), some (.ref p2), u3, some (.int (iI v4)), some (.int (iI v5)), some (.int (iI v6)), u7] [] (mk m q w) =
    if iI v6 < iI v5 then (gv d rR113 26 [some (.ref 177), some (.ref p1), some (.ref p2), u3, some (.int (iI v4)), some (.int (iI v5)), some (.int (iI v6)), some (.int (iI 0))] [] (mk m q w)) else (some (.inl none, (mk (wr m 177 1 ((m 178 5) - (m p1 5))) q w, (0, 0)))) := by
  refine Eq.trans (k_ild6 rfl) ?_
  refine Eq.trans (k_ild5 rfl) ?_
  refine Eq.trans (k_i2ge rfl rfl) ?_
  refine ifc ?_ ?_
  · refine Eq.trans (k_con rfl) ?_
    refine Eq.trans (k_ist7 rfl) ?_
    exact rfl
  · refine Eq.trans (k_ald0 rfl) ?_
    refine Eq.trans (k_ald0 rfl) ?_
    refine Eq.trans (k_gtR rfl s_177 rfl (by decide)) ?_
    refine Eq.trans (k_gtI rfl s_178 rfl (by decide)) ?_
    refine Eq.trans (k_ald1 rfl) ?_
    refine Eq.trans (k_gtI rfl (fan_0 hp1) rfl (by decide)) ?_
    refine Eq.trans (k_sub rfl) ?_
    refine Eq.trans (k_ptI rfl s_177 rfl rfl) ?_
    exact k_rtV rfl rfl
theorem b_113_26 {d : Nat} {m : Nat → Nat → Int} {q : Nat → Nat → Option Nat} {w : Option (Nat → Int64)} {u3 : Option Value} {v4 v5 v6 v7 : Int} {p1 : Nat} {p2 : Nat} (hp1 : iFan p1) (hp2 : iLaw p2)  : gv d rR113 26 [some (.ref 177), some (.ref p1), some (.ref p2), u3, some (.int (iI v4)), some (.int (iI v5)), some (.int (iI v6)), some (.int (iI v7))] [] (mk m q w) =
    if iI v7 < iI 4 then (rBd (ev d 108 [.ref 177, .int (iI 16)] (mk m q w)) (fun v M' => gv d rR113 38 [some (.ref 177), some (.ref p1), some (.ref p2), u3, some (.int (iI v4)), some (.int (iI v5)), some (.int (iI v6)), some (.int (iI v7))] (v.toList ++ []) M')) else (rBd (ev d 49 [.ref 178] (mk m q w)) (fun v M' => gv d rR113 71 [some (.ref 177), some (.ref p1), some (.ref p2), u3, some (.int (iI v4)), some (.int (iI v5)), some (.int (iI v6)), some (.int (iI v7))] (v.toList ++ []) M')) := by
  refine Eq.trans (k_ild7 rfl) ?_
  refine Eq.trans (k_con rfl) ?_
  refine Eq.trans (k_i2ge rfl rfl) ?_
  refine ifc ?_ ?_
  · refine Eq.trans (k_ald0 rfl) ?_
    refine Eq.trans (k_bip rfl (by decide)) ?_
    exact k_cV1 rfl s_177 q_108 rfl rfl rfl (bl rfl)
  · refine Eq.trans (k_ald0 rfl) ?_
    refine Eq.trans (k_gtR rfl s_177 rfl (by decide)) ?_
    exact k_cV0 rfl s_178 q_49 rfl rfl rfl (bl rfl)
theorem b_113_38 {d : Nat} {m : Nat → Nat → Int} {q : Nat → Nat → Option Nat} {w : Option (Nat → Int64)} {u3 : Option Value} {v4 v5 v6 v7 s0 : Int} {p1 : Nat} {p2 : Nat} (hp1 : iFan p1) (hp2 : iLaw p2)  : gv d rR113 38 [some (.ref 177), some (.ref p1), some (.ref p2), u3, some (.int (iI v4)), some (.int (iI v5)), some (.int (iI v6)), some (.int (iI v7))] [.int (iI s0)] (mk m q w) =
    if iI s0 < iI v4 then (if iI 0 < iI (m 178 0) then (rBd (ev d 112 [.ref 177, .ref p2] (mk m q w)) (fun v M' => gv d rR113 58 [some (.ref 177), some (.ref p1), some (.ref p2), u3, some (.int (iI v4)), some (.int (iI v5)), some (.int (iI v6)), some (.int (iI v7))] (v.toList ++ []) M')) else (gv d rR113 58 [some (.ref 177), some (.ref p1), some (.ref p2), u3, some (.int (iI v4)), some (.int (iI v5)), some (.int (iI v6)), some (.int (iI v7))] [] (mk m q w))) else (gv d rR113 58 [some (.ref 177), some (.ref p1), some (.ref p2), u3, some (.int (iI v4)), some (.int (iI v5)), some (.int (iI v6)), some (.int (iI v7))] [] (mk m q w)) := by
  refine Eq.trans (k_ild4 rfl) ?_
  refine Eq.trans (k_i2ge rfl rfl) ?_
  refine ifc ?_ ?_
  · refine Eq.trans (k_ald0 rfl) ?_
    refine Eq.trans (k_gtR rfl s_177 rfl (by decide)) ?_
    refine Eq.trans (k_gtI rfl s_178 rfl (by decide)) ?_
    refine Eq.trans (k_i1le rfl rfl) ?_
    refine ifc ?_ ?_
    · refine Eq.trans (k_ald0 rfl) ?_
      refine Eq.trans (k_ald2 rfl) ?_
      exact k_cV1 rfl s_177 q_112 rfl rfl rfl (bl rfl)
    · exact rfl
  · exact rfl
theorem b_113_58 {d : Nat} {m : Nat → Nat → Int} {q : Nat → Nat → Option Nat} {w : Option (Nat → Int64)} {u3 : Option Value} {v4 v5 v6 v7 : Int} {p1 : Nat} {p2 : Nat} (hp1 : iFan p1) (hp2 : iLaw p2)  : gv d rR113 58 [some (.ref 177), some (.ref p1), some (.ref p2), u3, some (.int (iI v4)), some (.int (iI v5)), some (.int (iI v6)), some (.int (iI v7))] [] (mk m q w) =
    gv d rR113 26 [some (.ref 177), some (.ref p1), some (.ref p2), u3, some (.int (iI v4)), some (.int (iI v5)), some (.int (iI v6)), some (.int (iI (v7 + 1)))] [] (mk m q w) := by
  refine Eq.trans (k_inc7 rfl) ?_
  refine Eq.trans (k_go rfl rfl) ?_
  exact rfl
theorem b_113_71 {d : Nat} {m : Nat → Nat → Int} {q : Nat → Nat → Option Nat} {w : Option (Nat → Int64)} {u3 u7 : Option Value} {v4 v5 v6 : Int} {p1 : Nat} {p2 : Nat} (hp1 : iFan p1) (hp2 : iLaw p2)  : gv d rR113 71 [some (.ref 177), some (.ref p1), some (.ref p2), u3, some (.int (iI v4)), some (.int (iI v5)), some (.int (iI v6)), u7] [] (mk m q w) =
    gv d rR113 16 [some (.ref 177), some (.ref p1), some (.ref p2), u3, some (.int (iI v4)), some (.int (iI v5)), some (.int (iI (v6 + 1))), u7] [] (mk m q w) := by
  refine Eq.trans (k_inc6 rfl) ?_
  refine Eq.trans (k_go rfl rfl) ?_
  exact rfl
theorem e_113 {d : Nat} (hd : 1 ≤ d) {a0 a1 a2 a3 a4 a5 : Value} (M : rMem) (h0 : a0.category = 1) (h1 : a1.category = 1) (h2 : a2.category = 1) (h3 : a3.category = 1) (h4 : a4.category = 1) (h5 : a5.category = 1) : ev d 113 [a0, a1, a2, a3, a4, a5] M = gv (d - 1) rR113 0 [some a0, some a1, some a2, some a3, some a4, some a5, none, none] [] M := ev_at hd q_113 rfl (by simp [*]) rfl
/-! FanHouse.feed(IIIII)I -/
theorem b_115_0 {d : Nat} {m : Nat → Nat → Int} {q : Nat → Nat → Option Nat} {w : Option (Nat → Int64)} {v1 v2 v3 v4 v5 : Int}   : gv d rR115 0 [some (.ref 100), some (.int (iI v1)), some (.int (iI v2)), some (.int (iI v3)), some (.int (iI v4)), some (.int (iI v5))] [] (mk m q w) =
    rBd (ev d 80 [.ref 101] (mk m q w)) (fun v M' => gv d rR115 7 [some (.ref 100), some (.int (iI v1)), some (.int (iI v2)), some (.int (iI v3)), some (.int (iI v4)), some (.int (iI v5))] (v.toList ++ []) M') := by
  refine Eq.trans (k_ald0 rfl) ?_
  refine Eq.trans (k_gtR rfl s_100 rfl (by decide)) ?_
  exact k_cV0 rfl s_101 q_80 rfl rfl rfl (bl rfl)
theorem b_115_7 {d : Nat} {m : Nat → Nat → Int} {q : Nat → Nat → Option Nat} {w : Option (Nat → Int64)} {v1 v2 v3 v4 v5 s0 : Int}   : gv d rR115 7 [some (.ref 100), some (.int (iI v1)), some (.int (iI v2)), some (.int (iI v3)), some (.int (iI v4)), some (.int (iI v5))] [.int (iI s0)] (mk m q w) =
    if iI s0 = iI 0 then (some (.inl (some (.int (iI (-1)))), (mk m q w, (0, 0)))) else (rBd (ev d 81 [.ref 101, .int (iI v1)] (mk m q w)) (fun v M' => gv d rR115 20 [some (.ref 100), some (.int (iI v1)), some (.int (iI v2)), some (.int (iI v3)), some (.int (iI v4)), some (.int (iI v5))] (v.toList ++ []) M')) := by
  refine Eq.trans (k_i1ne rfl rfl) ?_
  refine ifc ?_ ?_
  · refine Eq.trans (k_con rfl) ?_
    exact k_rtI rfl rfl
  · refine Eq.trans (k_ald0 rfl) ?_
    refine Eq.trans (k_gtR rfl s_100 rfl (by decide)) ?_
    refine Eq.trans (k_ild1 rfl) ?_
    exact k_cV1 rfl s_101 q_81 rfl rfl rfl (bl rfl)
theorem b_115_20 {d : Nat} {m : Nat → Nat → Int} {q : Nat → Nat → Option Nat} {w : Option (Nat → Int64)} {u1 : Option Value} {v2 v3 v4 v5 : Int}   : gv d rR115 20 [some (.ref 100), u1, some (.int (iI v2)), some (.int (iI v3)), some (.int (iI v4)), some (.int (iI v5))] [] (mk m q w) =
    rBd (ev d 81 [.ref 101, .int (iI v2)] (mk m q w)) (fun v M' => gv d rR115 28 [some (.ref 100), u1, some (.int (iI v2)), some (.int (iI v3)), some (.int (iI v4)), some (.int (iI v5))] (v.toList ++ []) M') := by
  refine Eq.trans (k_ald0 rfl) ?_
  refine Eq.trans (k_gtR rfl s_100 rfl (by decide)) ?_
  refine Eq.trans (k_ild2 rfl) ?_
  exact k_cV1 rfl s_101 q_81 rfl rfl rfl (bl rfl)
theorem b_115_28 {d : Nat} {m : Nat → Nat → Int} {q : Nat → Nat → Option Nat} {w : Option (Nat → Int64)} {u1 u2 : Option Value} {v3 v4 v5 : Int}   : gv d rR115 28 [some (.ref 100), u1, u2, some (.int (iI v3)), some (.int (iI v4)), some (.int (iI v5))] [] (mk m q w) =
    rBd (ev d 81 [.ref 101, .int (iI v3)] (mk m q w)) (fun v M' => gv d rR115 36 [some (.ref 100), u1, u2, some (.int (iI v3)), some (.int (iI v4)), some (.int (iI v5))] (v.toList ++ []) M') := by
  refine Eq.trans (k_ald0 rfl) ?_
  refine Eq.trans (k_gtR rfl s_100 rfl (by decide)) ?_
  refine Eq.trans (k_ild3 rfl) ?_
  exact k_cV1 rfl s_101 q_81 rfl rfl rfl (bl rfl)
theorem b_115_36 {d : Nat} {m : Nat → Nat → Int} {q : Nat → Nat → Option Nat} {w : Option (Nat → Int64)} {u1 u2 u3 : Option Value} {v4 v5 : Int}   : gv d rR115 36 [some (.ref 100), u1, u2, u3, some (.int (iI v4)), some (.int (iI v5))] [] (mk m q w) =
    rBd (ev d 81 [.ref 101, .int (iI v4)] (mk m q w)) (fun v M' => gv d rR115 45 [some (.ref 100), u1, u2, u3, some (.int (iI v4)), some (.int (iI v5))] (v.toList ++ []) M') := by
  refine Eq.trans (k_ald0 rfl) ?_
  refine Eq.trans (k_gtR rfl s_100 rfl (by decide)) ?_
  refine Eq.trans (k_ild4 rfl) ?_
  exact k_cV1 rfl s_101 q_81 rfl rfl rfl (bl rfl)
theorem b_115_45 {d : Nat} {m : Nat → Nat → Int} {q : Nat → Nat → Option Nat} {w : Option (Nat → Int64)} {u1 u2 u3 u4 : Option Value} {v5 : Int}   : gv d rR115 45 [some (.ref 100), u1, u2, u3, u4, some (.int (iI v5))] [] (mk m q w) =
    rBd (ev d 81 [.ref 101, .int (iI v5)] (mk m q w)) (fun v M' => gv d rR115 54 [some (.ref 100), u1, u2, u3, u4, some (.int (iI v5))] (v.toList ++ []) M') := by
  refine Eq.trans (k_ald0 rfl) ?_
  refine Eq.trans (k_gtR rfl s_100 rfl (by decide)) ?_
  refine Eq.trans (k_ild5 rfl) ?_
  exact k_cV1 rfl s_101 q_81 rfl rfl rfl (bl rfl)
theorem b_115_54 {d : Nat} {m : Nat → Nat → Int} {q : Nat → Nat → Option Nat} {w : Option (Nat → Int64)} {u1 u2 u3 u4 u5 : Option Value}   : gv d rR115 54 [some (.ref 100), u1, u2, u3, u4, u5] [] (mk m q w) =
    some (.inl (some (.int (iI (m 101 1)))), (mk m q w, (0, 0))) := by
  refine Eq.trans (k_ald0 rfl) ?_
  refine Eq.trans (k_gtR rfl s_100 rfl (by decide)) ?_
  refine Eq.trans (k_gtI rfl s_101 rfl (by decide)) ?_
  exact k_rtI rfl rfl
theorem e_115 {d : Nat} (hd : 1 ≤ d) {a0 a1 a2 a3 a4 a5 : Value} (M : rMem) (h0 : a0.category = 1) (h1 : a1.category = 1) (h2 : a2.category = 1) (h3 : a3.category = 1) (h4 : a4.category = 1) (h5 : a5.category = 1) : ev d 115 [a0, a1, a2, a3, a4, a5] M = gv (d - 1) rR115 0 [some a0, some a1, some a2, some a3, some a4, some a5] [] M := ev_at hd q_115 rfl (by simp [*]) rfl
/-! FanHouse.fan(I)I -/
theorem b_117_0 {d : Nat} {m : Nat → Nat → Int} {q : Nat → Nat → Option Nat} {w : Option (Nat → Int64)} {v1 : Int}   : gv d rR117 0 [some (.ref 100), some (.int (iI v1))] [] (mk m q w) =
    rBd (ev d 82 [.ref 101, .int (iI v1), .int (iI 600)] (mk m q w)) (fun v M' => gv d rR117 12 [some (.ref 100), some (.int (iI v1))] (v.toList ++ [.ref 100]) M') := by
  refine Eq.trans (k_ald0 rfl) ?_
  refine Eq.trans (k_ald0 rfl) ?_
  refine Eq.trans (k_gtR rfl s_100 rfl (by decide)) ?_
  refine Eq.trans (k_ild1 rfl) ?_
  refine Eq.trans (k_sip rfl (by decide)) ?_
  exact k_cV2 rfl s_101 q_82 rfl rfl rfl (bl rfl)
theorem b_117_12 {d : Nat} {m : Nat → Nat → Int} {q : Nat → Nat → Option Nat} {w : Option (Nat → Int64)} {v1 s1 : Int}   : gv d rR117 12 [some (.ref 100), some (.int (iI v1))] [.int (iI s1), .ref 100] (mk m q w) =
    rBd (ev d 116 [.ref 100, .int (iI s1)] (mk m q w)) (fun v M' => gv d rR117 15 [some (.ref 100), some (.int (iI v1))] (v.toList ++ []) M') := by
  exact k_cV1 rfl s_100 q_116 rfl rfl rfl (bl rfl)
theorem b_117_15 {d : Nat} {m : Nat → Nat → Int} {q : Nat → Nat → Option Nat} {w : Option (Nat → Int64)} {v1 : Int}   : gv d rR117 15 [some (.ref 100), some (.int (iI v1))] [] (mk m q w) =
    rBd (ev d 83 [.ref 101, .int (iI v1)] (mk m q w)) (fun v M' => gv d rR117 23 [some (.ref 100), some (.int (iI v1))] (v.toList ++ []) M') := by
  refine Eq.trans (k_ald0 rfl) ?_
  refine Eq.trans (k_gtR rfl s_100 rfl (by decide)) ?_
  refine Eq.trans (k_ild1 rfl) ?_
  exact k_cV1 rfl s_101 q_83 rfl rfl rfl (bl rfl)
theorem b_117_23 {d : Nat} {m : Nat → Nat → Int} {q : Nat → Nat → Option Nat} {w : Option (Nat → Int64)} {u1 : Option Value}   : gv d rR117 23 [some (.ref 100), u1] [] (mk m q w) =
    rBd (ev d 31 [.ref 161, .ref 101] (mk m q w)) (fun v M' => gv d rR117 34 [some (.ref 100), u1] (v.toList ++ []) M') := by
  refine Eq.trans (k_ald0 rfl) ?_
  refine Eq.trans (k_gtR rfl s_100 rfl (by decide)) ?_
  refine Eq.trans (k_ald0 rfl) ?_
  refine Eq.trans (k_gtR rfl s_100 rfl (by decide)) ?_
  exact k_cV1 rfl s_161 q_31 rfl rfl rfl (bl rfl)
theorem b_117_34 {d : Nat} {m : Nat → Nat → Int} {q : Nat → Nat → Option Nat} {w : Option (Nat → Int64)} {u1 : Option Value}   : gv d rR117 34 [some (.ref 100), u1] [] (mk m q w) =
    rBd (ev d 85 [.ref 101] (mk m q w)) (fun v M' => gv d rR117 41 [some (.ref 100), u1] (v.toList ++ []) M') := by
  refine Eq.trans (k_ald0 rfl) ?_
  refine Eq.trans (k_gtR rfl s_100 rfl (by decide)) ?_
  exact k_cV0 rfl s_101 q_85 rfl rfl rfl (bl rfl)
theorem b_117_41 {d : Nat} {m : Nat → Nat → Int} {q : Nat → Nat → Option Nat} {w : Option (Nat → Int64)} {u1 : Option Value} {s0 : Int}   : gv d rR117 41 [some (.ref 100), u1] [.int (iI s0)] (mk m q w) =
    if iI s0 = iI 0 then (rBd (ev d 22 [.ref 108, .ref 161] (mk m q w)) (fun v M' => gv d rR117 66 [some (.ref 100), u1] (v.toList ++ []) M')) else (rBd (ev d 86 [.ref 101] (mk m q w)) (fun v M' => gv d rR117 51 [some (.ref 100), u1] (v.toList ++ []) M')) := by
  refine Eq.trans (k_i1eq rfl rfl) ?_
  refine ifc ?_ ?_
  · refine Eq.trans (k_ald0 rfl) ?_
    refine Eq.trans (k_gtR rfl s_100 rfl (by decide)) ?_
    refine Eq.trans (k_gtR rfl s_107 rfl (by decide)) ?_
    refine Eq.trans (k_ald0 rfl) ?_
    refine Eq.trans (k_gtR rfl s_100 rfl (by decide)) ?_
    exact k_cV1 rfl s_108 q_22 rfl rfl rfl (bl rfl)
  · refine Eq.trans (k_ald0 rfl) ?_
    refine Eq.trans (k_gtR rfl s_100 rfl (by decide)) ?_
    exact k_cV0 rfl s_101 q_86 rfl rfl rfl (bl rfl)
theorem b_117_51 {d : Nat} {m : Nat → Nat → Int} {q : Nat → Nat → Option Nat} {w : Option (Nat → Int64)} {u0 u1 : Option Value} {s0 : Int}   : gv d rR117 51 [u0, u1] [.int (iI s0)] (mk m q w) =
    some (.inl (some (.int (iI s0))), (mk m q w, (0, 0))) := by
  exact k_rtI rfl rfl
theorem b_117_66 {d : Nat} {m : Nat → Nat → Int} {q : Nat → Nat → Option Nat} {w : Option (Nat → Int64)} {u1 : Option Value}   : gv d rR117 66 [some (.ref 100), u1] [] (mk m q w) =
    gv d rR117 88 [some (.ref 100), u1] (rOv (q 100 9) :: []) (mk (wr (wr (wr m 107 2 0) 100 14 0) 100 15 0) q w) := by
  refine Eq.trans (k_ald0 rfl) ?_
  refine Eq.trans (k_gtR rfl s_100 rfl (by decide)) ?_
  refine Eq.trans (k_con rfl) ?_
  refine Eq.trans (k_ptI rfl s_107 rfl rfl) ?_
  refine Eq.trans (k_ald0 rfl) ?_
  refine Eq.trans (k_con rfl) ?_
  refine Eq.trans (k_ptI rfl s_100 rfl rfl) ?_
  refine Eq.trans (k_ald0 rfl) ?_
  refine Eq.trans (k_con rfl) ?_
  refine Eq.trans (k_ptI rfl s_100 rfl rfl) ?_
  refine Eq.trans (k_ald0 rfl) ?_
  exact k_gtV rfl s_100 rfl (by decide)
theorem b_117_88 {d : Nat} {m : Nat → Nat → Int} {q : Nat → Nat → Option Nat} {w : Option (Nat → Int64)} {u1 : Option Value} {z85 : Nat} (hz85 : iLaw z85)  : gv d rR117 88 [some (.ref 100), u1] [.ref z85] (mk m q w) =
    rBd (ev d 64 [.ref z85] (mk m q w)) (fun v M' => gv d rR117 91 [some (.ref 100), u1] (v.toList ++ []) M') := by
  exact k_cV0 rfl (law_0 hz85) q_64 rfl rfl rfl (bl rfl)
theorem b_117_91 {d : Nat} {m : Nat → Nat → Int} {q : Nat → Nat → Option Nat} {w : Option (Nat → Int64)} {u1 : Option Value}   : gv d rR117 91 [some (.ref 100), u1] [] (mk m q w) =
    gv d rR117 97 [some (.ref 100), u1] (rOv (q 181 0) :: []) (mk m q w) := by
  refine Eq.trans (k_ald0 rfl) ?_
  refine Eq.trans (k_gtR rfl s_100 rfl (by decide)) ?_
  refine Eq.trans (k_con rfl) ?_
  exact k_aaV (t := 1) rfl s_181 (bl rfl) (by decide) (by decide)
theorem b_117_97 {d : Nat} {m : Nat → Nat → Int} {q : Nat → Nat → Option Nat} {w : Option (Nat → Int64)} {u1 : Option Value} {z96 : Nat} (hz96 : iPic z96)  : gv d rR117 97 [some (.ref 100), u1] [.ref z96] (mk m q w) =
    gv d rR117 107 [some (.ref 100), u1] (rOv (q 181 1) :: []) (mk (wr m z96 1 0) q w) := by
  refine Eq.trans (k_con rfl) ?_
  refine Eq.trans (k_ptI rfl (pic_0 hz96) rfl rfl) ?_
  refine Eq.trans (k_ald0 rfl) ?_
  refine Eq.trans (k_gtR rfl s_100 rfl (by decide)) ?_
  refine Eq.trans (k_con rfl) ?_
  exact k_aaV (t := 1) rfl s_181 (bl rfl) (by decide) (by decide)
theorem b_117_107 {d : Nat} {m : Nat → Nat → Int} {q : Nat → Nat → Option Nat} {w : Option (Nat → Int64)} {u1 : Option Value} {z106 : Nat} (hz106 : iPic z106)  : gv d rR117 107 [some (.ref 100), u1] [.ref z106] (mk m q w) =
    gv d rR117 115 [some (.ref 100), u1] (rOv (q 100 12) :: []) (mk (wr m z106 1 0) q w) := by
  refine Eq.trans (k_con rfl) ?_
  refine Eq.trans (k_ptI rfl (pic_0 hz106) rfl rfl) ?_
  refine Eq.trans (k_ald0 rfl) ?_
  exact k_gtV rfl s_100 rfl (by decide)
theorem b_117_115 {d : Nat} {m : Nat → Nat → Int} {q : Nat → Nat → Option Nat} {w : Option (Nat → Int64)} {u1 : Option Value} {z112 : Nat} (hz112 : iBook z112)  : gv d rR117 115 [some (.ref 100), u1] [.ref z112] (mk m q w) =
    some (.inl (some (.int (iI ((wr m z112 3 0) 108 0)))), (mk (wr m z112 3 0) q w, (0, 0))) := by
  refine Eq.trans (k_con rfl) ?_
  refine Eq.trans (k_ptI rfl (book_0 hz112) rfl rfl) ?_
  refine Eq.trans (k_ald0 rfl) ?_
  refine Eq.trans (k_gtR rfl s_100 rfl (by decide)) ?_
  refine Eq.trans (k_gtR rfl s_107 rfl (by decide)) ?_
  refine Eq.trans (k_gtI rfl s_108 rfl (by decide)) ?_
  exact k_rtI rfl rfl
theorem e_117 {d : Nat} (hd : 1 ≤ d) {a0 a1 : Value} (M : rMem) (h0 : a0.category = 1) (h1 : a1.category = 1) : ev d 117 [a0, a1] M = gv (d - 1) rR117 0 [some a0, some a1] [] M := ev_at hd q_117 rfl (by simp [*]) rfl
/-! FanHouse.law(I)I -/
theorem b_118_0 {d : Nat} {m : Nat → Nat → Int} {q : Nat → Nat → Option Nat} {w : Option (Nat → Int64)} {u2 : Option Value} {v1 : Int}   : gv d rR118 0 [some (.ref 100), some (.int (iI v1)), u2] [] (mk m q w) =
    rBd (ev d 82 [.ref 101, .int (iI v1), .int (iI 150)] (mk m q w)) (fun v M' => gv d rR118 12 [some (.ref 100), some (.int (iI v1)), u2] (v.toList ++ [.ref 100]) M') := by
  refine Eq.trans (k_ald0 rfl) ?_
  refine Eq.trans (k_ald0 rfl) ?_
  refine Eq.trans (k_gtR rfl s_100 rfl (by decide)) ?_
  refine Eq.trans (k_ild1 rfl) ?_
  refine Eq.trans (k_sip rfl (by decide)) ?_
  exact k_cV2 rfl s_101 q_82 rfl rfl rfl (bl rfl)
theorem b_118_12 {d : Nat} {m : Nat → Nat → Int} {q : Nat → Nat → Option Nat} {w : Option (Nat → Int64)} {u2 : Option Value} {v1 s1 : Int}   : gv d rR118 12 [some (.ref 100), some (.int (iI v1)), u2] [.int (iI s1), .ref 100] (mk m q w) =
    rBd (ev d 116 [.ref 100, .int (iI s1)] (mk m q w)) (fun v M' => gv d rR118 15 [some (.ref 100), some (.int (iI v1)), u2] (v.toList ++ []) M') := by
  exact k_cV1 rfl s_100 q_116 rfl rfl rfl (bl rfl)
theorem b_118_15 {d : Nat} {m : Nat → Nat → Int} {q : Nat → Nat → Option Nat} {w : Option (Nat → Int64)} {u2 : Option Value} {v1 : Int}   : gv d rR118 15 [some (.ref 100), some (.int (iI v1)), u2] [] (mk m q w) =
    rBd (ev d 83 [.ref 101, .int (iI v1)] (mk m q w)) (fun v M' => gv d rR118 23 [some (.ref 100), some (.int (iI v1)), u2] (v.toList ++ []) M') := by
  refine Eq.trans (k_ald0 rfl) ?_
  refine Eq.trans (k_gtR rfl s_100 rfl (by decide)) ?_
  refine Eq.trans (k_ild1 rfl) ?_
  exact k_cV1 rfl s_101 q_83 rfl rfl rfl (bl rfl)
theorem b_118_23 {d : Nat} {m : Nat → Nat → Int} {q : Nat → Nat → Option Nat} {w : Option (Nat → Int64)} {u1 u2 : Option Value}   : gv d rR118 23 [some (.ref 100), u1, u2] [] (mk m q w) =
    gv d rR118 27 [some (.ref 100), u1, u2] (rOv (q 100 10) :: []) (mk m q w) := by
  refine Eq.trans (k_ald0 rfl) ?_
  exact k_gtV rfl s_100 rfl (by decide)
theorem b_118_27 {d : Nat} {m : Nat → Nat → Int} {q : Nat → Nat → Option Nat} {w : Option (Nat → Int64)} {u1 u2 : Option Value} {z24 : Nat} (hz24 : iLaw z24)  : gv d rR118 27 [some (.ref 100), u1, u2] [.ref z24] (mk m q w) =
    rBd (ev d 72 [.ref z24, .ref 101] (mk m q w)) (fun v M' => gv d rR118 34 [some (.ref 100), u1, u2] (v.toList ++ []) M') := by
  refine Eq.trans (k_ald0 rfl) ?_
  refine Eq.trans (k_gtR rfl s_100 rfl (by decide)) ?_
  exact k_cV1 rfl (law_0 hz24) q_72 rfl rfl rfl (bl rfl)
theorem b_118_34 {d : Nat} {m : Nat → Nat → Int} {q : Nat → Nat → Option Nat} {w : Option (Nat → Int64)} {u1 u2 : Option Value}   : gv d rR118 34 [some (.ref 100), u1, u2] [] (mk m q w) =
    rBd (ev d 85 [.ref 101] (mk m q w)) (fun v M' => gv d rR118 41 [some (.ref 100), u1, u2] (v.toList ++ []) M') := by
  refine Eq.trans (k_ald0 rfl) ?_
  refine Eq.trans (k_gtR rfl s_100 rfl (by decide)) ?_
  exact k_cV0 rfl s_101 q_85 rfl rfl rfl (bl rfl)
theorem b_118_41 {d : Nat} {m : Nat → Nat → Int} {q : Nat → Nat → Option Nat} {w : Option (Nat → Int64)} {u1 u2 : Option Value} {s0 : Int}   : gv d rR118 41 [some (.ref 100), u1, u2] [.int (iI s0)] (mk m q w) =
    if iI s0 = iI 0 then (gv d rR118 56 [some (.ref 100), u1, u2] (rOv (q 100 9) :: []) (mk m q w)) else (rBd (ev d 86 [.ref 101] (mk m q w)) (fun v M' => gv d rR118 51 [some (.ref 100), u1, u2] (v.toList ++ []) M')) := by
  refine Eq.trans (k_i1eq rfl rfl) ?_
  refine ifc ?_ ?_
  · refine Eq.trans (k_ald0 rfl) ?_
    exact k_gtV rfl s_100 rfl (by decide)
  · refine Eq.trans (k_ald0 rfl) ?_
    refine Eq.trans (k_gtR rfl s_100 rfl (by decide)) ?_
    exact k_cV0 rfl s_101 q_86 rfl rfl rfl (bl rfl)
theorem b_118_51 {d : Nat} {m : Nat → Nat → Int} {q : Nat → Nat → Option Nat} {w : Option (Nat → Int64)} {u0 u1 u2 : Option Value} {s0 : Int}   : gv d rR118 51 [u0, u1, u2] [.int (iI s0)] (mk m q w) =
    some (.inl (some (.int (iI s0))), (mk m q w, (0, 0))) := by
  exact k_rtI rfl rfl
theorem b_118_56 {d : Nat} {m : Nat → Nat → Int} {q : Nat → Nat → Option Nat} {w : Option (Nat → Int64)} {u1 u2 : Option Value} {z53 : Nat} (hz53 : iLaw z53)  : gv d rR118 56 [some (.ref 100), u1, u2] [.ref z53] (mk m q w) =
    gv d rR118 62 [some (.ref 100), u1, some (.ref z53)] (rOv (q 100 10) :: [.ref 100]) (mk m q w) := by
  refine Eq.trans (k_ast2 rfl) ?_
  refine Eq.trans (k_ald0 rfl) ?_
  refine Eq.trans (k_ald0 rfl) ?_
  exact k_gtV rfl s_100 rfl (by decide)
theorem b_118_62 {d : Nat} {m : Nat → Nat → Int} {q : Nat → Nat → Option Nat} {w : Option (Nat → Int64)} {u1 : Option Value} {z53 : Nat} {z59 : Nat} (hz53 : iLaw z53) (hz59 : iLaw z59)  : gv d rR118 62 [some (.ref 100), u1, some (.ref z53)] [.ref z59, .ref 100] (mk m q w) =
    some (.inl (some (.int (iI 1))), (mk m (wq (wq q 100 9 (some z59)) 100 10 (some z53)) w, (0, 0))) := by
  refine Eq.trans (k_ptV rfl s_100 rfl rfl) ?_
  refine Eq.trans (k_ald0 rfl) ?_
  refine Eq.trans (k_ald2 rfl) ?_
  refine Eq.trans (k_ptV rfl s_100 rfl rfl) ?_
  refine Eq.trans (k_con rfl) ?_
  exact k_rtI rfl rfl
theorem e_118 {d : Nat} (hd : 1 ≤ d) {a0 a1 : Value} (M : rMem) (h0 : a0.category = 1) (h1 : a1.category = 1) : ev d 118 [a0, a1] M = gv (d - 1) rR118 0 [some a0, some a1, none] [] M := ev_at hd q_118 rfl (by simp [*]) rfl
/-! FanHouse.work(I)I -/
theorem b_119_0 {d : Nat} {m : Nat → Nat → Int} {q : Nat → Nat → Option Nat} {w : Option (Nat → Int64)} {v1 : Int}   : gv d rR119 0 [some (.ref 100), some (.int (iI v1))] [] (mk m q w) =
    rBd (ev d 82 [.ref 101, .int (iI v1), .int (iI 150)] (mk m q w)) (fun v M' => gv d rR119 12 [some (.ref 100), some (.int (iI v1))] (v.toList ++ [.ref 100]) M') := by
  refine Eq.trans (k_ald0 rfl) ?_
  refine Eq.trans (k_ald0 rfl) ?_
  refine Eq.trans (k_gtR rfl s_100 rfl (by decide)) ?_
  refine Eq.trans (k_ild1 rfl) ?_
  refine Eq.trans (k_sip rfl (by decide)) ?_
  exact k_cV2 rfl s_101 q_82 rfl rfl rfl (bl rfl)
theorem b_119_12 {d : Nat} {m : Nat → Nat → Int} {q : Nat → Nat → Option Nat} {w : Option (Nat → Int64)} {v1 s1 : Int}   : gv d rR119 12 [some (.ref 100), some (.int (iI v1))] [.int (iI s1), .ref 100] (mk m q w) =
    rBd (ev d 116 [.ref 100, .int (iI s1)] (mk m q w)) (fun v M' => gv d rR119 15 [some (.ref 100), some (.int (iI v1))] (v.toList ++ []) M') := by
  exact k_cV1 rfl s_100 q_116 rfl rfl rfl (bl rfl)
theorem b_119_15 {d : Nat} {m : Nat → Nat → Int} {q : Nat → Nat → Option Nat} {w : Option (Nat → Int64)} {v1 : Int}   : gv d rR119 15 [some (.ref 100), some (.int (iI v1))] [] (mk m q w) =
    if iI (m 107 2) < iI 16 then (rBd (ev d 83 [.ref 101, .int (iI v1)] (mk m q w)) (fun v M' => gv d rR119 54 [some (.ref 100), some (.int (iI v1))] (v.toList ++ []) M')) else (rBd (ev d 83 [.ref 101, .int (iI 0)] (mk m q w)) (fun v M' => gv d rR119 35 [some (.ref 100), some (.int (iI v1))] (v.toList ++ []) M')) := by
  refine Eq.trans (k_ald0 rfl) ?_
  refine Eq.trans (k_gtR rfl s_100 rfl (by decide)) ?_
  refine Eq.trans (k_gtI rfl s_107 rfl (by decide)) ?_
  refine Eq.trans (k_bip rfl (by decide)) ?_
  refine Eq.trans (k_i2lt rfl rfl) ?_
  refine ifc ?_ ?_
  · refine Eq.trans (k_ald0 rfl) ?_
    refine Eq.trans (k_gtR rfl s_100 rfl (by decide)) ?_
    refine Eq.trans (k_ild1 rfl) ?_
    exact k_cV1 rfl s_101 q_83 rfl rfl rfl (bl rfl)
  · refine Eq.trans (k_ald0 rfl) ?_
    refine Eq.trans (k_gtR rfl s_100 rfl (by decide)) ?_
    refine Eq.trans (k_con rfl) ?_
    exact k_cV1 rfl s_101 q_83 rfl rfl rfl (bl rfl)
theorem b_119_35 {d : Nat} {m : Nat → Nat → Int} {q : Nat → Nat → Option Nat} {w : Option (Nat → Int64)} {u1 : Option Value}   : gv d rR119 35 [some (.ref 100), u1] [] (mk m q w) =
    rBd (ev d 85 [.ref 101] (mk m q w)) (fun v M' => gv d rR119 42 [some (.ref 100), u1] (v.toList ++ []) M') := by
  refine Eq.trans (k_ald0 rfl) ?_
  refine Eq.trans (k_gtR rfl s_100 rfl (by decide)) ?_
  exact k_cV0 rfl s_101 q_85 rfl rfl rfl (bl rfl)
theorem b_119_42 {d : Nat} {m : Nat → Nat → Int} {q : Nat → Nat → Option Nat} {w : Option (Nat → Int64)} {u0 u1 : Option Value} {s0 : Int}   : gv d rR119 42 [u0, u1] [.int (iI s0)] (mk m q w) =
    some (.inl (some (.int (iI (-20)))), (mk m q w, (0, 0))) := by
  refine Eq.trans (k_pop rfl rfl) ?_
  refine Eq.trans (k_bip rfl (by decide)) ?_
  exact k_rtI rfl rfl
theorem b_119_54 {d : Nat} {m : Nat → Nat → Int} {q : Nat → Nat → Option Nat} {w : Option (Nat → Int64)} {u1 : Option Value}   : gv d rR119 54 [some (.ref 100), u1] [] (mk m q w) =
    rBd (ev d 102 [.ref 103, .ref 101, .int (iI (m 108 0))] (mk m q w)) (fun v M' => gv d rR119 75 [some (.ref 100), u1] (v.toList ++ []) M') := by
  refine Eq.trans (k_ald0 rfl) ?_
  refine Eq.trans (k_gtR rfl s_100 rfl (by decide)) ?_
  refine Eq.trans (k_ald0 rfl) ?_
  refine Eq.trans (k_gtR rfl s_100 rfl (by decide)) ?_
  refine Eq.trans (k_ald0 rfl) ?_
  refine Eq.trans (k_gtR rfl s_100 rfl (by decide)) ?_
  refine Eq.trans (k_gtR rfl s_107 rfl (by decide)) ?_
  refine Eq.trans (k_gtI rfl s_108 rfl (by decide)) ?_
  exact k_cV2 rfl s_103 q_102 rfl rfl rfl (bl rfl)
theorem b_119_75 {d : Nat} {m : Nat → Nat → Int} {q : Nat → Nat → Option Nat} {w : Option (Nat → Int64)} {u1 : Option Value}   : gv d rR119 75 [some (.ref 100), u1] [] (mk m q w) =
    rBd (ev d 85 [.ref 101] (mk m q w)) (fun v M' => gv d rR119 82 [some (.ref 100), u1] (v.toList ++ []) M') := by
  refine Eq.trans (k_ald0 rfl) ?_
  refine Eq.trans (k_gtR rfl s_100 rfl (by decide)) ?_
  exact k_cV0 rfl s_101 q_85 rfl rfl rfl (bl rfl)
theorem b_119_82 {d : Nat} {m : Nat → Nat → Int} {q : Nat → Nat → Option Nat} {w : Option (Nat → Int64)} {u1 : Option Value} {s0 : Int}   : gv d rR119 82 [some (.ref 100), u1] [.int (iI s0)] (mk m q w) =
    if iI s0 = iI 0 then (rBd (ev d 61 [.ref 107] (mk m q w)) (fun v M' => gv d rR119 100 [some (.ref 100), u1] (v.toList ++ []) M')) else (rBd (ev d 86 [.ref 101] (mk m q w)) (fun v M' => gv d rR119 92 [some (.ref 100), u1] (v.toList ++ []) M')) := by
  refine Eq.trans (k_i1eq rfl rfl) ?_
  refine ifc ?_ ?_
  · refine Eq.trans (k_ald0 rfl) ?_
    refine Eq.trans (k_gtR rfl s_100 rfl (by decide)) ?_
    exact k_cV0 rfl s_107 q_61 rfl rfl rfl (bl rfl)
  · refine Eq.trans (k_ald0 rfl) ?_
    refine Eq.trans (k_gtR rfl s_100 rfl (by decide)) ?_
    exact k_cV0 rfl s_101 q_86 rfl rfl rfl (bl rfl)
theorem b_119_92 {d : Nat} {m : Nat → Nat → Int} {q : Nat → Nat → Option Nat} {w : Option (Nat → Int64)} {u0 u1 : Option Value} {s0 : Int}   : gv d rR119 92 [u0, u1] [.int (iI s0)] (mk m q w) =
    some (.inl (some (.int (iI s0))), (mk m q w, (0, 0))) := by
  exact k_rtI rfl rfl
theorem b_119_100 {d : Nat} {m : Nat → Nat → Int} {q : Nat → Nat → Option Nat} {w : Option (Nat → Int64)} {u1 : Option Value}   : gv d rR119 100 [some (.ref 100), u1] [] (mk m q w) =
    gv d rR119 115 [some (.ref 100), u1] (rOv (q 100 9) :: [.ref 108, .ref 103]) (mk m q w) := by
  refine Eq.trans (k_ald0 rfl) ?_
  refine Eq.trans (k_gtR rfl s_100 rfl (by decide)) ?_
  refine Eq.trans (k_ald0 rfl) ?_
  refine Eq.trans (k_gtR rfl s_100 rfl (by decide)) ?_
  refine Eq.trans (k_gtR rfl s_107 rfl (by decide)) ?_
  refine Eq.trans (k_ald0 rfl) ?_
  exact k_gtV rfl s_100 rfl (by decide)
theorem b_119_115 {d : Nat} {m : Nat → Nat → Int} {q : Nat → Nat → Option Nat} {w : Option (Nat → Int64)} {u1 : Option Value} {z112 : Nat} (hz112 : iLaw z112)  : gv d rR119 115 [some (.ref 100), u1] [.ref z112, .ref 108, .ref 103] (mk m q w) =
    rBd (ev d 106 [.ref 103, .ref 108, .ref z112] (mk m q w)) (fun v M' => gv d rR119 118 [some (.ref 100), u1] (v.toList ++ []) M') := by
  exact k_cV2 rfl s_103 q_106 rfl rfl rfl (bl rfl)
theorem b_119_118 {d : Nat} {m : Nat → Nat → Int} {q : Nat → Nat → Option Nat} {w : Option (Nat → Int64)} {u1 : Option Value}   : gv d rR119 118 [some (.ref 100), u1] [] (mk m q w) =
    some (.inl (some (.int (iI ((wr m 100 15 (m 103 6)) 103 5)))), (mk (wr m 100 15 (m 103 6)) q w, (0, 0))) := by
  refine Eq.trans (k_ald0 rfl) ?_
  refine Eq.trans (k_ald0 rfl) ?_
  refine Eq.trans (k_gtR rfl s_100 rfl (by decide)) ?_
  refine Eq.trans (k_gtI rfl s_103 rfl (by decide)) ?_
  refine Eq.trans (k_ptI rfl s_100 rfl rfl) ?_
  refine Eq.trans (k_ald0 rfl) ?_
  refine Eq.trans (k_gtR rfl s_100 rfl (by decide)) ?_
  refine Eq.trans (k_gtI rfl s_103 rfl (by decide)) ?_
  exact k_rtI rfl rfl
theorem e_119 {d : Nat} (hd : 1 ≤ d) {a0 a1 : Value} (M : rMem) (h0 : a0.category = 1) (h1 : a1.category = 1) : ev d 119 [a0, a1] M = gv (d - 1) rR119 0 [some a0, some a1] [] M := ev_at hd q_119 rfl (by simp [*]) rfl
/-! FanHouse.picture(II)I -/
theorem b_120_0 {d : Nat} {m : Nat → Nat → Int} {q : Nat → Nat → Option Nat} {w : Option (Nat → Int64)} {u3 : Option Value} {v1 v2 : Int}   : gv d rR120 0 [some (.ref 100), some (.int (iI v1)), some (.int (iI v2)), u3] [] (mk m q w) =
    rBd (ev d 82 [.ref 101, .int (iI v1), .int (iI 60)] (mk m q w)) (fun v M' => gv d rR120 11 [some (.ref 100), some (.int (iI v1)), some (.int (iI v2)), u3] (v.toList ++ [.ref 100]) M') := by
  refine Eq.trans (k_ald0 rfl) ?_
  refine Eq.trans (k_ald0 rfl) ?_
  refine Eq.trans (k_gtR rfl s_100 rfl (by decide)) ?_
  refine Eq.trans (k_ild1 rfl) ?_
  refine Eq.trans (k_bip rfl (by decide)) ?_
  exact k_cV2 rfl s_101 q_82 rfl rfl rfl (bl rfl)
theorem b_120_11 {d : Nat} {m : Nat → Nat → Int} {q : Nat → Nat → Option Nat} {w : Option (Nat → Int64)} {u3 : Option Value} {v1 v2 s1 : Int}   : gv d rR120 11 [some (.ref 100), some (.int (iI v1)), some (.int (iI v2)), u3] [.int (iI s1), .ref 100] (mk m q w) =
    if iI s1 = iI 0 then (gv d rR120 27 [some (.ref 100), some (.int (iI v1)), some (.int (iI v2)), u3] [.ref 100] (mk m q w)) else (rBd (ev d 6 [.int (iI v2), .int (iI 0), .int (iI 1)] (mk m q w)) (fun v M' => gv d rR120 20 [some (.ref 100), some (.int (iI v1)), some (.int (iI v2)), u3] (v.toList ++ [.ref 100]) M')) := by
  refine Eq.trans (k_i1eq rfl rfl) ?_
  refine ifc ?_ ?_
  · exact rfl
  · refine Eq.trans (k_ild2 rfl) ?_
    refine Eq.trans (k_con rfl) ?_
    refine Eq.trans (k_con rfl) ?_
    exact k_cS3 rfl (by decide) q_6 rfl rfl (bl rfl)
theorem b_120_20 {d : Nat} {m : Nat → Nat → Int} {q : Nat → Nat → Option Nat} {w : Option (Nat → Int64)} {u3 : Option Value} {v1 v2 s1 : Int}   : gv d rR120 20 [some (.ref 100), some (.int (iI v1)), some (.int (iI v2)), u3] [.int (iI s1), .ref 100] (mk m q w) =
    if iI s1 = iI 0 then (gv d rR120 27 [some (.ref 100), some (.int (iI v1)), some (.int (iI v2)), u3] [.ref 100] (mk m q w)) else (gv d rR120 28 [some (.ref 100), some (.int (iI v1)), some (.int (iI v2)), u3] [.int (iI 1), .ref 100] (mk m q w)) := by
  refine Eq.trans (k_i1eq rfl rfl) ?_
  refine ifc ?_ ?_
  · exact rfl
  · refine Eq.trans (k_con rfl) ?_
    refine Eq.trans (k_go rfl rfl) ?_
    exact rfl
theorem b_120_27 {d : Nat} {m : Nat → Nat → Int} {q : Nat → Nat → Option Nat} {w : Option (Nat → Int64)} {u3 : Option Value} {v1 v2 : Int}   : gv d rR120 27 [some (.ref 100), some (.int (iI v1)), some (.int (iI v2)), u3] [.ref 100] (mk m q w) =
    gv d rR120 28 [some (.ref 100), some (.int (iI v1)), some (.int (iI v2)), u3] [.int (iI 0), .ref 100] (mk m q w) := by
  refine Eq.trans (k_con rfl) ?_
  exact rfl
theorem b_120_28 {d : Nat} {m : Nat → Nat → Int} {q : Nat → Nat → Option Nat} {w : Option (Nat → Int64)} {u3 : Option Value} {v1 v2 s1 : Int}   : gv d rR120 28 [some (.ref 100), some (.int (iI v1)), some (.int (iI v2)), u3] [.int (iI s1), .ref 100] (mk m q w) =
    rBd (ev d 116 [.ref 100, .int (iI s1)] (mk m q w)) (fun v M' => gv d rR120 31 [some (.ref 100), some (.int (iI v1)), some (.int (iI v2)), u3] (v.toList ++ []) M') := by
  exact k_cV1 rfl s_100 q_116 rfl rfl rfl (bl rfl)
theorem b_120_31 {d : Nat} {m : Nat → Nat → Int} {q : Nat → Nat → Option Nat} {w : Option (Nat → Int64)} {u3 : Option Value} {v1 v2 : Int}   : gv d rR120 31 [some (.ref 100), some (.int (iI v1)), some (.int (iI v2)), u3] [] (mk m q w) =
    rBd (ev d 83 [.ref 101, .int (iI v1)] (mk m q w)) (fun v M' => gv d rR120 39 [some (.ref 100), some (.int (iI v1)), some (.int (iI v2)), u3] (v.toList ++ []) M') := by
  refine Eq.trans (k_ald0 rfl) ?_
  refine Eq.trans (k_gtR rfl s_100 rfl (by decide)) ?_
  refine Eq.trans (k_ild1 rfl) ?_
  exact k_cV1 rfl s_101 q_83 rfl rfl rfl (bl rfl)
theorem b_120_39 {d : Nat} {m : Nat → Nat → Int} {q : Nat → Nat → Option Nat} {w : Option (Nat → Int64)} {u1 u3 : Option Value} {v2 : Int}   : gv d rR120 39 [some (.ref 100), u1, some (.int (iI v2)), u3] [] (mk m q w) =
    gv d rR120 43 [some (.ref 100), u1, some (.int (iI v2)), u3] (rOv (q 100 11) :: []) (mk m q w) := by
  refine Eq.trans (k_ald0 rfl) ?_
  exact k_gtV rfl s_100 rfl (by decide)
theorem b_120_43 {d : Nat} {m : Nat → Nat → Int} {q : Nat → Nat → Option Nat} {w : Option (Nat → Int64)} {u1 u3 : Option Value} {v2 : Int} {z40 : Nat} (hz40 : iPic z40)  : gv d rR120 43 [some (.ref 100), u1, some (.int (iI v2)), u3] [.ref z40] (mk m q w) =
    rBd (ev d 74 [.ref z40, .ref 101] (mk m q w)) (fun v M' => gv d rR120 50 [some (.ref 100), u1, some (.int (iI v2)), u3] (v.toList ++ []) M') := by
  refine Eq.trans (k_ald0 rfl) ?_
  refine Eq.trans (k_gtR rfl s_100 rfl (by decide)) ?_
  exact k_cV1 rfl (pic_0 hz40) q_74 rfl rfl rfl (bl rfl)
theorem b_120_50 {d : Nat} {m : Nat → Nat → Int} {q : Nat → Nat → Option Nat} {w : Option (Nat → Int64)} {u1 u3 : Option Value} {v2 : Int}   : gv d rR120 50 [some (.ref 100), u1, some (.int (iI v2)), u3] [] (mk m q w) =
    rBd (ev d 85 [.ref 101] (mk m q w)) (fun v M' => gv d rR120 57 [some (.ref 100), u1, some (.int (iI v2)), u3] (v.toList ++ []) M') := by
  refine Eq.trans (k_ald0 rfl) ?_
  refine Eq.trans (k_gtR rfl s_100 rfl (by decide)) ?_
  exact k_cV0 rfl s_101 q_85 rfl rfl rfl (bl rfl)
theorem b_120_57 {d : Nat} {m : Nat → Nat → Int} {q : Nat → Nat → Option Nat} {w : Option (Nat → Int64)} {u1 u3 : Option Value} {v2 s0 : Int}   : gv d rR120 57 [some (.ref 100), u1, some (.int (iI v2)), u3] [.int (iI s0)] (mk m q w) =
    if iI s0 = iI 0 then (gv d rR120 68 [some (.ref 100), u1, some (.int (iI v2)), u3] [] (mk m q w)) else (rBd (ev d 86 [.ref 101] (mk m q w)) (fun v M' => gv d rR120 67 [some (.ref 100), u1, some (.int (iI v2)), u3] (v.toList ++ []) M')) := by
  refine Eq.trans (k_i1eq rfl rfl) ?_
  refine ifc ?_ ?_
  · exact rfl
  · refine Eq.trans (k_ald0 rfl) ?_
    refine Eq.trans (k_gtR rfl s_100 rfl (by decide)) ?_
    exact k_cV0 rfl s_101 q_86 rfl rfl rfl (bl rfl)
theorem b_120_67 {d : Nat} {m : Nat → Nat → Int} {q : Nat → Nat → Option Nat} {w : Option (Nat → Int64)} {u0 u1 u2 u3 : Option Value} {s0 : Int}   : gv d rR120 67 [u0, u1, u2, u3] [.int (iI s0)] (mk m q w) =
    some (.inl (some (.int (iI s0))), (mk m q w, (0, 0))) := by
  exact k_rtI rfl rfl
theorem b_120_68 {d : Nat} {m : Nat → Nat → Int} {q : Nat → Nat → Option Nat} {w : Option (Nat → Int64)} {u1 u3 : Option Value} {v2 : Int}  (g0 : 0 ≤ v2) (g1 : v2 < 2) : gv d rR120 68 [some (.ref 100), u1, some (.int (iI v2)), u3] [] (mk m q w) =
    gv d rR120 74 [some (.ref 100), u1, some (.int (iI v2)), u3] (rOv (q 181 (Int.toNat v2)) :: []) (mk m q w) := by
  refine Eq.trans (k_ald0 rfl) ?_
  refine Eq.trans (k_gtR rfl s_100 rfl (by decide)) ?_
  refine Eq.trans (k_ild2 rfl) ?_
  exact k_aaV (t := 1) rfl s_181 (bl rfl) g0 g1
theorem b_120_74 {d : Nat} {m : Nat → Nat → Int} {q : Nat → Nat → Option Nat} {w : Option (Nat → Int64)} {u1 u3 : Option Value} {v2 : Int} {z73 : Nat} (hz73 : iPic z73)  : gv d rR120 74 [some (.ref 100), u1, some (.int (iI v2)), u3] [.ref z73] (mk m q w) =
    gv d rR120 84 [some (.ref 100), u1, some (.int (iI v2)), some (.ref z73)] (rOv (q 100 11) :: [.int (iI v2), .ref 181]) (mk m q w) := by
  refine Eq.trans (k_ast3 rfl) ?_
  refine Eq.trans (k_ald0 rfl) ?_
  refine Eq.trans (k_gtR rfl s_100 rfl (by decide)) ?_
  refine Eq.trans (k_ild2 rfl) ?_
  refine Eq.trans (k_ald0 rfl) ?_
  exact k_gtV rfl s_100 rfl (by decide)
theorem b_120_84 {d : Nat} {m : Nat → Nat → Int} {q : Nat → Nat → Option Nat} {w : Option (Nat → Int64)} {u1 : Option Value} {v2 s1 : Int} {z73 : Nat} {z81 : Nat} (hz73 : iPic z73) (hz81 : iPic z81) (g0 : 0 ≤ s1) (g1 : s1 < 2) (g2 : 0 ≤ v2) (g3 : v2 < 2) : gv d rR120 84 [some (.ref 100), u1, some (.int (iI v2)), some (.ref z73)] [.ref z81, .int (iI s1), .ref 181] (mk m q w) =
    gv d rR120 96 [some (.ref 100), u1, some (.int (iI v2)), some (.ref z73)] (rOv ((wq (wq q 181 (Int.toNat s1) (some z81)) 100 11 (some z73)) 181 (Int.toNat v2)) :: []) (mk m (wq (wq q 181 (Int.toNat s1) (some z81)) 100 11 (some z73)) w) := by
  refine Eq.trans (k_aasP rfl s_181 (bl rfl) g0 g1 (pic_0 hz81)) ?_
  refine Eq.trans (k_ald0 rfl) ?_
  refine Eq.trans (k_ald3 rfl) ?_
  refine Eq.trans (k_ptV rfl s_100 rfl rfl) ?_
  refine Eq.trans (k_ald0 rfl) ?_
  refine Eq.trans (k_gtR rfl s_100 rfl (by decide)) ?_
  refine Eq.trans (k_ild2 rfl) ?_
  exact k_aaV (t := 1) rfl s_181 (bl rfl) g2 g3
theorem b_120_96 {d : Nat} {m : Nat → Nat → Int} {q : Nat → Nat → Option Nat} {w : Option (Nat → Int64)} {u0 u1 u2 u3 : Option Value} {z95 : Nat} (hz95 : iPic z95)  : gv d rR120 96 [u0, u1, u2, u3] [.ref z95] (mk m q w) =
    some (.inl (some (.int (iI (m z95 1)))), (mk m q w, (0, 0))) := by
  refine Eq.trans (k_gtI rfl (pic_0 hz95) rfl (by decide)) ?_
  exact k_rtI rfl rfl
theorem e_120 {d : Nat} (hd : 1 ≤ d) {a0 a1 a2 : Value} (M : rMem) (h0 : a0.category = 1) (h1 : a1.category = 1) (h2 : a2.category = 1) : ev d 120 [a0, a1, a2] M = gv (d - 1) rR120 0 [some a0, some a1, some a2, none] [] M := ev_at hd q_120 rfl (by simp [*]) rfl
/-! FanHouse.book(I)I -/
theorem b_121_0 {d : Nat} {m : Nat → Nat → Int} {q : Nat → Nat → Option Nat} {w : Option (Nat → Int64)} {u2 : Option Value} {v1 : Int}   : gv d rR121 0 [some (.ref 100), some (.int (iI v1)), u2] [] (mk m q w) =
    rBd (ev d 82 [.ref 101, .int (iI v1), .int (iI 60)] (mk m q w)) (fun v M' => gv d rR121 11 [some (.ref 100), some (.int (iI v1)), u2] (v.toList ++ [.ref 100]) M') := by
  refine Eq.trans (k_ald0 rfl) ?_
  refine Eq.trans (k_ald0 rfl) ?_
  refine Eq.trans (k_gtR rfl s_100 rfl (by decide)) ?_
  refine Eq.trans (k_ild1 rfl) ?_
  refine Eq.trans (k_bip rfl (by decide)) ?_
  exact k_cV2 rfl s_101 q_82 rfl rfl rfl (bl rfl)
theorem b_121_11 {d : Nat} {m : Nat → Nat → Int} {q : Nat → Nat → Option Nat} {w : Option (Nat → Int64)} {u2 : Option Value} {v1 s1 : Int}   : gv d rR121 11 [some (.ref 100), some (.int (iI v1)), u2] [.int (iI s1), .ref 100] (mk m q w) =
    rBd (ev d 116 [.ref 100, .int (iI s1)] (mk m q w)) (fun v M' => gv d rR121 14 [some (.ref 100), some (.int (iI v1)), u2] (v.toList ++ []) M') := by
  exact k_cV1 rfl s_100 q_116 rfl rfl rfl (bl rfl)
theorem b_121_14 {d : Nat} {m : Nat → Nat → Int} {q : Nat → Nat → Option Nat} {w : Option (Nat → Int64)} {u2 : Option Value} {v1 : Int}   : gv d rR121 14 [some (.ref 100), some (.int (iI v1)), u2] [] (mk m q w) =
    rBd (ev d 83 [.ref 101, .int (iI v1)] (mk m q w)) (fun v M' => gv d rR121 22 [some (.ref 100), some (.int (iI v1)), u2] (v.toList ++ []) M') := by
  refine Eq.trans (k_ald0 rfl) ?_
  refine Eq.trans (k_gtR rfl s_100 rfl (by decide)) ?_
  refine Eq.trans (k_ild1 rfl) ?_
  exact k_cV1 rfl s_101 q_83 rfl rfl rfl (bl rfl)
theorem b_121_22 {d : Nat} {m : Nat → Nat → Int} {q : Nat → Nat → Option Nat} {w : Option (Nat → Int64)} {u1 u2 : Option Value}   : gv d rR121 22 [some (.ref 100), u1, u2] [] (mk m q w) =
    gv d rR121 26 [some (.ref 100), u1, u2] (rOv (q 100 13) :: []) (mk m q w) := by
  refine Eq.trans (k_ald0 rfl) ?_
  exact k_gtV rfl s_100 rfl (by decide)
theorem b_121_26 {d : Nat} {m : Nat → Nat → Int} {q : Nat → Nat → Option Nat} {w : Option (Nat → Int64)} {u1 u2 : Option Value} {z23 : Nat} (hz23 : iBook z23)  : gv d rR121 26 [some (.ref 100), u1, u2] [.ref z23] (mk m q w) =
    rBd (ev d 10 [.ref z23, .ref 101] (mk m q w)) (fun v M' => gv d rR121 33 [some (.ref 100), u1, u2] (v.toList ++ []) M') := by
  refine Eq.trans (k_ald0 rfl) ?_
  refine Eq.trans (k_gtR rfl s_100 rfl (by decide)) ?_
  exact k_cV1 rfl (book_0 hz23) q_10 rfl rfl rfl (bl rfl)
theorem b_121_33 {d : Nat} {m : Nat → Nat → Int} {q : Nat → Nat → Option Nat} {w : Option (Nat → Int64)} {u1 u2 : Option Value}   : gv d rR121 33 [some (.ref 100), u1, u2] [] (mk m q w) =
    rBd (ev d 85 [.ref 101] (mk m q w)) (fun v M' => gv d rR121 40 [some (.ref 100), u1, u2] (v.toList ++ []) M') := by
  refine Eq.trans (k_ald0 rfl) ?_
  refine Eq.trans (k_gtR rfl s_100 rfl (by decide)) ?_
  exact k_cV0 rfl s_101 q_85 rfl rfl rfl (bl rfl)
theorem b_121_40 {d : Nat} {m : Nat → Nat → Int} {q : Nat → Nat → Option Nat} {w : Option (Nat → Int64)} {u1 u2 : Option Value} {s0 : Int}   : gv d rR121 40 [some (.ref 100), u1, u2] [.int (iI s0)] (mk m q w) =
    if iI s0 = iI 0 then (gv d rR121 55 [some (.ref 100), u1, u2] (rOv (q 100 12) :: []) (mk m q w)) else (rBd (ev d 86 [.ref 101] (mk m q w)) (fun v M' => gv d rR121 50 [some (.ref 100), u1, u2] (v.toList ++ []) M')) := by
  refine Eq.trans (k_i1eq rfl rfl) ?_
  refine ifc ?_ ?_
  · refine Eq.trans (k_ald0 rfl) ?_
    exact k_gtV rfl s_100 rfl (by decide)
  · refine Eq.trans (k_ald0 rfl) ?_
    refine Eq.trans (k_gtR rfl s_100 rfl (by decide)) ?_
    exact k_cV0 rfl s_101 q_86 rfl rfl rfl (bl rfl)
theorem b_121_50 {d : Nat} {m : Nat → Nat → Int} {q : Nat → Nat → Option Nat} {w : Option (Nat → Int64)} {u0 u1 u2 : Option Value} {s0 : Int}   : gv d rR121 50 [u0, u1, u2] [.int (iI s0)] (mk m q w) =
    some (.inl (some (.int (iI s0))), (mk m q w, (0, 0))) := by
  exact k_rtI rfl rfl
theorem b_121_55 {d : Nat} {m : Nat → Nat → Int} {q : Nat → Nat → Option Nat} {w : Option (Nat → Int64)} {u1 u2 : Option Value} {z52 : Nat} (hz52 : iBook z52)  : gv d rR121 55 [some (.ref 100), u1, u2] [.ref z52] (mk m q w) =
    gv d rR121 61 [some (.ref 100), u1, some (.ref z52)] (rOv (q 100 13) :: [.ref 100]) (mk m q w) := by
  refine Eq.trans (k_ast2 rfl) ?_
  refine Eq.trans (k_ald0 rfl) ?_
  refine Eq.trans (k_ald0 rfl) ?_
  exact k_gtV rfl s_100 rfl (by decide)
theorem b_121_61 {d : Nat} {m : Nat → Nat → Int} {q : Nat → Nat → Option Nat} {w : Option (Nat → Int64)} {u1 : Option Value} {z52 : Nat} {z58 : Nat} (hz52 : iBook z52) (hz58 : iBook z58)  : gv d rR121 61 [some (.ref 100), u1, some (.ref z52)] [.ref z58, .ref 100] (mk m q w) =
    gv d rR121 73 [some (.ref 100), u1, some (.ref z52)] (rOv ((wq (wq q 100 12 (some z58)) 100 13 (some z52)) 100 12) :: []) (mk m (wq (wq q 100 12 (some z58)) 100 13 (some z52)) w) := by
  refine Eq.trans (k_ptV rfl s_100 rfl rfl) ?_
  refine Eq.trans (k_ald0 rfl) ?_
  refine Eq.trans (k_ald2 rfl) ?_
  refine Eq.trans (k_ptV rfl s_100 rfl rfl) ?_
  refine Eq.trans (k_ald0 rfl) ?_
  exact k_gtV rfl s_100 rfl (by decide)
theorem b_121_73 {d : Nat} {m : Nat → Nat → Int} {q : Nat → Nat → Option Nat} {w : Option (Nat → Int64)} {u0 u1 u2 : Option Value} {z70 : Nat} (hz70 : iBook z70)  : gv d rR121 73 [u0, u1, u2] [.ref z70] (mk m q w) =
    some (.inl (some (.int (iI (m z70 3)))), (mk m q w, (0, 0))) := by
  refine Eq.trans (k_gtI rfl (book_0 hz70) rfl (by decide)) ?_
  exact k_rtI rfl rfl
theorem e_121 {d : Nat} (hd : 1 ≤ d) {a0 a1 : Value} (M : rMem) (h0 : a0.category = 1) (h1 : a1.category = 1) : ev d 121 [a0, a1] M = gv (d - 1) rR121 0 [some a0, some a1, none] [] M := ev_at hd q_121 rfl (by simp [*]) rfl
/-! FanHouse.fault()I -/
theorem b_122_0 {d : Nat} {m : Nat → Nat → Int} {q : Nat → Nat → Option Nat} {w : Option (Nat → Int64)}   : gv d rR122 0 [some (.ref 100)] [] (mk m q w) =
    some (.inl (some (.int (iI (m 101 5)))), (mk m q w, (0, 0))) := by
  refine Eq.trans (k_ald0 rfl) ?_
  refine Eq.trans (k_gtR rfl s_100 rfl (by decide)) ?_
  refine Eq.trans (k_gtI rfl s_101 rfl (by decide)) ?_
  exact k_rtI rfl rfl
theorem e_122 {d : Nat} (hd : 1 ≤ d) {a0 : Value} (M : rMem) (h0 : a0.category = 1) : ev d 122 [a0] M = gv (d - 1) rR122 0 [some a0] [] M := ev_at hd q_122 rfl (by simp [*]) rfl
/-! FanHouse.undo()I -/
theorem b_123_0 {d : Nat} {m : Nat → Nat → Int} {q : Nat → Nat → Option Nat} {w : Option (Nat → Int64)}   : gv d rR123 0 [some (.ref 100)] [] (mk m q w) =
    rBd (ev d 62 [.ref 107] (mk m q w)) (fun v M' => gv d rR123 7 [some (.ref 100)] (v.toList ++ []) M') := by
  refine Eq.trans (k_ald0 rfl) ?_
  refine Eq.trans (k_gtR rfl s_100 rfl (by decide)) ?_
  exact k_cV0 rfl s_107 q_62 rfl rfl rfl (bl rfl)
theorem b_123_7 {d : Nat} {m : Nat → Nat → Int} {q : Nat → Nat → Option Nat} {w : Option (Nat → Int64)} {s0 : Int}   : gv d rR123 7 [some (.ref 100)] [.int (iI s0)] (mk m q w) =
    if iI s0 = iI 0 then (some (.inl (some (.int (iI (-1)))), (mk m q w, (0, 0)))) else (some (.inl (some (.int (iI ((wr m 100 15 0) 107 2)))), (mk (wr m 100 15 0) q w, (0, 0)))) := by
  refine Eq.trans (k_i1ne rfl rfl) ?_
  refine ifc ?_ ?_
  · refine Eq.trans (k_con rfl) ?_
    exact k_rtI rfl rfl
  · refine Eq.trans (k_ald0 rfl) ?_
    refine Eq.trans (k_con rfl) ?_
    refine Eq.trans (k_ptI rfl s_100 rfl rfl) ?_
    refine Eq.trans (k_ald0 rfl) ?_
    refine Eq.trans (k_gtR rfl s_100 rfl (by decide)) ?_
    refine Eq.trans (k_gtI rfl s_107 rfl (by decide)) ?_
    exact k_rtI rfl rfl
theorem e_123 {d : Nat} (hd : 1 ≤ d) {a0 : Value} (M : rMem) (h0 : a0.category = 1) : ev d 123 [a0] M = gv (d - 1) rR123 0 [some a0] [] M := ev_at hd q_123 rfl (by simp [*]) rfl
/-! FanHouse.told(I)I -/
theorem b_124_0 {d : Nat} {m : Nat → Nat → Int} {q : Nat → Nat → Option Nat} {w : Option (Nat → Int64)} {u2 : Option Value} {v1 : Int}   : gv d rR124 0 [some (.ref 100), some (.int (iI v1)), u2] [] (mk m q w) =
    rBd (ev d 6 [.int (iI v1), .int (iI 0), .int (iI 12)] (mk m q w)) (fun v M' => gv d rR124 8 [some (.ref 100), some (.int (iI v1)), u2] (v.toList ++ [.ref 100]) M') := by
  refine Eq.trans (k_ald0 rfl) ?_
  refine Eq.trans (k_ild1 rfl) ?_
  refine Eq.trans (k_con rfl) ?_
  refine Eq.trans (k_bip rfl (by decide)) ?_
  exact k_cS3 rfl (by decide) q_6 rfl rfl (bl rfl)
theorem b_124_8 {d : Nat} {m : Nat → Nat → Int} {q : Nat → Nat → Option Nat} {w : Option (Nat → Int64)} {u2 : Option Value} {v1 s1 : Int}   : gv d rR124 8 [some (.ref 100), some (.int (iI v1)), u2] [.int (iI s1), .ref 100] (mk m q w) =
    rBd (ev d 116 [.ref 100, .int (iI s1)] (mk m q w)) (fun v M' => gv d rR124 11 [some (.ref 100), some (.int (iI v1)), u2] (v.toList ++ []) M') := by
  exact k_cV1 rfl s_100 q_116 rfl rfl rfl (bl rfl)
theorem b_124_11 {d : Nat} {m : Nat → Nat → Int} {q : Nat → Nat → Option Nat} {w : Option (Nat → Int64)} {u2 : Option Value} {v1 : Int}   : gv d rR124 11 [some (.ref 100), some (.int (iI v1)), u2] [] (mk m q w) =
    gv d rR124 20 [some (.ref 100), some (.int (iI v1)), some (.ref 108)] [.int (iI v1)] (mk m q w) := by
  refine Eq.trans (k_ald0 rfl) ?_
  refine Eq.trans (k_gtR rfl s_100 rfl (by decide)) ?_
  refine Eq.trans (k_gtR rfl s_107 rfl (by decide)) ?_
  refine Eq.trans (k_ast2 rfl) ?_
  refine Eq.trans (k_ild1 rfl) ?_
  exact rfl
theorem b_124_20_0 {d : Nat} {m : Nat → Nat → Int} {q : Nat → Nat → Option Nat} {w : Option (Nat → Int64)} {u1 : Option Value}   : gv d rR124 20 [some (.ref 100), u1, some (.ref 108)] [.int (iI 0)] (mk m q w) = gv d rR124 84 [some (.ref 100), u1, some (.ref 108)] [] (mk m q w) := k_tsw rfl (by decide) (by decide) rfl rfl
theorem b_124_20_1 {d : Nat} {m : Nat → Nat → Int} {q : Nat → Nat → Option Nat} {w : Option (Nat → Int64)} {u1 : Option Value}   : gv d rR124 20 [some (.ref 100), u1, some (.ref 108)] [.int (iI 1)] (mk m q w) = gv d rR124 89 [some (.ref 100), u1, some (.ref 108)] [] (mk m q w) := k_tsw rfl (by decide) (by decide) rfl rfl
theorem b_124_20_2 {d : Nat} {m : Nat → Nat → Int} {q : Nat → Nat → Option Nat} {w : Option (Nat → Int64)} {u1 : Option Value}   : gv d rR124 20 [some (.ref 100), u1, some (.ref 108)] [.int (iI 2)] (mk m q w) = gv d rR124 94 [some (.ref 100), u1, some (.ref 108)] [] (mk m q w) := k_tsw rfl (by decide) (by decide) rfl rfl
theorem b_124_20_3 {d : Nat} {m : Nat → Nat → Int} {q : Nat → Nat → Option Nat} {w : Option (Nat → Int64)} {u1 : Option Value}   : gv d rR124 20 [some (.ref 100), u1, some (.ref 108)] [.int (iI 3)] (mk m q w) = gv d rR124 99 [some (.ref 100), u1, some (.ref 108)] [] (mk m q w) := k_tsw rfl (by decide) (by decide) rfl rfl
theorem b_124_20_4 {d : Nat} {m : Nat → Nat → Int} {q : Nat → Nat → Option Nat} {w : Option (Nat → Int64)} {u1 : Option Value}   : gv d rR124 20 [some (.ref 100), u1, some (.ref 108)] [.int (iI 4)] (mk m q w) = gv d rR124 104 [some (.ref 100), u1, some (.ref 108)] [] (mk m q w) := k_tsw rfl (by decide) (by decide) rfl rfl
theorem b_124_20_5 {d : Nat} {m : Nat → Nat → Int} {q : Nat → Nat → Option Nat} {w : Option (Nat → Int64)} {u1 : Option Value}   : gv d rR124 20 [some (.ref 100), u1, some (.ref 108)] [.int (iI 5)] (mk m q w) = gv d rR124 109 [some (.ref 100), u1, some (.ref 108)] [] (mk m q w) := k_tsw rfl (by decide) (by decide) rfl rfl
theorem b_124_20_6 {d : Nat} {m : Nat → Nat → Int} {q : Nat → Nat → Option Nat} {w : Option (Nat → Int64)} {u1 : Option Value}   : gv d rR124 20 [some (.ref 100), u1, some (.ref 108)] [.int (iI 6)] (mk m q w) = gv d rR124 114 [some (.ref 100), u1, some (.ref 108)] [] (mk m q w) := k_tsw rfl (by decide) (by decide) rfl rfl
theorem b_124_20_7 {d : Nat} {m : Nat → Nat → Int} {q : Nat → Nat → Option Nat} {w : Option (Nat → Int64)} {u1 : Option Value}   : gv d rR124 20 [some (.ref 100), u1, some (.ref 108)] [.int (iI 7)] (mk m q w) = gv d rR124 119 [some (.ref 100), u1, some (.ref 108)] [] (mk m q w) := k_tsw rfl (by decide) (by decide) rfl rfl
theorem b_124_20_8 {d : Nat} {m : Nat → Nat → Int} {q : Nat → Nat → Option Nat} {w : Option (Nat → Int64)} {u1 : Option Value}   : gv d rR124 20 [some (.ref 100), u1, some (.ref 108)] [.int (iI 8)] (mk m q w) = gv d rR124 124 [some (.ref 100), u1, some (.ref 108)] [] (mk m q w) := k_tsw rfl (by decide) (by decide) rfl rfl
theorem b_124_20_9 {d : Nat} {m : Nat → Nat → Int} {q : Nat → Nat → Option Nat} {w : Option (Nat → Int64)} {u1 : Option Value}   : gv d rR124 20 [some (.ref 100), u1, some (.ref 108)] [.int (iI 9)] (mk m q w) = gv d rR124 129 [some (.ref 100), u1, some (.ref 108)] [] (mk m q w) := k_tsw rfl (by decide) (by decide) rfl rfl
theorem b_124_20_10 {d : Nat} {m : Nat → Nat → Int} {q : Nat → Nat → Option Nat} {w : Option (Nat → Int64)} {u1 : Option Value}   : gv d rR124 20 [some (.ref 100), u1, some (.ref 108)] [.int (iI 10)] (mk m q w) = gv d rR124 137 [some (.ref 100), u1, some (.ref 108)] [] (mk m q w) := k_tsw rfl (by decide) (by decide) rfl rfl
theorem b_124_20_11 {d : Nat} {m : Nat → Nat → Int} {q : Nat → Nat → Option Nat} {w : Option (Nat → Int64)} {u1 : Option Value}   : gv d rR124 20 [some (.ref 100), u1, some (.ref 108)] [.int (iI 11)] (mk m q w) = gv d rR124 142 [some (.ref 100), u1, some (.ref 108)] [] (mk m q w) := k_tsw rfl (by decide) (by decide) rfl rfl
theorem b_124_20_d {d : Nat} {m : Nat → Nat → Int} {q : Nat → Nat → Option Nat} {w : Option (Nat → Int64)} {u1 : Option Value} {s0 : Int}  (g0 : i32 s0) (g1 : s0 < 0 ∨ 11 < s0) : gv d rR124 20 [some (.ref 100), u1, some (.ref 108)] [.int (iI s0)] (mk m q w) = gv d rR124 152 [some (.ref 100), u1, some (.ref 108)] [] (mk m q w) := k_tsd rfl g0 g1 rfl
theorem b_124_84 {d : Nat} {m : Nat → Nat → Int} {q : Nat → Nat → Option Nat} {w : Option (Nat → Int64)} {u0 u1 : Option Value}   : gv d rR124 84 [u0, u1, some (.ref 108)] [] (mk m q w) =
    some (.inl (some (.int (iI (m 108 0)))), (mk m q w, (0, 0))) := by
  refine Eq.trans (k_ald2 rfl) ?_
  refine Eq.trans (k_gtI rfl s_108 rfl (by decide)) ?_
  exact k_rtI rfl rfl
theorem b_124_89 {d : Nat} {m : Nat → Nat → Int} {q : Nat → Nat → Option Nat} {w : Option (Nat → Int64)} {u0 u1 : Option Value}   : gv d rR124 89 [u0, u1, some (.ref 108)] [] (mk m q w) =
    some (.inl (some (.int (iI (m 108 1)))), (mk m q w, (0, 0))) := by
  refine Eq.trans (k_ald2 rfl) ?_
  refine Eq.trans (k_gtI rfl s_108 rfl (by decide)) ?_
  exact k_rtI rfl rfl
theorem b_124_94 {d : Nat} {m : Nat → Nat → Int} {q : Nat → Nat → Option Nat} {w : Option (Nat → Int64)} {u0 u1 : Option Value}   : gv d rR124 94 [u0, u1, some (.ref 108)] [] (mk m q w) =
    some (.inl (some (.int (iI (m 108 2)))), (mk m q w, (0, 0))) := by
  refine Eq.trans (k_ald2 rfl) ?_
  refine Eq.trans (k_gtI rfl s_108 rfl (by decide)) ?_
  exact k_rtI rfl rfl
theorem b_124_99 {d : Nat} {m : Nat → Nat → Int} {q : Nat → Nat → Option Nat} {w : Option (Nat → Int64)} {u0 u1 : Option Value}   : gv d rR124 99 [u0, u1, some (.ref 108)] [] (mk m q w) =
    some (.inl (some (.int (iI (m 108 3)))), (mk m q w, (0, 0))) := by
  refine Eq.trans (k_ald2 rfl) ?_
  refine Eq.trans (k_gtI rfl s_108 rfl (by decide)) ?_
  exact k_rtI rfl rfl
theorem b_124_104 {d : Nat} {m : Nat → Nat → Int} {q : Nat → Nat → Option Nat} {w : Option (Nat → Int64)} {u0 u1 : Option Value}   : gv d rR124 104 [u0, u1, some (.ref 108)] [] (mk m q w) =
    some (.inl (some (.int (iI (m 108 4)))), (mk m q w, (0, 0))) := by
  refine Eq.trans (k_ald2 rfl) ?_
  refine Eq.trans (k_gtI rfl s_108 rfl (by decide)) ?_
  exact k_rtI rfl rfl
theorem b_124_109 {d : Nat} {m : Nat → Nat → Int} {q : Nat → Nat → Option Nat} {w : Option (Nat → Int64)} {u0 u1 : Option Value}   : gv d rR124 109 [u0, u1, some (.ref 108)] [] (mk m q w) =
    some (.inl (some (.int (iI (m 108 5)))), (mk m q w, (0, 0))) := by
  refine Eq.trans (k_ald2 rfl) ?_
  refine Eq.trans (k_gtI rfl s_108 rfl (by decide)) ?_
  exact k_rtI rfl rfl
theorem b_124_114 {d : Nat} {m : Nat → Nat → Int} {q : Nat → Nat → Option Nat} {w : Option (Nat → Int64)} {u0 u1 : Option Value}   : gv d rR124 114 [u0, u1, some (.ref 108)] [] (mk m q w) =
    some (.inl (some (.int (iI (m 108 6)))), (mk m q w, (0, 0))) := by
  refine Eq.trans (k_ald2 rfl) ?_
  refine Eq.trans (k_gtI rfl s_108 rfl (by decide)) ?_
  exact k_rtI rfl rfl
theorem b_124_119 {d : Nat} {m : Nat → Nat → Int} {q : Nat → Nat → Option Nat} {w : Option (Nat → Int64)} {u0 u1 : Option Value}   : gv d rR124 119 [u0, u1, some (.ref 108)] [] (mk m q w) =
    some (.inl (some (.int (iI (m 108 7)))), (mk m q w, (0, 0))) := by
  refine Eq.trans (k_ald2 rfl) ?_
  refine Eq.trans (k_gtI rfl s_108 rfl (by decide)) ?_
  exact k_rtI rfl rfl
theorem b_124_124 {d : Nat} {m : Nat → Nat → Int} {q : Nat → Nat → Option Nat} {w : Option (Nat → Int64)} {u0 u1 : Option Value}   : gv d rR124 124 [u0, u1, some (.ref 108)] [] (mk m q w) =
    some (.inl (some (.int (iI (m 108 8)))), (mk m q w, (0, 0))) := by
  refine Eq.trans (k_ald2 rfl) ?_
  refine Eq.trans (k_gtI rfl s_108 rfl (by decide)) ?_
  exact k_rtI rfl rfl
theorem b_124_129 {d : Nat} {m : Nat → Nat → Int} {q : Nat → Nat → Option Nat} {w : Option (Nat → Int64)} {u1 u2 : Option Value}   : gv d rR124 129 [some (.ref 100), u1, u2] [] (mk m q w) =
    gv d rR124 133 [some (.ref 100), u1, u2] (rOv (q 100 12) :: []) (mk m q w) := by
  refine Eq.trans (k_ald0 rfl) ?_
  exact k_gtV rfl s_100 rfl (by decide)
theorem b_124_133 {d : Nat} {m : Nat → Nat → Int} {q : Nat → Nat → Option Nat} {w : Option (Nat → Int64)} {u0 u1 u2 : Option Value} {z130 : Nat} (hz130 : iBook z130)  : gv d rR124 133 [u0, u1, u2] [.ref z130] (mk m q w) =
    some (.inl (some (.int (iI (m z130 3)))), (mk m q w, (0, 0))) := by
  refine Eq.trans (k_gtI rfl (book_0 hz130) rfl (by decide)) ?_
  exact k_rtI rfl rfl
theorem b_124_137 {d : Nat} {m : Nat → Nat → Int} {q : Nat → Nat → Option Nat} {w : Option (Nat → Int64)} {u1 u2 : Option Value}   : gv d rR124 137 [some (.ref 100), u1, u2] [] (mk m q w) =
    some (.inl (some (.int (iI (m 100 15)))), (mk m q w, (0, 0))) := by
  refine Eq.trans (k_ald0 rfl) ?_
  refine Eq.trans (k_gtI rfl s_100 rfl (by decide)) ?_
  exact k_rtI rfl rfl
theorem b_124_142 {d : Nat} {m : Nat → Nat → Int} {q : Nat → Nat → Option Nat} {w : Option (Nat → Int64)} {u1 u2 : Option Value}   : gv d rR124 142 [some (.ref 100), u1, u2] [] (mk m q w) =
    gv d rR124 148 [some (.ref 100), u1, u2] (rOv (q 181 0) :: []) (mk m q w) := by
  refine Eq.trans (k_ald0 rfl) ?_
  refine Eq.trans (k_gtR rfl s_100 rfl (by decide)) ?_
  refine Eq.trans (k_con rfl) ?_
  exact k_aaV (t := 1) rfl s_181 (bl rfl) (by decide) (by decide)
theorem b_124_148 {d : Nat} {m : Nat → Nat → Int} {q : Nat → Nat → Option Nat} {w : Option (Nat → Int64)} {u0 u1 u2 : Option Value} {z147 : Nat} (hz147 : iPic z147)  : gv d rR124 148 [u0, u1, u2] [.ref z147] (mk m q w) =
    some (.inl (some (.int (iI (m z147 1)))), (mk m q w, (0, 0))) := by
  refine Eq.trans (k_gtI rfl (pic_0 hz147) rfl (by decide)) ?_
  exact k_rtI rfl rfl
theorem b_124_152 {d : Nat} {m : Nat → Nat → Int} {q : Nat → Nat → Option Nat} {w : Option (Nat → Int64)} {u1 u2 : Option Value}   : gv d rR124 152 [some (.ref 100), u1, u2] [] (mk m q w) =
    gv d rR124 158 [some (.ref 100), u1, u2] (rOv (q 181 1) :: []) (mk m q w) := by
  refine Eq.trans (k_ald0 rfl) ?_
  refine Eq.trans (k_gtR rfl s_100 rfl (by decide)) ?_
  refine Eq.trans (k_con rfl) ?_
  exact k_aaV (t := 1) rfl s_181 (bl rfl) (by decide) (by decide)
theorem b_124_158 {d : Nat} {m : Nat → Nat → Int} {q : Nat → Nat → Option Nat} {w : Option (Nat → Int64)} {u0 u1 u2 : Option Value} {z157 : Nat} (hz157 : iPic z157)  : gv d rR124 158 [u0, u1, u2] [.ref z157] (mk m q w) =
    some (.inl (some (.int (iI (m z157 1)))), (mk m q w, (0, 0))) := by
  refine Eq.trans (k_gtI rfl (pic_0 hz157) rfl (by decide)) ?_
  exact k_rtI rfl rfl
theorem e_124 {d : Nat} (hd : 1 ≤ d) {a0 a1 : Value} (M : rMem) (h0 : a0.category = 1) (h1 : a1.category = 1) : ev d 124 [a0, a1] M = gv (d - 1) rR124 0 [some a0, some a1, none] [] M := ev_at hd q_124 rfl (by simp [*]) rfl
/-! FanHouse.stick(II)I -/
theorem b_126_0 {d : Nat} {m : Nat → Nat → Int} {q : Nat → Nat → Option Nat} {w : Option (Nat → Int64)} {v1 v2 : Int}   : gv d rR126 0 [some (.ref 100), some (.int (iI v1)), some (.int (iI v2))] [] (mk m q w) =
    rBd (ev d 33 [.ref 108, .int (iI v1)] (mk m q w)) (fun v M' => gv d rR126 12 [some (.ref 100), some (.int (iI v1)), some (.int (iI v2))] (v.toList ++ [.ref 100]) M') := by
  refine Eq.trans (k_ald0 rfl) ?_
  refine Eq.trans (k_ald0 rfl) ?_
  refine Eq.trans (k_gtR rfl s_100 rfl (by decide)) ?_
  refine Eq.trans (k_gtR rfl s_107 rfl (by decide)) ?_
  refine Eq.trans (k_ild1 rfl) ?_
  exact k_cV1 rfl s_108 q_33 rfl rfl rfl (bl rfl)
theorem b_126_12 {d : Nat} {m : Nat → Nat → Int} {q : Nat → Nat → Option Nat} {w : Option (Nat → Int64)} {v1 v2 s1 : Int}   : gv d rR126 12 [some (.ref 100), some (.int (iI v1)), some (.int (iI v2))] [.int (iI s1), .ref 100] (mk m q w) =
    rBd (ev d 125 [.ref 100, .int (iI s1)] (mk m q w)) (fun v M' => gv d rR126 15 [some (.ref 100), some (.int (iI v1)), some (.int (iI v2))] (v.toList ++ []) M') := by
  exact k_cV1 rfl s_100 q_125 rfl rfl rfl (bl rfl)
theorem b_126_15 {d : Nat} {m : Nat → Nat → Int} {q : Nat → Nat → Option Nat} {w : Option (Nat → Int64)} {v1 v2 : Int}   : gv d rR126 15 [some (.ref 100), some (.int (iI v1)), some (.int (iI v2))] [] (mk m q w) =
    rBd (ev d 6 [.int (iI v2), .int (iI 0), .int (iI 6)] (mk m q w)) (fun v M' => gv d rR126 23 [some (.ref 100), some (.int (iI v1)), some (.int (iI v2))] (v.toList ++ [.ref 100]) M') := by
  refine Eq.trans (k_ald0 rfl) ?_
  refine Eq.trans (k_ild2 rfl) ?_
  refine Eq.trans (k_con rfl) ?_
  refine Eq.trans (k_bip rfl (by decide)) ?_
  exact k_cS3 rfl (by decide) q_6 rfl rfl (bl rfl)
theorem b_126_23 {d : Nat} {m : Nat → Nat → Int} {q : Nat → Nat → Option Nat} {w : Option (Nat → Int64)} {v1 v2 s1 : Int}   : gv d rR126 23 [some (.ref 100), some (.int (iI v1)), some (.int (iI v2))] [.int (iI s1), .ref 100] (mk m q w) =
    rBd (ev d 116 [.ref 100, .int (iI s1)] (mk m q w)) (fun v M' => gv d rR126 26 [some (.ref 100), some (.int (iI v1)), some (.int (iI v2))] (v.toList ++ []) M') := by
  exact k_cV1 rfl s_100 q_116 rfl rfl rfl (bl rfl)
theorem b_126_26 {d : Nat} {m : Nat → Nat → Int} {q : Nat → Nat → Option Nat} {w : Option (Nat → Int64)} {v1 v2 : Int}   : gv d rR126 26 [some (.ref 100), some (.int (iI v1)), some (.int (iI v2))] [] (mk m q w) =
    gv d rR126 27 [some (.ref 100), some (.int (iI v1)), some (.int (iI v2))] [.int (iI v2)] (mk m q w) := by
  refine Eq.trans (k_ild2 rfl) ?_
  exact rfl
theorem b_126_27_0 {d : Nat} {m : Nat → Nat → Int} {q : Nat → Nat → Option Nat} {w : Option (Nat → Int64)} {v1 v2 s0 : Int}  : gv d rR126 27 [some (.ref 100), some (.int (iI v1)), some (.int (iI v2))] [.int (iI 0)] (mk m q w) = gv d rR126 60 [some (.ref 100), some (.int (iI v1)), some (.int (iI v2))] [] (mk m q w) := k_lsw rfl (by decide) rfl rfl
theorem b_126_27_1 {d : Nat} {m : Nat → Nat → Int} {q : Nat → Nat → Option Nat} {w : Option (Nat → Int64)} {v1 v2 s0 : Int}  : gv d rR126 27 [some (.ref 100), some (.int (iI v1)), some (.int (iI v2))] [.int (iI 1)] (mk m q w) = gv d rR126 72 [some (.ref 100), some (.int (iI v1)), some (.int (iI v2))] [] (mk m q w) := k_lsw rfl (by decide) rfl rfl
theorem b_126_27_2 {d : Nat} {m : Nat → Nat → Int} {q : Nat → Nat → Option Nat} {w : Option (Nat → Int64)} {v1 v2 s0 : Int}  : gv d rR126 27 [some (.ref 100), some (.int (iI v1)), some (.int (iI v2))] [.int (iI 6)] (mk m q w) = gv d rR126 92 [some (.ref 100), some (.int (iI v1)), some (.int (iI v2))] [] (mk m q w) := k_lsw rfl (by decide) rfl rfl
theorem b_126_27_d {d : Nat} {m : Nat → Nat → Int} {q : Nat → Nat → Option Nat} {w : Option (Nat → Int64)} {v1 v2 s0 : Int}  (g0 : i32 s0) (g1 : s0 ≠ 0) (g2 : s0 ≠ 1) (g3 : s0 ≠ 6) : gv d rR126 27 [some (.ref 100), some (.int (iI v1)), some (.int (iI v2))] [.int (iI s0)] (mk m q w) = gv d rR126 104 [some (.ref 100), some (.int (iI v1)), some (.int (iI v2))] [] (mk m q w) := k_lsw rfl g0 (off := 77) (by
  simp [Op.lookupswitch.offset, Ne.symm, *]) rfl
theorem b_126_60 {d : Nat} {m : Nat → Nat → Int} {q : Nat → Nat → Option Nat} {w : Option (Nat → Int64)} {u2 : Option Value} {v1 : Int}   : gv d rR126 60 [some (.ref 100), some (.int (iI v1)), u2] [] (mk m q w) =
    rBd (ev d 32 [.ref 108, .int (iI v1)] (mk m q w)) (fun v M' => gv d rR126 71 [some (.ref 100), some (.int (iI v1)), u2] (v.toList ++ []) M') := by
  refine Eq.trans (k_ald0 rfl) ?_
  refine Eq.trans (k_gtR rfl s_100 rfl (by decide)) ?_
  refine Eq.trans (k_gtR rfl s_107 rfl (by decide)) ?_
  refine Eq.trans (k_ild1 rfl) ?_
  exact k_cV1 rfl s_108 q_32 rfl rfl rfl (bl rfl)
theorem b_126_71 {d : Nat} {m : Nat → Nat → Int} {q : Nat → Nat → Option Nat} {w : Option (Nat → Int64)} {u0 u1 u2 : Option Value} {s0 : Int}   : gv d rR126 71 [u0, u1, u2] [.int (iI s0)] (mk m q w) =
    some (.inl (some (.int (iI s0))), (mk m q w, (0, 0))) := by
  exact k_rtI rfl rfl
theorem b_126_72 {d : Nat} {m : Nat → Nat → Int} {q : Nat → Nat → Option Nat} {w : Option (Nat → Int64)} {u2 : Option Value} {v1 : Int}   : gv d rR126 72 [some (.ref 100), some (.int (iI v1)), u2] [] (mk m q w) =
    rBd (ev d 14 [.ref 108, .int (iI v1)] (mk m q w)) (fun v M' => gv d rR126 83 [some (.ref 100), some (.int (iI v1)), u2] (v.toList ++ []) M') := by
  refine Eq.trans (k_ald0 rfl) ?_
  refine Eq.trans (k_gtR rfl s_100 rfl (by decide)) ?_
  refine Eq.trans (k_gtR rfl s_107 rfl (by decide)) ?_
  refine Eq.trans (k_ild1 rfl) ?_
  exact k_cV1 rfl s_108 q_14 rfl rfl rfl (bl rfl)
theorem b_126_83 {d : Nat} {m : Nat → Nat → Int} {q : Nat → Nat → Option Nat} {w : Option (Nat → Int64)} {u0 u1 u2 : Option Value} {s0 : Int}   : gv d rR126 83 [u0, u1, u2] [.int (iI s0)] (mk m q w) =
    if iI s0 = iI 0 then (gv d rR126 91 [u0, u1, u2] [.int (iI 0)] (mk m q w)) else (gv d rR126 91 [u0, u1, u2] [.int (iI 1)] (mk m q w)) := by
  refine Eq.trans (k_i1eq rfl rfl) ?_
  refine ifc ?_ ?_
  · refine Eq.trans (k_con rfl) ?_
    exact rfl
  · refine Eq.trans (k_con rfl) ?_
    refine Eq.trans (k_go rfl rfl) ?_
    exact rfl
theorem b_126_91 {d : Nat} {m : Nat → Nat → Int} {q : Nat → Nat → Option Nat} {w : Option (Nat → Int64)} {u0 u1 u2 : Option Value} {s0 : Int}   : gv d rR126 91 [u0, u1, u2] [.int (iI s0)] (mk m q w) =
    some (.inl (some (.int (iI s0))), (mk m q w, (0, 0))) := by
  exact k_rtI rfl rfl
theorem b_126_92 {d : Nat} {m : Nat → Nat → Int} {q : Nat → Nat → Option Nat} {w : Option (Nat → Int64)} {u2 : Option Value} {v1 : Int}   : gv d rR126 92 [some (.ref 100), some (.int (iI v1)), u2] [] (mk m q w) =
    rBd (ev d 36 [.ref 108, .int (iI v1)] (mk m q w)) (fun v M' => gv d rR126 103 [some (.ref 100), some (.int (iI v1)), u2] (v.toList ++ []) M') := by
  refine Eq.trans (k_ald0 rfl) ?_
  refine Eq.trans (k_gtR rfl s_100 rfl (by decide)) ?_
  refine Eq.trans (k_gtR rfl s_107 rfl (by decide)) ?_
  refine Eq.trans (k_ild1 rfl) ?_
  exact k_cV1 rfl s_108 q_36 rfl rfl rfl (bl rfl)
theorem b_126_103 {d : Nat} {m : Nat → Nat → Int} {q : Nat → Nat → Option Nat} {w : Option (Nat → Int64)} {u0 u1 u2 : Option Value} {s0 : Int}   : gv d rR126 103 [u0, u1, u2] [.int (iI s0)] (mk m q w) =
    some (.inl (some (.int (iI s0))), (mk m q w, (0, 0))) := by
  exact k_rtI rfl rfl
theorem b_126_104 {d : Nat} {m : Nat → Nat → Int} {q : Nat → Nat → Option Nat} {w : Option (Nat → Int64)} {v1 v2 : Int}   : gv d rR126 104 [some (.ref 100), some (.int (iI v1)), some (.int (iI v2))] [] (mk m q w) =
    rBd (ev d 18 [.ref 108, .int (iI v1), .int (iI (v2 - 2))] (mk m q w)) (fun v M' => gv d rR126 118 [some (.ref 100), some (.int (iI v1)), some (.int (iI v2))] (v.toList ++ []) M') := by
  refine Eq.trans (k_ald0 rfl) ?_
  refine Eq.trans (k_gtR rfl s_100 rfl (by decide)) ?_
  refine Eq.trans (k_gtR rfl s_107 rfl (by decide)) ?_
  refine Eq.trans (k_ild1 rfl) ?_
  refine Eq.trans (k_ild2 rfl) ?_
  refine Eq.trans (k_con rfl) ?_
  refine Eq.trans (k_sub rfl) ?_
  exact k_cV2 rfl s_108 q_18 rfl rfl rfl (bl rfl)
theorem b_126_118 {d : Nat} {m : Nat → Nat → Int} {q : Nat → Nat → Option Nat} {w : Option (Nat → Int64)} {u0 u1 u2 : Option Value} {s0 : Int}   : gv d rR126 118 [u0, u1, u2] [.int (iI s0)] (mk m q w) =
    some (.inl (some (.int (iI s0))), (mk m q w, (0, 0))) := by
  exact k_rtI rfl rfl
theorem e_126 {d : Nat} (hd : 1 ≤ d) {a0 a1 a2 : Value} (M : rMem) (h0 : a0.category = 1) (h1 : a1.category = 1) (h2 : a2.category = 1) : ev d 126 [a0, a1, a2] M = gv (d - 1) rR126 0 [some a0, some a1, some a2] [] M := ev_at hd q_126 rfl (by simp [*]) rfl
/-! FanHouse.at(I)I -/
theorem b_127_0 {d : Nat} {m : Nat → Nat → Int} {q : Nat → Nat → Option Nat} {w : Option (Nat → Int64)} {v1 : Int}   : gv d rR127 0 [some (.ref 100), some (.int (iI v1))] [] (mk m q w) =
    rBd (ev d 13 [.ref 108, .int (iI v1)] (mk m q w)) (fun v M' => gv d rR127 12 [some (.ref 100), some (.int (iI v1))] (v.toList ++ [.ref 100]) M') := by
  refine Eq.trans (k_ald0 rfl) ?_
  refine Eq.trans (k_ald0 rfl) ?_
  refine Eq.trans (k_gtR rfl s_100 rfl (by decide)) ?_
  refine Eq.trans (k_gtR rfl s_107 rfl (by decide)) ?_
  refine Eq.trans (k_ild1 rfl) ?_
  exact k_cV1 rfl s_108 q_13 rfl rfl rfl (bl rfl)
theorem b_127_12 {d : Nat} {m : Nat → Nat → Int} {q : Nat → Nat → Option Nat} {w : Option (Nat → Int64)} {v1 s1 : Int}   : gv d rR127 12 [some (.ref 100), some (.int (iI v1))] [.int (iI s1), .ref 100] (mk m q w) =
    rBd (ev d 125 [.ref 100, .int (iI s1)] (mk m q w)) (fun v M' => gv d rR127 15 [some (.ref 100), some (.int (iI v1))] (v.toList ++ []) M') := by
  exact k_cV1 rfl s_100 q_125 rfl rfl rfl (bl rfl)
theorem b_127_15 {d : Nat} {m : Nat → Nat → Int} {q : Nat → Nat → Option Nat} {w : Option (Nat → Int64)} {v1 : Int}  (g0 : 0 ≤ v1) (g1 : v1 < 7) : gv d rR127 15 [some (.ref 100), some (.int (iI v1))] [] (mk m q w) =
    some (.inl (some (.int (iI (m 109 (Int.toNat v1))))), (mk m q w, (0, 0))) := by
  refine Eq.trans (k_ald0 rfl) ?_
  refine Eq.trans (k_gtR rfl s_100 rfl (by decide)) ?_
  refine Eq.trans (k_gtR rfl s_107 rfl (by decide)) ?_
  refine Eq.trans (k_gtR rfl s_108 rfl (by decide)) ?_
  refine Eq.trans (k_ild1 rfl) ?_
  refine Eq.trans (k_iald rfl s_109 (bl rfl) g0 g1) ?_
  exact k_rtI rfl rfl
theorem e_127 {d : Nat} (hd : 1 ≤ d) {a0 a1 : Value} (M : rMem) (h0 : a0.category = 1) (h1 : a1.category = 1) : ev d 127 [a0, a1] M = gv (d - 1) rR127 0 [some a0, some a1] [] M := ev_at hd q_127 rfl (by simp [*]) rfl
/-! FanHouse.isView(I)Z -/
theorem b_128_0 {d : Nat} {m : Nat → Nat → Int} {q : Nat → Nat → Option Nat} {w : Option (Nat → Int64)} {v0 : Int}   : gv d rR128 0 [some (.int (iI v0))] [] (mk m q w) =
    rBd (ev d 6 [.int (iI v0), .int (iI 0), .int (iI 3)] (mk m q w)) (fun v M' => gv d rR128 6 [some (.int (iI v0))] (v.toList ++ []) M') := by
  refine Eq.trans (k_ild0 rfl) ?_
  refine Eq.trans (k_con rfl) ?_
  refine Eq.trans (k_con rfl) ?_
  exact k_cS3 rfl (by decide) q_6 rfl rfl (bl rfl)
theorem b_128_6 {d : Nat} {m : Nat → Nat → Int} {q : Nat → Nat → Option Nat} {w : Option (Nat → Int64)} {u0 : Option Value} {s0 : Int}  (g0 : iI s0 = iI 0 ∨ iI s0 = iI 1) : gv d rR128 6 [u0] [.int (iI s0)] (mk m q w) =
    some (.inl (some (.int (iI s0))), (mk m q w, (0, 0))) := by
  exact k_rtZ rfl rfl g0
theorem e_128 {d : Nat} (hd : 1 ≤ d) {a0 : Value} (M : rMem) (h0 : a0.category = 1) : ev d 128 [a0] M = gv (d - 1) rR128 0 [some a0] [] M := ev_at hd q_128 rfl (by simp [*]) rfl
/-! FanHouse.strain(II)I -/
theorem b_129_0 {d : Nat} {m : Nat → Nat → Int} {q : Nat → Nat → Option Nat} {w : Option (Nat → Int64)} {v1 v2 : Int}   : gv d rR129 0 [some (.ref 100), some (.int (iI v1)), some (.int (iI v2))] [] (mk m q w) =
    rBd (ev d 128 [.int (iI v1)] (mk m q w)) (fun v M' => gv d rR129 5 [some (.ref 100), some (.int (iI v1)), some (.int (iI v2))] (v.toList ++ [.ref 100]) M') := by
  refine Eq.trans (k_ald0 rfl) ?_
  refine Eq.trans (k_ild1 rfl) ?_
  exact k_cS1 rfl (by decide) q_128 rfl rfl (bl rfl)
theorem b_129_5 {d : Nat} {m : Nat → Nat → Int} {q : Nat → Nat → Option Nat} {w : Option (Nat → Int64)} {v1 v2 s1 : Int}   : gv d rR129 5 [some (.ref 100), some (.int (iI v1)), some (.int (iI v2))] [.int (iI s1), .ref 100] (mk m q w) =
    if iI s1 = iI 0 then (gv d rR129 22 [some (.ref 100), some (.int (iI v1)), some (.int (iI v2))] [.ref 100] (mk m q w)) else (rBd (ev d 6 [.int (iI v2), .int (iI 1), .int (iI 7)] (mk m q w)) (fun v M' => gv d rR129 15 [some (.ref 100), some (.int (iI v1)), some (.int (iI v2))] (v.toList ++ [.ref 100]) M')) := by
  refine Eq.trans (k_i1eq rfl rfl) ?_
  refine ifc ?_ ?_
  · exact rfl
  · refine Eq.trans (k_ild2 rfl) ?_
    refine Eq.trans (k_con rfl) ?_
    refine Eq.trans (k_bip rfl (by decide)) ?_
    exact k_cS3 rfl (by decide) q_6 rfl rfl (bl rfl)
theorem b_129_15 {d : Nat} {m : Nat → Nat → Int} {q : Nat → Nat → Option Nat} {w : Option (Nat → Int64)} {v1 v2 s1 : Int}   : gv d rR129 15 [some (.ref 100), some (.int (iI v1)), some (.int (iI v2))] [.int (iI s1), .ref 100] (mk m q w) =
    if iI s1 = iI 0 then (gv d rR129 22 [some (.ref 100), some (.int (iI v1)), some (.int (iI v2))] [.ref 100] (mk m q w)) else (gv d rR129 23 [some (.ref 100), some (.int (iI v1)), some (.int (iI v2))] [.int (iI 1), .ref 100] (mk m q w)) := by
  refine Eq.trans (k_i1eq rfl rfl) ?_
  refine ifc ?_ ?_
  · exact rfl
  · refine Eq.trans (k_con rfl) ?_
    refine Eq.trans (k_go rfl rfl) ?_
    exact rfl
theorem b_129_22 {d : Nat} {m : Nat → Nat → Int} {q : Nat → Nat → Option Nat} {w : Option (Nat → Int64)} {v1 v2 : Int}   : gv d rR129 22 [some (.ref 100), some (.int (iI v1)), some (.int (iI v2))] [.ref 100] (mk m q w) =
    gv d rR129 23 [some (.ref 100), some (.int (iI v1)), some (.int (iI v2))] [.int (iI 0), .ref 100] (mk m q w) := by
  refine Eq.trans (k_con rfl) ?_
  exact rfl
theorem b_129_23 {d : Nat} {m : Nat → Nat → Int} {q : Nat → Nat → Option Nat} {w : Option (Nat → Int64)} {v1 v2 s1 : Int}   : gv d rR129 23 [some (.ref 100), some (.int (iI v1)), some (.int (iI v2))] [.int (iI s1), .ref 100] (mk m q w) =
    rBd (ev d 116 [.ref 100, .int (iI s1)] (mk m q w)) (fun v M' => gv d rR129 26 [some (.ref 100), some (.int (iI v1)), some (.int (iI v2))] (v.toList ++ []) M') := by
  exact k_cV1 rfl s_100 q_116 rfl rfl rfl (bl rfl)
theorem b_129_26 {d : Nat} {m : Nat → Nat → Int} {q : Nat → Nat → Option Nat} {w : Option (Nat → Int64)} {v1 v2 : Int}   : gv d rR129 26 [some (.ref 100), some (.int (iI v1)), some (.int (iI v2))] [] (mk m q w) =
    gv d rR129 30 [some (.ref 100), some (.int (iI v1)), some (.int (iI v2))] (rOv (q 100 9) :: []) (mk m q w) := by
  refine Eq.trans (k_ald0 rfl) ?_
  exact k_gtV rfl s_100 rfl (by decide)
theorem b_129_30 {d : Nat} {m : Nat → Nat → Int} {q : Nat → Nat → Option Nat} {w : Option (Nat → Int64)} {v1 v2 : Int} {z27 : Nat} (hz27 : iLaw z27)  : gv d rR129 30 [some (.ref 100), some (.int (iI v1)), some (.int (iI v2))] [.ref z27] (mk m q w) =
    rBd (ev d 43 [.ref z27, .ref 108, .int (iI v1), .int (iI v2)] (mk m q w)) (fun v M' => gv d rR129 42 [some (.ref 100), some (.int (iI v1)), some (.int (iI v2))] (v.toList ++ []) M') := by
  refine Eq.trans (k_ald0 rfl) ?_
  refine Eq.trans (k_gtR rfl s_100 rfl (by decide)) ?_
  refine Eq.trans (k_gtR rfl s_107 rfl (by decide)) ?_
  refine Eq.trans (k_ild1 rfl) ?_
  refine Eq.trans (k_ild2 rfl) ?_
  exact k_cV3 rfl (law_0 hz27) q_43 rfl rfl rfl (bl rfl)
theorem b_129_42 {d : Nat} {m : Nat → Nat → Int} {q : Nat → Nat → Option Nat} {w : Option (Nat → Int64)} {u0 u1 u2 : Option Value} {s0 : Int}   : gv d rR129 42 [u0, u1, u2] [.int (iI s0)] (mk m q w) =
    some (.inl (some (.int (iI s0))), (mk m q w, (0, 0))) := by
  exact k_rtI rfl rfl
theorem e_129 {d : Nat} (hd : 1 ≤ d) {a0 a1 a2 : Value} (M : rMem) (h0 : a0.category = 1) (h1 : a1.category = 1) (h2 : a2.category = 1) : ev d 129 [a0, a1, a2] M = gv (d - 1) rR129 0 [some a0, some a1, some a2] [] M := ev_at hd q_129 rfl (by simp [*]) rfl
/-! FanHouse.would(IIIIIII)I -/
theorem b_130_0 {d : Nat} {m : Nat → Nat → Int} {q : Nat → Nat → Option Nat} {w : Option (Nat → Int64)} {v1 v2 v3 v4 v5 v6 v7 : Int}   : gv d rR130 0 [some (.ref 100), some (.int (iI v1)), some (.int (iI v2)), some (.int (iI v3)), some (.int (iI v4)), some (.int (iI v5)), some (.int (iI v6)), some (.int (iI v7))] [] (mk m q w) =
    rBd (ev d 128 [.int (iI v1)] (mk m q w)) (fun v M' => gv d rR130 5 [some (.ref 100), some (.int (iI v1)), some (.int (iI v2)), some (.int (iI v3)), some (.int (iI v4)), some (.int (iI v5)), some (.int (iI v6)), some (.int (iI v7))] (v.toList ++ [.ref 100]) M') := by
  refine Eq.trans (k_ald0 rfl) ?_
  refine Eq.trans (k_ild1 rfl) ?_
  exact k_cS1 rfl (by decide) q_128 rfl rfl (bl rfl)
theorem b_130_5 {d : Nat} {m : Nat → Nat → Int} {q : Nat → Nat → Option Nat} {w : Option (Nat → Int64)} {v1 v2 v3 v4 v5 v6 v7 s1 : Int}   : gv d rR130 5 [some (.ref 100), some (.int (iI v1)), some (.int (iI v2)), some (.int (iI v3)), some (.int (iI v4)), some (.int (iI v5)), some (.int (iI v6)), some (.int (iI v7))] [.int (iI s1), .ref 100] (mk m q w) =
    if iI s1 = iI 0 then (gv d rR130 22 [some (.ref 100), some (.int (iI v1)), some (.int (iI v2)), some (.int (iI v3)), some (.int (iI v4)), some (.int (iI v5)), some (.int (iI v6)), some (.int (iI v7))] [.ref 100] (mk m q w)) else (rBd (ev d 6 [.int (iI v2), .int (iI 1), .int (iI 7)] (mk m q w)) (fun v M' => gv d rR130 15 [some (.ref 100), some (.int (iI v1)), some (.int (iI v2)), some (.int (iI v3)), some (.int (iI v4)), some (.int (iI v5)), some (.int (iI v6)), some (.int (iI v7))] (v.toList ++ [.ref 100]) M')) := by
  refine Eq.trans (k_i1eq rfl rfl) ?_
  refine ifc ?_ ?_
  · exact rfl
  · refine Eq.trans (k_ild2 rfl) ?_
    refine Eq.trans (k_con rfl) ?_
    refine Eq.trans (k_bip rfl (by decide)) ?_
    exact k_cS3 rfl (by decide) q_6 rfl rfl (bl rfl)
theorem b_130_15 {d : Nat} {m : Nat → Nat → Int} {q : Nat → Nat → Option Nat} {w : Option (Nat → Int64)} {v1 v2 v3 v4 v5 v6 v7 s1 : Int}   : gv d rR130 15 [some (.ref 100), some (.int (iI v1)), some (.int (iI v2)), some (.int (iI v3)), some (.int (iI v4)), some (.int (iI v5)), some (.int (iI v6)), some (.int (iI v7))] [.int (iI s1), .ref 100] (mk m q w) =
    if iI s1 = iI 0 then (gv d rR130 22 [some (.ref 100), some (.int (iI v1)), some (.int (iI v2)), some (.int (iI v3)), some (.int (iI v4)), some (.int (iI v5)), some (.int (iI v6)), some (.int (iI v7))] [.ref 100] (mk m q w)) else (gv d rR130 23 [some (.ref 100), some (.int (iI v1)), some (.int (iI v2)), some (.int (iI v3)), some (.int (iI v4)), some (.int (iI v5)), some (.int (iI v6)), some (.int (iI v7))] [.int (iI 1), .ref 100] (mk m q w)) := by
  refine Eq.trans (k_i1eq rfl rfl) ?_
  refine ifc ?_ ?_
  · exact rfl
  · refine Eq.trans (k_con rfl) ?_
    refine Eq.trans (k_go rfl rfl) ?_
    exact rfl
theorem b_130_22 {d : Nat} {m : Nat → Nat → Int} {q : Nat → Nat → Option Nat} {w : Option (Nat → Int64)} {v1 v2 v3 v4 v5 v6 v7 : Int}   : gv d rR130 22 [some (.ref 100), some (.int (iI v1)), some (.int (iI v2)), some (.int (iI v3)), some (.int (iI v4)), some (.int (iI v5)), some (.int (iI v6)), some (.int (iI v7))] [.ref 100] (mk m q w) =
    gv d rR130 23 [some (.ref 100), some (.int (iI v1)), some (.int (iI v2)), some (.int (iI v3)), some (.int (iI v4)), some (.int (iI v5)), some (.int (iI v6)), some (.int (iI v7))] [.int (iI 0), .ref 100] (mk m q w) := by
  refine Eq.trans (k_con rfl) ?_
  exact rfl
theorem b_130_23 {d : Nat} {m : Nat → Nat → Int} {q : Nat → Nat → Option Nat} {w : Option (Nat → Int64)} {v1 v2 v3 v4 v5 v6 v7 s1 : Int}   : gv d rR130 23 [some (.ref 100), some (.int (iI v1)), some (.int (iI v2)), some (.int (iI v3)), some (.int (iI v4)), some (.int (iI v5)), some (.int (iI v6)), some (.int (iI v7))] [.int (iI s1), .ref 100] (mk m q w) =
    rBd (ev d 116 [.ref 100, .int (iI s1)] (mk m q w)) (fun v M' => gv d rR130 26 [some (.ref 100), some (.int (iI v1)), some (.int (iI v2)), some (.int (iI v3)), some (.int (iI v4)), some (.int (iI v5)), some (.int (iI v6)), some (.int (iI v7))] (v.toList ++ []) M') := by
  exact k_cV1 rfl s_100 q_116 rfl rfl rfl (bl rfl)
theorem b_130_26 {d : Nat} {m : Nat → Nat → Int} {q : Nat → Nat → Option Nat} {w : Option (Nat → Int64)} {v1 v2 v3 v4 v5 v6 v7 : Int}   : gv d rR130 26 [some (.ref 100), some (.int (iI v1)), some (.int (iI v2)), some (.int (iI v3)), some (.int (iI v4)), some (.int (iI v5)), some (.int (iI v6)), some (.int (iI v7))] [] (mk m q w) =
    rBd (ev d 6 [.int (iI v3), .int (iI 0), .int (iI 200)] (mk m q w)) (fun v M' => gv d rR130 35 [some (.ref 100), some (.int (iI v1)), some (.int (iI v2)), some (.int (iI v3)), some (.int (iI v4)), some (.int (iI v5)), some (.int (iI v6)), some (.int (iI v7))] (v.toList ++ [.ref 100]) M') := by
  refine Eq.trans (k_ald0 rfl) ?_
  refine Eq.trans (k_ild3 rfl) ?_
  refine Eq.trans (k_con rfl) ?_
  refine Eq.trans (k_sip rfl (by decide)) ?_
  exact k_cS3 rfl (by decide) q_6 rfl rfl (bl rfl)
theorem b_130_35 {d : Nat} {m : Nat → Nat → Int} {q : Nat → Nat → Option Nat} {w : Option (Nat → Int64)} {v1 v2 v3 v4 v5 v6 v7 s1 : Int}   : gv d rR130 35 [some (.ref 100), some (.int (iI v1)), some (.int (iI v2)), some (.int (iI v3)), some (.int (iI v4)), some (.int (iI v5)), some (.int (iI v6)), some (.int (iI v7))] [.int (iI s1), .ref 100] (mk m q w) =
    if iI s1 = iI 0 then (gv d rR130 54 [some (.ref 100), some (.int (iI v1)), some (.int (iI v2)), some (.int (iI v3)), some (.int (iI v4)), some (.int (iI v5)), some (.int (iI v6)), some (.int (iI v7))] [.ref 100] (mk m q w)) else (rBd (ev d 6 [.int (iI v4), .int (iI 0), .int (iI 9999)] (mk m q w)) (fun v M' => gv d rR130 47 [some (.ref 100), some (.int (iI v1)), some (.int (iI v2)), some (.int (iI v3)), some (.int (iI v4)), some (.int (iI v5)), some (.int (iI v6)), some (.int (iI v7))] (v.toList ++ [.ref 100]) M')) := by
  refine Eq.trans (k_i1eq rfl rfl) ?_
  refine ifc ?_ ?_
  · exact rfl
  · refine Eq.trans (k_ild4 rfl) ?_
    refine Eq.trans (k_con rfl) ?_
    refine Eq.trans (k_sip rfl (by decide)) ?_
    exact k_cS3 rfl (by decide) q_6 rfl rfl (bl rfl)
theorem b_130_47 {d : Nat} {m : Nat → Nat → Int} {q : Nat → Nat → Option Nat} {w : Option (Nat → Int64)} {v1 v2 v3 v4 v5 v6 v7 s1 : Int}   : gv d rR130 47 [some (.ref 100), some (.int (iI v1)), some (.int (iI v2)), some (.int (iI v3)), some (.int (iI v4)), some (.int (iI v5)), some (.int (iI v6)), some (.int (iI v7))] [.int (iI s1), .ref 100] (mk m q w) =
    if iI s1 = iI 0 then (gv d rR130 54 [some (.ref 100), some (.int (iI v1)), some (.int (iI v2)), some (.int (iI v3)), some (.int (iI v4)), some (.int (iI v5)), some (.int (iI v6)), some (.int (iI v7))] [.ref 100] (mk m q w)) else (gv d rR130 55 [some (.ref 100), some (.int (iI v1)), some (.int (iI v2)), some (.int (iI v3)), some (.int (iI v4)), some (.int (iI v5)), some (.int (iI v6)), some (.int (iI v7))] [.int (iI 1), .ref 100] (mk m q w)) := by
  refine Eq.trans (k_i1eq rfl rfl) ?_
  refine ifc ?_ ?_
  · exact rfl
  · refine Eq.trans (k_con rfl) ?_
    refine Eq.trans (k_go rfl rfl) ?_
    exact rfl
theorem b_130_54 {d : Nat} {m : Nat → Nat → Int} {q : Nat → Nat → Option Nat} {w : Option (Nat → Int64)} {v1 v2 v3 v4 v5 v6 v7 : Int}   : gv d rR130 54 [some (.ref 100), some (.int (iI v1)), some (.int (iI v2)), some (.int (iI v3)), some (.int (iI v4)), some (.int (iI v5)), some (.int (iI v6)), some (.int (iI v7))] [.ref 100] (mk m q w) =
    gv d rR130 55 [some (.ref 100), some (.int (iI v1)), some (.int (iI v2)), some (.int (iI v3)), some (.int (iI v4)), some (.int (iI v5)), some (.int (iI v6)), some (.int (iI v7))] [.int (iI 0), .ref 100] (mk m q w) := by
  refine Eq.trans (k_con rfl) ?_
  exact rfl
theorem b_130_55 {d : Nat} {m : Nat → Nat → Int} {q : Nat → Nat → Option Nat} {w : Option (Nat → Int64)} {v1 v2 v3 v4 v5 v6 v7 s1 : Int}   : gv d rR130 55 [some (.ref 100), some (.int (iI v1)), some (.int (iI v2)), some (.int (iI v3)), some (.int (iI v4)), some (.int (iI v5)), some (.int (iI v6)), some (.int (iI v7))] [.int (iI s1), .ref 100] (mk m q w) =
    rBd (ev d 116 [.ref 100, .int (iI s1)] (mk m q w)) (fun v M' => gv d rR130 58 [some (.ref 100), some (.int (iI v1)), some (.int (iI v2)), some (.int (iI v3)), some (.int (iI v4)), some (.int (iI v5)), some (.int (iI v6)), some (.int (iI v7))] (v.toList ++ []) M') := by
  exact k_cV1 rfl s_100 q_116 rfl rfl rfl (bl rfl)
theorem b_130_58 {d : Nat} {m : Nat → Nat → Int} {q : Nat → Nat → Option Nat} {w : Option (Nat → Int64)} {v1 v2 v3 v4 v5 v6 v7 : Int}   : gv d rR130 58 [some (.ref 100), some (.int (iI v1)), some (.int (iI v2)), some (.int (iI v3)), some (.int (iI v4)), some (.int (iI v5)), some (.int (iI v6)), some (.int (iI v7))] [] (mk m q w) =
    rBd (ev d 6 [.int (iI v5), .int (iI 0), .int (iI 7)] (mk m q w)) (fun v M' => gv d rR130 67 [some (.ref 100), some (.int (iI v1)), some (.int (iI v2)), some (.int (iI v3)), some (.int (iI v4)), some (.int (iI v5)), some (.int (iI v6)), some (.int (iI v7))] (v.toList ++ [.ref 100]) M') := by
  refine Eq.trans (k_ald0 rfl) ?_
  refine Eq.trans (k_ild5 rfl) ?_
  refine Eq.trans (k_con rfl) ?_
  refine Eq.trans (k_bip rfl (by decide)) ?_
  exact k_cS3 rfl (by decide) q_6 rfl rfl (bl rfl)
theorem b_130_67 {d : Nat} {m : Nat → Nat → Int} {q : Nat → Nat → Option Nat} {w : Option (Nat → Int64)} {v1 v2 v3 v4 v5 v6 v7 s1 : Int}   : gv d rR130 67 [some (.ref 100), some (.int (iI v1)), some (.int (iI v2)), some (.int (iI v3)), some (.int (iI v4)), some (.int (iI v5)), some (.int (iI v6)), some (.int (iI v7))] [.int (iI s1), .ref 100] (mk m q w) =
    if iI s1 = iI 0 then (gv d rR130 85 [some (.ref 100), some (.int (iI v1)), some (.int (iI v2)), some (.int (iI v3)), some (.int (iI v4)), some (.int (iI v5)), some (.int (iI v6)), some (.int (iI v7))] [.ref 100] (mk m q w)) else (rBd (ev d 6 [.int (iI v6), .int (iI 0), .int (iI 99)] (mk m q w)) (fun v M' => gv d rR130 78 [some (.ref 100), some (.int (iI v1)), some (.int (iI v2)), some (.int (iI v3)), some (.int (iI v4)), some (.int (iI v5)), some (.int (iI v6)), some (.int (iI v7))] (v.toList ++ [.ref 100]) M')) := by
  refine Eq.trans (k_i1eq rfl rfl) ?_
  refine ifc ?_ ?_
  · exact rfl
  · refine Eq.trans (k_ild6 rfl) ?_
    refine Eq.trans (k_con rfl) ?_
    refine Eq.trans (k_bip rfl (by decide)) ?_
    exact k_cS3 rfl (by decide) q_6 rfl rfl (bl rfl)
theorem b_130_78 {d : Nat} {m : Nat → Nat → Int} {q : Nat → Nat → Option Nat} {w : Option (Nat → Int64)} {v1 v2 v3 v4 v5 v6 v7 s1 : Int}   : gv d rR130 78 [some (.ref 100), some (.int (iI v1)), some (.int (iI v2)), some (.int (iI v3)), some (.int (iI v4)), some (.int (iI v5)), some (.int (iI v6)), some (.int (iI v7))] [.int (iI s1), .ref 100] (mk m q w) =
    if iI s1 = iI 0 then (gv d rR130 85 [some (.ref 100), some (.int (iI v1)), some (.int (iI v2)), some (.int (iI v3)), some (.int (iI v4)), some (.int (iI v5)), some (.int (iI v6)), some (.int (iI v7))] [.ref 100] (mk m q w)) else (gv d rR130 86 [some (.ref 100), some (.int (iI v1)), some (.int (iI v2)), some (.int (iI v3)), some (.int (iI v4)), some (.int (iI v5)), some (.int (iI v6)), some (.int (iI v7))] [.int (iI 1), .ref 100] (mk m q w)) := by
  refine Eq.trans (k_i1eq rfl rfl) ?_
  refine ifc ?_ ?_
  · exact rfl
  · refine Eq.trans (k_con rfl) ?_
    refine Eq.trans (k_go rfl rfl) ?_
    exact rfl
theorem b_130_85 {d : Nat} {m : Nat → Nat → Int} {q : Nat → Nat → Option Nat} {w : Option (Nat → Int64)} {v1 v2 v3 v4 v5 v6 v7 : Int}   : gv d rR130 85 [some (.ref 100), some (.int (iI v1)), some (.int (iI v2)), some (.int (iI v3)), some (.int (iI v4)), some (.int (iI v5)), some (.int (iI v6)), some (.int (iI v7))] [.ref 100] (mk m q w) =
    gv d rR130 86 [some (.ref 100), some (.int (iI v1)), some (.int (iI v2)), some (.int (iI v3)), some (.int (iI v4)), some (.int (iI v5)), some (.int (iI v6)), some (.int (iI v7))] [.int (iI 0), .ref 100] (mk m q w) := by
  refine Eq.trans (k_con rfl) ?_
  exact rfl
theorem b_130_86 {d : Nat} {m : Nat → Nat → Int} {q : Nat → Nat → Option Nat} {w : Option (Nat → Int64)} {v1 v2 v3 v4 v5 v6 v7 s1 : Int}   : gv d rR130 86 [some (.ref 100), some (.int (iI v1)), some (.int (iI v2)), some (.int (iI v3)), some (.int (iI v4)), some (.int (iI v5)), some (.int (iI v6)), some (.int (iI v7))] [.int (iI s1), .ref 100] (mk m q w) =
    rBd (ev d 116 [.ref 100, .int (iI s1)] (mk m q w)) (fun v M' => gv d rR130 89 [some (.ref 100), some (.int (iI v1)), some (.int (iI v2)), some (.int (iI v3)), some (.int (iI v4)), some (.int (iI v5)), some (.int (iI v6)), some (.int (iI v7))] (v.toList ++ []) M') := by
  exact k_cV1 rfl s_100 q_116 rfl rfl rfl (bl rfl)
theorem b_130_89 {d : Nat} {m : Nat → Nat → Int} {q : Nat → Nat → Option Nat} {w : Option (Nat → Int64)} {v1 v2 v3 v4 v5 v6 v7 : Int}   : gv d rR130 89 [some (.ref 100), some (.int (iI v1)), some (.int (iI v2)), some (.int (iI v3)), some (.int (iI v4)), some (.int (iI v5)), some (.int (iI v6)), some (.int (iI v7))] [] (mk m q w) =
    rBd (ev d 6 [.int (iI v7), .int (iI 0), .int (iI 400)] (mk m q w)) (fun v M' => gv d rR130 99 [some (.ref 100), some (.int (iI v1)), some (.int (iI v2)), some (.int (iI v3)), some (.int (iI v4)), some (.int (iI v5)), some (.int (iI v6)), some (.int (iI v7))] (v.toList ++ [.ref 100]) M') := by
  refine Eq.trans (k_ald0 rfl) ?_
  refine Eq.trans (k_ild7 rfl) ?_
  refine Eq.trans (k_con rfl) ?_
  refine Eq.trans (k_sip rfl (by decide)) ?_
  exact k_cS3 rfl (by decide) q_6 rfl rfl (bl rfl)
theorem b_130_99 {d : Nat} {m : Nat → Nat → Int} {q : Nat → Nat → Option Nat} {w : Option (Nat → Int64)} {v1 v2 v3 v4 v5 v6 v7 s1 : Int}   : gv d rR130 99 [some (.ref 100), some (.int (iI v1)), some (.int (iI v2)), some (.int (iI v3)), some (.int (iI v4)), some (.int (iI v5)), some (.int (iI v6)), some (.int (iI v7))] [.int (iI s1), .ref 100] (mk m q w) =
    rBd (ev d 116 [.ref 100, .int (iI s1)] (mk m q w)) (fun v M' => gv d rR130 102 [some (.ref 100), some (.int (iI v1)), some (.int (iI v2)), some (.int (iI v3)), some (.int (iI v4)), some (.int (iI v5)), some (.int (iI v6)), some (.int (iI v7))] (v.toList ++ []) M') := by
  exact k_cV1 rfl s_100 q_116 rfl rfl rfl (bl rfl)
theorem b_130_102 {d : Nat} {m : Nat → Nat → Int} {q : Nat → Nat → Option Nat} {w : Option (Nat → Int64)} {v1 v2 v3 v4 v5 v6 v7 : Int}   : gv d rR130 102 [some (.ref 100), some (.int (iI v1)), some (.int (iI v2)), some (.int (iI v3)), some (.int (iI v4)), some (.int (iI v5)), some (.int (iI v6)), some (.int (iI v7))] [] (mk m q w) =
    gv d rR130 106 [some (.ref 100), some (.int (iI v1)), some (.int (iI v2)), some (.int (iI v3)), some (.int (iI v4)), some (.int (iI v5)), some (.int (iI v6)), some (.int (iI v7))] (rOv (q 100 9) :: []) (mk m q w) := by
  refine Eq.trans (k_ald0 rfl) ?_
  exact k_gtV rfl s_100 rfl (by decide)
theorem b_130_106 {d : Nat} {m : Nat → Nat → Int} {q : Nat → Nat → Option Nat} {w : Option (Nat → Int64)} {v1 v2 v3 v4 v5 v6 v7 : Int} {z103 : Nat} (hz103 : iLaw z103)  : gv d rR130 106 [some (.ref 100), some (.int (iI v1)), some (.int (iI v2)), some (.int (iI v3)), some (.int (iI v4)), some (.int (iI v5)), some (.int (iI v6)), some (.int (iI v7))] [.ref z103] (mk m q w) =
    rBd (ev d 37 [.ref z103, .int (iI v1), .int (iI v2)] (mk m q w)) (fun v M' => gv d rR130 111 [some (.ref 100), some (.int (iI v1)), some (.int (iI v2)), some (.int (iI v3)), some (.int (iI v4)), some (.int (iI v5)), some (.int (iI v6)), some (.int (iI v7))] (v.toList ++ []) M') := by
  refine Eq.trans (k_ild1 rfl) ?_
  refine Eq.trans (k_ild2 rfl) ?_
  exact k_cV2 rfl (law_0 hz103) q_37 rfl rfl rfl (bl rfl)
theorem b_130_111 {d : Nat} {m : Nat → Nat → Int} {q : Nat → Nat → Option Nat} {w : Option (Nat → Int64)} {u1 u2 : Option Value} {v3 v4 v5 v6 v7 : Int}   : gv d rR130 111 [some (.ref 100), u1, u2, some (.int (iI v3)), some (.int (iI v4)), some (.int (iI v5)), some (.int (iI v6)), some (.int (iI v7))] [] (mk m q w) =
    gv d rR130 115 [some (.ref 100), u1, u2, some (.int (iI v3)), some (.int (iI v4)), some (.int (iI v5)), some (.int (iI v6)), some (.int (iI v7))] (rOv (q 100 9) :: []) (mk m q w) := by
  refine Eq.trans (k_ald0 rfl) ?_
  exact k_gtV rfl s_100 rfl (by decide)
theorem b_130_115 {d : Nat} {m : Nat → Nat → Int} {q : Nat → Nat → Option Nat} {w : Option (Nat → Int64)} {u1 u2 : Option Value} {v3 v4 v5 v6 v7 : Int} {z112 : Nat} (hz112 : iLaw z112)  : gv d rR130 115 [some (.ref 100), u1, u2, some (.int (iI v3)), some (.int (iI v4)), some (.int (iI v5)), some (.int (iI v6)), some (.int (iI v7))] [.ref z112] (mk m q w) =
    rBd (ev d 39 [.ref z112, .int (iI v3), .int (iI v4), .int (iI v5), .int (iI v6), .int (iI v7)] (mk m q w)) (fun v M' => gv d rR130 127 [some (.ref 100), u1, u2, some (.int (iI v3)), some (.int (iI v4)), some (.int (iI v5)), some (.int (iI v6)), some (.int (iI v7))] (v.toList ++ []) M') := by
  refine Eq.trans (k_ild3 rfl) ?_
  refine Eq.trans (k_ild4 rfl) ?_
  refine Eq.trans (k_ild5 rfl) ?_
  refine Eq.trans (k_ild6 rfl) ?_
  refine Eq.trans (k_ild7 rfl) ?_
  exact k_cV5 rfl (law_0 hz112) q_39 rfl rfl rfl (bl rfl)
theorem b_130_127 {d : Nat} {m : Nat → Nat → Int} {q : Nat → Nat → Option Nat} {w : Option (Nat → Int64)} {u1 u2 u3 u4 u5 u6 u7 : Option Value}   : gv d rR130 127 [some (.ref 100), u1, u2, u3, u4, u5, u6, u7] [] (mk m q w) =
    gv d rR130 131 [some (.ref 100), u1, u2, u3, u4, u5, u6, u7] (rOv (q 100 9) :: []) (mk m q w) := by
  refine Eq.trans (k_ald0 rfl) ?_
  exact k_gtV rfl s_100 rfl (by decide)
theorem b_130_131 {d : Nat} {m : Nat → Nat → Int} {q : Nat → Nat → Option Nat} {w : Option (Nat → Int64)} {u0 u1 u2 u3 u4 u5 u6 u7 : Option Value} {z128 : Nat} (hz128 : iLaw z128)  : gv d rR130 131 [u0, u1, u2, u3, u4, u5, u6, u7] [.ref z128] (mk m q w) =
    rBd (ev d 42 [.ref z128] (mk m q w)) (fun v M' => gv d rR130 134 [u0, u1, u2, u3, u4, u5, u6, u7] (v.toList ++ []) M') := by
  exact k_cV0 rfl (law_0 hz128) q_42 rfl rfl rfl (bl rfl)
theorem b_130_134 {d : Nat} {m : Nat → Nat → Int} {q : Nat → Nat → Option Nat} {w : Option (Nat → Int64)} {u0 u1 u2 u3 u4 u5 u6 u7 : Option Value} {s0 : Int}   : gv d rR130 134 [u0, u1, u2, u3, u4, u5, u6, u7] [.int (iI s0)] (mk m q w) =
    some (.inl (some (.int (iI s0))), (mk m q w, (0, 0))) := by
  exact k_rtI rfl rfl
theorem e_130 {d : Nat} (hd : 1 ≤ d) {a0 a1 a2 a3 a4 a5 a6 a7 : Value} (M : rMem) (h0 : a0.category = 1) (h1 : a1.category = 1) (h2 : a2.category = 1) (h3 : a3.category = 1) (h4 : a4.category = 1) (h5 : a5.category = 1) (h6 : a6.category = 1) (h7 : a7.category = 1) : ev d 130 [a0, a1, a2, a3, a4, a5, a6, a7] M = gv (d - 1) rR130 0 [some a0, some a1, some a2, some a3, some a4, some a5, some a6, some a7] [] M := ev_at hd q_130 rfl (by simp [*]) rfl
