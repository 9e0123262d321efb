/-! FanHouse$Fan.turn(I)Z -/
theorem b_46_0 {d : Nat} {m : Nat → Nat → Int} {q : Nat → Nat → Option Nat} {w : Option (Nat → Int64)} {v1 : Int} {x : Nat} (hx : iFan x)  : gv d rR46 0 [some (.ref x), some (.int (iI v1))] [] (mk m q w) =
    rBd (ev d 23 [.ref x] (mk m q w)) (fun v M' => gv d rR46 4 [some (.ref x), some (.int (iI v1))] (v.toList ++ []) M') := by
  refine Eq.trans (k_ald0 rfl) ?_
  exact k_cV0 rfl (fan_0 hx) q_23 rfl rfl rfl (bl rfl)
theorem b_46_4 {d : Nat} {m : Nat → Nat → Int} {q : Nat → Nat → Option Nat} {w : Option (Nat → Int64)} {v1 s0 : Int} {x : Nat} (hx : iFan x)  : gv d rR46 4 [some (.ref x), some (.int (iI v1))] [.int (iI s0)] (mk m q w) =
    if iI s0 = iI 0 then (gv d rR46 15 [some (.ref x), some (.int (iI v1))] [] (mk m q w)) else (rBd (ev d 13 [.ref x, .int (iI v1)] (mk m q w)) (fun v M' => gv d rR46 12 [some (.ref x), some (.int (iI v1))] (v.toList ++ []) M')) := by
  refine Eq.trans (k_i1eq rfl rfl) ?_
  refine ifc ?_ ?_
  · exact rfl
  · refine Eq.trans (k_ald0 rfl) ?_
    refine Eq.trans (k_ild1 rfl) ?_
    exact k_cV1 rfl (fan_0 hx) q_13 rfl rfl rfl (bl rfl)
theorem b_46_12 {d : Nat} {m : Nat → Nat → Int} {q : Nat → Nat → Option Nat} {w : Option (Nat → Int64)} {v1 s0 : Int} {x : Nat} (hx : iFan x)  : gv d rR46 12 [some (.ref x), some (.int (iI v1))] [.int (iI s0)] (mk m q w) =
    if iI s0 = iI 0 then (gv d rR46 15 [some (.ref x), some (.int (iI v1))] [] (mk m q w)) else (gv d rR46 17 [some (.ref x), some (.int (iI v1))] [] (mk m q w)) := by
  refine Eq.trans (k_i1ne rfl rfl) ?_
  refine ifc ?_ ?_
  · exact rfl
  · exact rfl
theorem b_46_15 {d : Nat} {m : Nat → Nat → Int} {q : Nat → Nat → Option Nat} {w : Option (Nat → Int64)} {u0 u1 : Option Value}   : gv d rR46 15 [u0, u1] [] (mk m q w) =
    some (.inl (some (.int (iI 0))), (mk m q w, (0, 0))) := by
  refine Eq.trans (k_con rfl) ?_
  exact k_rtZ rfl rfl (Or.inl rfl)
theorem b_46_17 {d : Nat} {m : Nat → Nat → Int} {q : Nat → Nat → Option Nat} {w : Option (Nat → Int64)} {v1 : Int} {x : Nat} (hx : iFan x) (g0 : 0 ≤ v1) (g1 : v1 < 7) : gv d rR46 17 [some (.ref x), some (.int (iI v1))] [] (mk m q w) =
    some (.inl (some (.int (iI 1))), (mk (wr m x 6 (zXor (m x 6) (zShl 1 (m (x + 1) (Int.toNat v1))))) q w, (0, 0))) := by
  refine Eq.trans (k_ald0 rfl) ?_
  refine Eq.trans (k_dup rfl rfl) ?_
  refine Eq.trans (k_gtI rfl (fan_0 hx) rfl (by decide)) ?_
  refine Eq.trans (k_con rfl) ?_
  refine Eq.trans (k_ald0 rfl) ?_
  refine Eq.trans (k_gtR rfl (fan_0 hx) rfl (by decide)) ?_
  refine Eq.trans (k_ild1 rfl) ?_
  refine Eq.trans (k_iald rfl (fan_1 hx) (bl rfl) g0 g1) ?_
  refine Eq.trans (k_shl rfl) ?_
  refine Eq.trans (k_xor rfl) ?_
  refine Eq.trans (k_ptI rfl (fan_0 hx) rfl rfl) ?_
  refine Eq.trans (k_con rfl) ?_
  exact k_rtZ rfl rfl (Or.inr rfl)
theorem e_46 {d : Nat} (hd : 1 ≤ d) {a0 a1 : Value} (M : rMem) (h0 : a0.category = 1) (h1 : a1.category = 1) : ev d 46 [a0, a1] M = gv (d - 1) rR46 0 [some a0, some a1] [] M := ev_at hd q_46 rfl (by simp [*]) rfl
/-! FanHouse$Fan.paint(III)Z -/
theorem b_47_0 {d : Nat} {m : Nat → Nat → Int} {q : Nat → Nat → Option Nat} {w : Option (Nat → Int64)} {u4 : Option Value} {v1 v2 v3 : Int} {x : Nat} (hx : iFan x)  : gv d rR47 0 [some (.ref x), some (.int (iI v1)), some (.int (iI v2)), some (.int (iI v3)), u4] [] (mk m q w) =
    if iI 0 < iI (m x 3) then (rBd (ev d 13 [.ref x, .int (iI v1)] (mk m q w)) (fun v M' => gv d rR47 12 [some (.ref x), some (.int (iI v1)), some (.int (iI v2)), some (.int (iI v3)), u4] (v.toList ++ []) M')) else (gv d rR47 15 [some (.ref x), some (.int (iI v1)), some (.int (iI v2)), some (.int (iI v3)), u4] [] (mk m q w)) := by
  refine Eq.trans (k_ald0 rfl) ?_
  refine Eq.trans (k_gtI rfl (fan_0 hx) rfl (by decide)) ?_
  refine Eq.trans (k_i1le rfl rfl) ?_
  refine ifc ?_ ?_
  · refine Eq.trans (k_ald0 rfl) ?_
    refine Eq.trans (k_ild1 rfl) ?_
    exact k_cV1 rfl (fan_0 hx) q_13 rfl rfl rfl (bl rfl)
  · exact rfl
theorem b_47_12 {d : Nat} {m : Nat → Nat → Int} {q : Nat → Nat → Option Nat} {w : Option (Nat → Int64)} {u4 : Option Value} {v1 v2 v3 s0 : Int} {x : Nat} (hx : iFan x)  : gv d rR47 12 [some (.ref x), some (.int (iI v1)), some (.int (iI v2)), some (.int (iI v3)), u4] [.int (iI s0)] (mk m q w) =
    if iI s0 = iI 0 then (gv d rR47 15 [some (.ref x), some (.int (iI v1)), some (.int (iI v2)), some (.int (iI v3)), u4] [] (mk m q w)) else (gv d rR47 17 [some (.ref x), some (.int (iI v1)), some (.int (iI v2)), some (.int (iI v3)), u4] [] (mk m q w)) := by
  refine Eq.trans (k_i1ne rfl rfl) ?_
  refine ifc ?_ ?_
  · exact rfl
  · exact rfl
theorem b_47_15 {d : Nat} {m : Nat → Nat → Int} {q : Nat → Nat → Option Nat} {w : Option (Nat → Int64)} {u0 u1 u2 u3 u4 : Option Value}   : gv d rR47 15 [u0, u1, u2, u3, u4] [] (mk m q w) =
    some (.inl (some (.int (iI 0))), (mk m q w, (0, 0))) := by
  refine Eq.trans (k_con rfl) ?_
  exact k_rtZ rfl rfl (Or.inl rfl)
theorem b_47_17 {d : Nat} {m : Nat → Nat → Int} {q : Nat → Nat → Option Nat} {w : Option (Nat → Int64)} {u4 : Option Value} {v1 v2 v3 : Int} {x : Nat} (hx : iFan x) (g0 : 0 ≤ v1) (g1 : v1 < 7) : gv d rR47 17 [some (.ref x), some (.int (iI v1)), some (.int (iI v2)), some (.int (iI v3)), u4] [] (mk m q w) =
    rBd (ev d 18 [.ref x, .int (iI (m (x + 1) (Int.toNat v1))), .int (iI v2)] (mk m q w)) (fun v M' => gv d rR47 32 [some (.ref x), some (.int (iI v1)), some (.int (iI v2)), some (.int (iI v3)), some (.int (iI (m (x + 1) (Int.toNat v1))))] (v.toList ++ []) M') := by
  refine Eq.trans (k_ald0 rfl) ?_
  refine Eq.trans (k_gtR rfl (fan_0 hx) rfl (by decide)) ?_
  refine Eq.trans (k_ild1 rfl) ?_
  refine Eq.trans (k_iald rfl (fan_1 hx) (bl rfl) g0 g1) ?_
  refine Eq.trans (k_ist4 rfl) ?_
  refine Eq.trans (k_ald0 rfl) ?_
  refine Eq.trans (k_ild4 rfl) ?_
  refine Eq.trans (k_ild2 rfl) ?_
  exact k_cV2 rfl (fan_0 hx) q_18 rfl rfl rfl (bl rfl)
theorem b_47_32 {d : Nat} {m : Nat → Nat → Int} {q : Nat → Nat → Option Nat} {w : Option (Nat → Int64)} {u1 : Option Value} {v2 v3 v4 s0 : Int} {x : Nat} (hx : iFan x)  : gv d rR47 32 [some (.ref x), u1, some (.int (iI v2)), some (.int (iI v3)), some (.int (iI v4))] [.int (iI s0)] (mk m q w) =
    if iI s0 = iI v3 then (some (.inl (some (.int (iI 0))), (mk m q w, (0, 0)))) else (rBd (ev d 15 [.ref x, .int (iI v4), .int (iI v2)] (mk m q w)) (fun v M' => gv d rR47 48 [some (.ref x), u1, some (.int (iI v2)), some (.int (iI v3)), some (.int (iI v4))] (v.toList ++ [.int (iI v4), .ref x]) M')) := by
  refine Eq.trans (k_ild3 rfl) ?_
  refine Eq.trans (k_i2ne rfl rfl) ?_
  refine ifc ?_ ?_
  · refine Eq.trans (k_con rfl) ?_
    exact k_rtZ rfl rfl (Or.inl rfl)
  · refine Eq.trans (k_ald0 rfl) ?_
    refine Eq.trans (k_ild4 rfl) ?_
    refine Eq.trans (k_ald0 rfl) ?_
    refine Eq.trans (k_ild4 rfl) ?_
    refine Eq.trans (k_ild2 rfl) ?_
    exact k_cV2 rfl (fan_0 hx) q_15 rfl rfl rfl (bl rfl)
theorem b_47_48 {d : Nat} {m : Nat → Nat → Int} {q : Nat → Nat → Option Nat} {w : Option (Nat → Int64)} {u1 u2 u4 : Option Value} {v3 s1 s2 : Int} {x : Nat} (hx : iFan x)  : gv d rR47 48 [some (.ref x), u1, u2, some (.int (iI v3)), u4] [.int (iI s2), .int (iI s1), .ref x] (mk m q w) =
    rBd (ev d 28 [.ref x, .int (iI s1), .int (iI s2), .int (iI v3)] (mk m q w)) (fun v M' => gv d rR47 52 [some (.ref x), u1, u2, some (.int (iI v3)), u4] (v.toList ++ []) M') := by
  refine Eq.trans (k_ild3 rfl) ?_
  exact k_cV3 rfl (fan_0 hx) q_28 rfl rfl rfl (bl rfl)
theorem b_47_52 {d : Nat} {m : Nat → Nat → Int} {q : Nat → Nat → Option Nat} {w : Option (Nat → Int64)} {u1 u2 u3 u4 : Option Value} {x : Nat} (hx : iFan x)  : gv d rR47 52 [some (.ref x), u1, u2, u3, u4] [] (mk m q w) =
    some (.inl (some (.int (iI 1))), (mk (wr m x 3 ((m x 3) - 1)) q w, (0, 0))) := by
  refine Eq.trans (k_ald0 rfl) ?_
  refine Eq.trans (k_dup rfl rfl) ?_
  refine Eq.trans (k_gtI rfl (fan_0 hx) rfl (by decide)) ?_
  refine Eq.trans (k_con rfl) ?_
  refine Eq.trans (k_sub rfl) ?_
  refine Eq.trans (k_ptI rfl (fan_0 hx) rfl rfl) ?_
  refine Eq.trans (k_con rfl) ?_
  exact k_rtZ rfl rfl (Or.inr rfl)
theorem e_47 {d : Nat} (hd : 1 ≤ d) {a0 a1 a2 a3 : Value} (M : rMem) (h0 : a0.category = 1) (h1 : a1.category = 1) (h2 : a2.category = 1) (h3 : a3.category = 1) : ev d 47 [a0, a1, a2, a3] M = gv (d - 1) rR47 0 [some a0, some a1, some a2, some a3, none] [] M := ev_at hd q_47 rfl (by simp [*]) rfl
/-! FanHouse$Fan.oil()Z -/
theorem b_48_0 {d : Nat} {m : Nat → Nat → Int} {q : Nat → Nat → Option Nat} {w : Option (Nat → Int64)} {x : Nat} (hx : iFan x)  : gv d rR48 0 [some (.ref x)] [] (mk m q w) =
    if iI (m x 2) = iI 0 then (some (.inl (some (.int (iI 0))), (mk m q w, (0, 0)))) else (some (.inl (some (.int (iI 1))), (mk (wr m x 2 (zDiv (m x 2) 2)) q w, (0, 0)))) := by
  refine Eq.trans (k_ald0 rfl) ?_
  refine Eq.trans (k_gtI rfl (fan_0 hx) rfl (by decide)) ?_
  refine Eq.trans (k_i1ne rfl rfl) ?_
  refine ifc ?_ ?_
  · refine Eq.trans (k_con rfl) ?_
    exact k_rtZ rfl rfl (Or.inl rfl)
  · refine Eq.trans (k_ald0 rfl) ?_
    refine Eq.trans (k_dup rfl rfl) ?_
    refine Eq.trans (k_gtI rfl (fan_0 hx) rfl (by decide)) ?_
    refine Eq.trans (k_con rfl) ?_
    refine Eq.trans (k_div rfl (by decide)) ?_
    refine Eq.trans (k_ptI rfl (fan_0 hx) rfl rfl) ?_
    refine Eq.trans (k_con rfl) ?_
    exact k_rtZ rfl rfl (Or.inr rfl)
theorem e_48 {d : Nat} (hd : 1 ≤ d) {a0 : Value} (M : rMem) (h0 : a0.category = 1) : ev d 48 [a0] M = gv (d - 1) rR48 0 [some a0] [] M := ev_at hd q_48 rfl (by simp [*]) rfl
/-! FanHouse$Fan.passSeason()V -/
theorem b_49_0 {d : Nat} {m : Nat → Nat → Int} {q : Nat → Nat → Option Nat} {w : Option (Nat → Int64)} {x : Nat} (hx : iFan x) (g0 : 9 ≤ d) : gv d rR49 0 [some (.ref x)] [] (mk m q w) =
    some (.inl none, (mk (wr (wr (wr m x 2 (if iI ((m x 2) - 3) < iI 0 then 0 else ((m x 2) - 3))) x 3 (if iI 99 < iI (((wr m x 2 (if iI ((m x 2) - 3) < iI 0 then 0 else ((m x 2) - 3))) x 3) + 2) then 99 else (((wr m x 2 (if iI ((m x 2) - 3) < iI 0 then 0 else ((m x 2) - 3))) x 3) + 2))) x 4 (((wr (wr m x 2 (if iI ((m x 2) - 3) < iI 0 then 0 else ((m x 2) - 3))) x 3 (if iI 99 < iI (((wr m x 2 (if iI ((m x 2) - 3) < iI 0 then 0 else ((m x 2) - 3))) x 3) + 2) then 99 else (((wr m x 2 (if iI ((m x 2) - 3) < iI 0 then 0 else ((m x 2) - 3))) x 3) + 2))) x 4) + 1)) q w, (0, 0))) := by
  refine Eq.trans (k_ald0 rfl) ?_
  refine Eq.trans (k_ald0 rfl) ?_
  refine Eq.trans (k_gtI rfl (fan_0 hx) rfl (by decide)) ?_
  refine Eq.trans (k_con rfl) ?_
  refine Eq.trans (k_sub rfl) ?_
  refine Eq.trans (k_con rfl) ?_
  refine Eq.trans (k_max rfl g0 (bl rfl)) ?_
  refine Eq.trans (k_ptI rfl (fan_0 hx) rfl rfl) ?_
  refine Eq.trans (k_ald0 rfl) ?_
  refine Eq.trans (k_ald0 rfl) ?_
  refine Eq.trans (k_gtI rfl (fan_0 hx) rfl (by decide)) ?_
  refine Eq.trans (k_con rfl) ?_
  refine Eq.trans (k_add rfl) ?_
  refine Eq.trans (k_bip rfl (by decide)) ?_
  refine Eq.trans (k_min rfl g0 (bl rfl)) ?_
  refine Eq.trans (k_ptI rfl (fan_0 hx) rfl rfl) ?_
  refine Eq.trans (k_ald0 rfl) ?_
  refine Eq.trans (k_dup rfl rfl) ?_
  refine Eq.trans (k_gtI rfl (fan_0 hx) rfl (by decide)) ?_
  refine Eq.trans (k_con rfl) ?_
  refine Eq.trans (k_add rfl) ?_
  refine Eq.trans (k_ptI rfl (fan_0 hx) rfl rfl) ?_
  exact k_rtV rfl rfl
theorem e_49 {d : Nat} (hd : 1 ≤ d) {a0 : Value} (M : rMem) (h0 : a0.category = 1) : ev d 49 [a0] M = gv (d - 1) rR49 0 [some a0] [] M := ev_at hd q_49 rfl (by simp [*]) rfl
/-! FanHouse$Fan.endSeason()Z -/
theorem b_50_0 {d : Nat} {m : Nat → Nat → Int} {q : Nat → Nat → Option Nat} {w : Option (Nat → Int64)} {x : Nat} (hx : iFan x)  : gv d rR50 0 [some (.ref x)] [] (mk m q w) =
    if iI (m x 4) < iI 400 then (rBd (ev d 49 [.ref x] (mk m q w)) (fun v M' => gv d rR50 16 [some (.ref x)] (v.toList ++ []) M')) else (some (.inl (some (.int (iI 0))), (mk m q w, (0, 0)))) := by
  refine Eq.trans (k_ald0 rfl) ?_
  refine Eq.trans (k_gtI rfl (fan_0 hx) rfl (by decide)) ?_
  refine Eq.trans (k_sip rfl (by decide)) ?_
  refine Eq.trans (k_i2lt rfl rfl) ?_
  refine ifc ?_ ?_
  · refine Eq.trans (k_ald0 rfl) ?_
    exact k_cV0 rfl (fan_0 hx) q_49 rfl rfl rfl (bl rfl)
  · refine Eq.trans (k_con rfl) ?_
    exact k_rtZ rfl rfl (Or.inl rfl)
theorem b_50_16 {d : Nat} {m : Nat → Nat → Int} {q : Nat → Nat → Option Nat} {w : Option (Nat → Int64)} {u0 : Option Value}   : gv d rR50 16 [u0] [] (mk m q w) =
    some (.inl (some (.int (iI 1))), (mk m q w, (0, 0))) := by
  refine Eq.trans (k_con rfl) ?_
  exact k_rtZ rfl rfl (Or.inr rfl)
theorem e_50 {d : Nat} (hd : 1 ≤ d) {a0 : Value} (M : rMem) (h0 : a0.category = 1) : ev d 50 [a0] M = gv (d - 1) rR50 0 [some a0] [] M := ev_at hd q_50 rfl (by simp [*]) rfl
/-! FanHouse$Fitting.make(I)V -/
theorem b_52_0 {d : Nat} {m : Nat → Nat → Int} {q : Nat → Nat → Option Nat} {w : Option (Nat → Int64)} {v1 : Int}   : gv d rR52 0 [some (.ref 171), some (.int (iI v1))] [] (mk m q w) =
    if iI v1 < iI 100 then (rBd (ev d 46 [.ref 172, .int (iI v1)] (mk m q w)) (fun v M' => gv d rR52 14 [some (.ref 171), some (.int (iI v1))] (v.toList ++ []) M')) else (rBd (ev d 45 [.ref 172, .int (iI (zDiv (v1 - 100) 10)), .int (iI (zRem v1 10))] (mk m q w)) (fun v M' => gv d rR52 36 [some (.ref 171), some (.int (iI v1))] (v.toList ++ []) M')) := by
  refine Eq.trans (k_ild1 rfl) ?_
  refine Eq.trans (k_bip rfl (by decide)) ?_
  refine Eq.trans (k_i2ge rfl rfl) ?_
  refine ifc ?_ ?_
  · refine Eq.trans (k_ald0 rfl) ?_
    refine Eq.trans (k_gtR rfl s_171 rfl (by decide)) ?_
    refine Eq.trans (k_ild1 rfl) ?_
    exact k_cV1 rfl s_172 q_46 rfl rfl rfl (bl rfl)
  · refine Eq.trans (k_ald0 rfl) ?_
    refine Eq.trans (k_gtR rfl s_171 rfl (by decide)) ?_
    refine Eq.trans (k_ild1 rfl) ?_
    refine Eq.trans (k_bip rfl (by decide)) ?_
    refine Eq.trans (k_sub rfl) ?_
    refine Eq.trans (k_bip rfl (by decide)) ?_
    refine Eq.trans (k_div rfl (by decide)) ?_
    refine Eq.trans (k_ild1 rfl) ?_
    refine Eq.trans (k_bip rfl (by decide)) ?_
    refine Eq.trans (k_rem rfl (by decide)) ?_
    exact k_cV2 rfl s_172 q_45 rfl rfl rfl (bl rfl)
theorem b_52_14 {d : Nat} {m : Nat → Nat → Int} {q : Nat → Nat → Option Nat} {w : Option (Nat → Int64)} {u0 u1 : Option Value} {s0 : Int}   : gv d rR52 14 [u0, u1] [.int (iI s0)] (mk m q w) =
    gv d rR52 37 [u0, u1] [] (mk m q w) := by
  refine Eq.trans (k_pop rfl rfl) ?_
  refine Eq.trans (k_go rfl rfl) ?_
  exact rfl
theorem b_52_36 {d : Nat} {m : Nat → Nat → Int} {q : Nat → Nat → Option Nat} {w : Option (Nat → Int64)} {u0 u1 : Option Value} {s0 : Int}   : gv d rR52 36 [u0, u1] [.int (iI s0)] (mk m q w) =
    gv d rR52 37 [u0, u1] [] (mk m q w) := by
  refine Eq.trans (k_pop rfl rfl) ?_
  exact rfl
theorem b_52_37 {d : Nat} {m : Nat → Nat → Int} {q : Nat → Nat → Option Nat} {w : Option (Nat → Int64)} {u0 u1 : Option Value}   : gv d rR52 37 [u0, u1] [] (mk m q w) =
    some (.inl none, (mk m q w, (0, 0))) := by
  exact k_rtV rfl rfl
theorem e_52 {d : Nat} (hd : 1 ≤ d) {a0 a1 : Value} (M : rMem) (h0 : a0.category = 1) (h1 : a1.category = 1) : ev d 52 [a0, a1] M = gv (d - 1) rR52 0 [some a0, some a1] [] M := ev_at hd q_52 rfl (by simp [*]) rfl
/-! FanHouse$Fitting.keepIfRight(ILFanHouse$Book;)V -/
theorem b_53_0 {d : Nat} {m : Nat → Nat → Int} {q : Nat → Nat → Option Nat} {w : Option (Nat → Int64)} {u3 : Option Value} {v1 : Int} {p2 : Nat} (hp2 : iBook p2)  : gv d rR53 0 [some (.ref 171), some (.int (iI v1)), some (.ref p2), u3] [] (mk m q w) =
    rBd (ev d 52 [.ref 171, .int (iI v1)] (mk m q w)) (fun v M' => gv d rR53 5 [some (.ref 171), some (.int (iI v1)), some (.ref p2), u3] (v.toList ++ []) M') := by
  refine Eq.trans (k_ald0 rfl) ?_
  refine Eq.trans (k_ild1 rfl) ?_
  exact k_cV1 rfl s_171 q_52 rfl rfl rfl (bl rfl)
theorem b_53_5 {d : Nat} {m : Nat → Nat → Int} {q : Nat → Nat → Option Nat} {w : Option (Nat → Int64)} {u3 : Option Value} {v1 : Int} {p2 : Nat} (hp2 : iBook p2)  : gv d rR53 5 [some (.ref 171), some (.int (iI v1)), some (.ref p2), u3] [] (mk m q w) =
    rBd (ev d 20 [.ref p2, .ref 172] (mk m q w)) (fun v M' => gv d rR53 13 [some (.ref 171), some (.int (iI v1)), some (.ref p2), u3] (v.toList ++ []) M') := by
  refine Eq.trans (k_ald2 rfl) ?_
  refine Eq.trans (k_ald0 rfl) ?_
  refine Eq.trans (k_gtR rfl s_171 rfl (by decide)) ?_
  exact k_cV1 rfl (book_0 hp2) q_20 rfl rfl rfl (bl rfl)
theorem b_53_13 {d : Nat} {m : Nat → Nat → Int} {q : Nat → Nat → Option Nat} {w : Option (Nat → Int64)} {u2 u3 : Option Value} {v1 s0 : Int}   : gv d rR53 13 [some (.ref 171), some (.int (iI v1)), u2, u3] [.int (iI s0)] (mk m q w) =
    rBd (ev d 52 [.ref 171, .int (iI v1)] (mk m q w)) (fun v M' => gv d rR53 19 [some (.ref 171), some (.int (iI v1)), u2, some (.int (iI s0))] (v.toList ++ []) M') := by
  refine Eq.trans (k_ist3 rfl) ?_
  refine Eq.trans (k_ald0 rfl) ?_
  refine Eq.trans (k_ild1 rfl) ?_
  exact k_cV1 rfl s_171 q_52 rfl rfl rfl (bl rfl)
theorem b_53_19 {d : Nat} {m : Nat → Nat → Int} {q : Nat → Nat → Option Nat} {w : Option (Nat → Int64)} {u2 : Option Value} {v1 v3 : Int}   : gv d rR53 19 [some (.ref 171), some (.int (iI v1)), u2, some (.int (iI v3))] [] (mk m q w) =
    if iI v3 = iI 0 then (gv d rR53 55 [some (.ref 171), some (.int (iI v1)), u2, some (.int (iI v3))] [] (mk m q w)) else (if iI (m 171 3) < iI (((28 : Nat) : Int)) then (gv d rR53 35 [some (.ref 171), some (.int (iI v1)), u2, some (.int (iI v3))] [] (mk m q w)) else (gv d rR53 55 [some (.ref 171), some (.int (iI v1)), u2, some (.int (iI v3))] [] (mk m q w))) := by
  refine Eq.trans (k_ild3 rfl) ?_
  refine Eq.trans (k_i1eq rfl rfl) ?_
  refine ifc ?_ ?_
  · exact rfl
  · refine Eq.trans (k_ald0 rfl) ?_
    refine Eq.trans (k_gtI rfl s_171 rfl (by decide)) ?_
    refine Eq.trans (k_ald0 rfl) ?_
    refine Eq.trans (k_gtR rfl s_171 rfl (by decide)) ?_
    refine Eq.trans (k_alen rfl s_175 (by decide)) ?_
    refine Eq.trans (k_i2ge rfl rfl) ?_
    refine ifc ?_ ?_
    · exact rfl
    · exact rfl
theorem b_53_35 {d : Nat} {m : Nat → Nat → Int} {q : Nat → Nat → Option Nat} {w : Option (Nat → Int64)} {u2 u3 : Option Value} {v1 : Int}  (g0 : 0 ≤ (m 171 3)) (g1 : (m 171 3) < 28) : gv d rR53 35 [some (.ref 171), some (.int (iI v1)), u2, u3] [] (mk m q w) =
    gv d rR53 55 [some (.ref 171), some (.int (iI v1)), u2, u3] [] (mk (wr (wr m 175 (Int.toNat (m 171 3)) v1) 171 3 (((wr m 175 (Int.toNat (m 171 3)) v1) 171 3) + 1)) q w) := by
  refine Eq.trans (k_ald0 rfl) ?_
  refine Eq.trans (k_gtR rfl s_171 rfl (by decide)) ?_
  refine Eq.trans (k_ald0 rfl) ?_
  refine Eq.trans (k_gtI rfl s_171 rfl (by decide)) ?_
  refine Eq.trans (k_ild1 rfl) ?_
  refine Eq.trans (k_iast rfl s_175 (bl rfl) g0 g1) ?_
  refine Eq.trans (k_ald0 rfl) ?_
  refine Eq.trans (k_dup rfl rfl) ?_
  refine Eq.trans (k_gtI rfl s_171 rfl (by decide)) ?_
  refine Eq.trans (k_con rfl) ?_
  refine Eq.trans (k_add rfl) ?_
  refine Eq.trans (k_ptI rfl s_171 rfl rfl) ?_
  exact rfl
theorem b_53_55 {d : Nat} {m : Nat → Nat → Int} {q : Nat → Nat → Option Nat} {w : Option (Nat → Int64)} {u0 u1 u2 u3 : Option Value}   : gv d rR53 55 [u0, u1, u2, u3] [] (mk m q w) =
    some (.inl none, (mk m q w, (0, 0))) := by
  exact k_rtV rfl rfl
theorem e_53 {d : Nat} (hd : 1 ≤ d) {a0 a1 a2 : Value} (M : rMem) (h0 : a0.category = 1) (h1 : a1.category = 1) (h2 : a2.category = 1) : ev d 53 [a0, a1, a2] M = gv (d - 1) rR53 0 [some a0, some a1, some a2, none] [] M := ev_at hd q_53 rfl (by simp [*]) rfl
/-! FanHouse$Fitting.find(LFanHouse$Fan;LFanHouse$Book;)V -/
theorem b_54_0 {d : Nat} {m : Nat → Nat → Int} {q : Nat → Nat → Option Nat} {w : Option (Nat → Int64)} {u3 u4 : Option Value} {p1 : Nat} {p2 : Nat} (hp1 : iFan p1) (hp2 : iBook p2)  : gv d rR54 0 [some (.ref 171), some (.ref p1), some (.ref p2), u3, u4] [] (mk m q w) =
    rBd (ev d 22 [.ref 172, .ref p1] (mk m q w)) (fun v M' => gv d rR54 8 [some (.ref 171), some (.ref p1), some (.ref p2), u3, u4] (v.toList ++ []) M') := by
  refine Eq.trans (k_ald0 rfl) ?_
  refine Eq.trans (k_gtR rfl s_171 rfl (by decide)) ?_
  refine Eq.trans (k_ald1 rfl) ?_
  exact k_cV1 rfl s_172 q_22 rfl rfl rfl (bl rfl)
theorem b_54_8 {d : Nat} {m : Nat → Nat → Int} {q : Nat → Nat → Option Nat} {w : Option (Nat → Int64)} {u1 u3 u4 : Option Value} {p2 : Nat} (hp2 : iBook p2)  : gv d rR54 8 [some (.ref 171), u1, some (.ref p2), u3, u4] [] (mk m q w) =
    rBd (ev d 24 [.ref 172] (mk m q w)) (fun v M' => gv d rR54 15 [some (.ref 171), u1, some (.ref p2), u3, u4] (v.toList ++ []) M') := by
  refine Eq.trans (k_ald0 rfl) ?_
  refine Eq.trans (k_gtR rfl s_171 rfl (by decide)) ?_
  exact k_cV0 rfl s_172 q_24 rfl rfl rfl (bl rfl)
theorem b_54_15 {d : Nat} {m : Nat → Nat → Int} {q : Nat → Nat → Option Nat} {w : Option (Nat → Int64)} {u1 u3 u4 : Option Value} {s0 : Int} {p2 : Nat} (hp2 : iBook p2)  : gv d rR54 15 [some (.ref 171), u1, some (.ref p2), u3, u4] [.int (iI s0)] (mk m q w) =
    gv d rR54 23 [some (.ref 171), u1, some (.ref p2), some (.int (iI 0)), u4] [] (mk (wr m 171 3 0) q w) := by
  refine Eq.trans (k_pop rfl rfl) ?_
  refine Eq.trans (k_ald0 rfl) ?_
  refine Eq.trans (k_con rfl) ?_
  refine Eq.trans (k_ptI rfl s_171 rfl rfl) ?_
  refine Eq.trans (k_con rfl) ?_
  refine Eq.trans (k_ist3 rfl) ?_
  exact rfl
theorem b_54_23 {d : Nat} {m : Nat → Nat → Int} {q : Nat → Nat → Option Nat} {w : Option (Nat → Int64)} {u1 u4 : Option Value} {v3 : Int} {p2 : Nat} (hp2 : iBook p2)  : gv d rR54 23 [some (.ref 171), u1, some (.ref p2), some (.int (iI v3)), u4] [] (mk m q w) =
    if iI v3 < iI (m 172 0) then (rBd (ev d 53 [.ref 171, .int (iI v3), .ref p2] (mk m q w)) (fun v M' => gv d rR54 40 [some (.ref 171), u1, some (.ref p2), some (.int (iI v3)), u4] (v.toList ++ []) M')) else (gv d rR54 48 [some (.ref 171), u1, some (.ref p2), some (.int (iI 0)), u4] [] (mk m q w)) := by
  refine Eq.trans (k_ild3 rfl) ?_
  refine Eq.trans (k_ald0 rfl) ?_
  refine Eq.trans (k_gtR rfl s_171 rfl (by decide)) ?_
  refine Eq.trans (k_gtI rfl s_172 rfl (by decide)) ?_
  refine Eq.trans (k_i2ge rfl rfl) ?_
  refine ifc ?_ ?_
  · refine Eq.trans (k_ald0 rfl) ?_
    refine Eq.trans (k_ild3 rfl) ?_
    refine Eq.trans (k_ald2 rfl) ?_
    exact k_cV2 rfl s_171 q_53 rfl rfl rfl (bl rfl)
  · refine Eq.trans (k_con rfl) ?_
    refine Eq.trans (k_ist3 rfl) ?_
    exact rfl
theorem b_54_40 {d : Nat} {m : Nat → Nat → Int} {q : Nat → Nat → Option Nat} {w : Option (Nat → Int64)} {u1 u4 : Option Value} {v3 : Int} {p2 : Nat} (hp2 : iBook p2)  : gv d rR54 40 [some (.ref 171), u1, some (.ref p2), some (.int (iI v3)), u4] [] (mk m q w) =
    gv d rR54 23 [some (.ref 171), u1, some (.ref p2), some (.int (iI (v3 + 1))), u4] [] (mk m q w) := by
  refine Eq.trans (k_inc3 rfl) ?_
  refine Eq.trans (k_go rfl rfl) ?_
  exact rfl
theorem b_54_48 {d : Nat} {m : Nat → Nat → Int} {q : Nat → Nat → Option Nat} {w : Option (Nat → Int64)} {u1 u4 : Option Value} {v3 : Int} {p2 : Nat} (hp2 : iBook p2)  : gv d rR54 48 [some (.ref 171), u1, some (.ref p2), some (.int (iI v3)), u4] [] (mk m q w) =
    if iI v3 < iI (m 172 0) then (gv d rR54 64 [some (.ref 171), u1, some (.ref p2), some (.int (iI v3)), some (.int (iI (v3 + 1)))] [] (mk m q w)) else (some (.inl none, (mk m q w, (0, 0)))) := by
  refine Eq.trans (k_ild3 rfl) ?_
  refine Eq.trans (k_ald0 rfl) ?_
  refine Eq.trans (k_gtR rfl s_171 rfl (by decide)) ?_
  refine Eq.trans (k_gtI rfl s_172 rfl (by decide)) ?_
  refine Eq.trans (k_i2ge rfl rfl) ?_
  refine ifc ?_ ?_
  · refine Eq.trans (k_ild3 rfl) ?_
    refine Eq.trans (k_con rfl) ?_
    refine Eq.trans (k_add rfl) ?_
    refine Eq.trans (k_ist4 rfl) ?_
    exact rfl
  · exact k_rtV rfl rfl
theorem b_54_64 {d : Nat} {m : Nat → Nat → Int} {q : Nat → Nat → Option Nat} {w : Option (Nat → Int64)} {u1 : Option Value} {v3 v4 : Int} {p2 : Nat} (hp2 : iBook p2)  : gv d rR54 64 [some (.ref 171), u1, some (.ref p2), some (.int (iI v3)), some (.int (iI v4))] [] (mk m q w) =
    if iI v4 < iI (m 172 0) then (rBd (ev d 53 [.ref 171, .int (iI ((100 + (10 * v3)) + v4)), .ref p2] (mk m q w)) (fun v M' => gv d rR54 91 [some (.ref 171), u1, some (.ref p2), some (.int (iI v3)), some (.int (iI v4))] (v.toList ++ []) M')) else (gv d rR54 48 [some (.ref 171), u1, some (.ref p2), some (.int (iI (v3 + 1))), some (.int (iI v4))] [] (mk m q w)) := by
  refine Eq.trans (k_ild4 rfl) ?_
  refine Eq.trans (k_ald0 rfl) ?_
  refine Eq.trans (k_gtR rfl s_171 rfl (by decide)) ?_
  refine Eq.trans (k_gtI rfl s_172 rfl (by decide)) ?_
  refine Eq.trans (k_i2ge rfl rfl) ?_
  refine ifc ?_ ?_
  · refine Eq.trans (k_ald0 rfl) ?_
    refine Eq.trans (k_bip rfl (by decide)) ?_
    refine Eq.trans (k_bip rfl (by decide)) ?_
    refine Eq.trans (k_ild3 rfl) ?_
    refine Eq.trans (k_mul rfl) ?_
    refine Eq.trans (k_add rfl) ?_
    refine Eq.trans (k_ild4 rfl) ?_
    refine Eq.trans (k_add rfl) ?_
    refine Eq.trans (k_ald2 rfl) ?_
    exact k_cV2 rfl s_171 q_53 rfl rfl rfl (bl rfl)
  · refine Eq.trans (k_inc3 rfl) ?_
    refine Eq.trans (k_go rfl rfl) ?_
    exact rfl
theorem b_54_91 {d : Nat} {m : Nat → Nat → Int} {q : Nat → Nat → Option Nat} {w : Option (Nat → Int64)} {u1 : Option Value} {v3 v4 : Int} {p2 : Nat} (hp2 : iBook p2)  : gv d rR54 91 [some (.ref 171), u1, some (.ref p2), some (.int (iI v3)), some (.int (iI v4))] [] (mk m q w) =
    gv d rR54 64 [some (.ref 171), u1, some (.ref p2), some (.int (iI v3)), some (.int (iI (v4 + 1)))] [] (mk m q w) := by
  refine Eq.trans (k_inc4 rfl) ?_
  refine Eq.trans (k_go rfl rfl) ?_
  exact rfl
theorem e_54 {d : Nat} (hd : 1 ≤ d) {a0 a1 a2 : Value} (M : rMem) (h0 : a0.category = 1) (h1 : a1.category = 1) (h2 : a2.category = 1) : ev d 54 [a0, a1, a2] M = gv (d - 1) rR54 0 [some a0, some a1, some a2, none, none] [] M := ev_at hd q_54 rfl (by simp [*]) rfl
/-! FanHouse$Fitting.first()I -/
theorem b_55_0 {d : Nat} {m : Nat → Nat → Int} {q : Nat → Nat → Option Nat} {w : Option (Nat → Int64)}   : gv d rR55 0 [some (.ref 171)] [] (mk m q w) =
    if iI 0 < iI (m 171 3) then (gv d rR55 17 [some (.ref 171)] [.int (iI (m 175 0))] (mk m q w)) else (gv d rR55 17 [some (.ref 171)] [.int (iI (-1))] (mk m q w)) := by
  refine Eq.trans (k_ald0 rfl) ?_
  refine Eq.trans (k_gtI rfl s_171 rfl (by decide)) ?_
  refine Eq.trans (k_i1le rfl rfl) ?_
  refine ifc ?_ ?_
  · refine Eq.trans (k_ald0 rfl) ?_
    refine Eq.trans (k_gtR rfl s_171 rfl (by decide)) ?_
    refine Eq.trans (k_con rfl) ?_
    refine Eq.trans (k_iald rfl s_175 (bl rfl) (by decide) (by decide)) ?_
    refine Eq.trans (k_go rfl rfl) ?_
    exact rfl
  · refine Eq.trans (k_con rfl) ?_
    exact rfl
theorem b_55_17 {d : Nat} {m : Nat → Nat → Int} {q : Nat → Nat → Option Nat} {w : Option (Nat → Int64)} {u0 : Option Value} {s0 : Int}   : gv d rR55 17 [u0] [.int (iI s0)] (mk m q w) =
    some (.inl (some (.int (iI s0))), (mk m q w, (0, 0))) := by
  exact k_rtI rfl rfl
theorem e_55 {d : Nat} (hd : 1 ≤ d) {a0 : Value} (M : rMem) (h0 : a0.category = 1) : ev d 55 [a0] M = gv (d - 1) rR55 0 [some a0] [] M := ev_at hd q_55 rfl (by simp [*]) rfl
/-! java/util/Arrays.fill([II)V -/
theorem b_56_0 {d : Nat} {m : Nat → Nat → Int} {q : Nat → Nat → Option Nat} {w : Option (Nat → Int64)} {u2 u3 : Option Value} {v1 : Int} {p0 np0 bp0 kp0 : Nat} (hp0 : rShp p0 = some (aS 0 np0 bp0 kp0)) (hnp0 : np0 ≤ 100000)  : gv d rR56 0 [some (.ref p0), some (.int (iI v1)), u2, u3] [] (mk m q w) =
    gv d rR56 5 [some (.ref p0), some (.int (iI v1)), some (.int (iI 0)), some (.int (iI (((np0 : Nat) : Int))))] [] (mk m q w) := by
  refine Eq.trans (k_con rfl) ?_
  refine Eq.trans (k_ist2 rfl) ?_
  refine Eq.trans (k_ald0 rfl) ?_
  refine Eq.trans (k_alen rfl hp0 (by intro hz; have h9 := hp0; rw [hz] at h9; cases h9)) ?_
  refine Eq.trans (k_ist3 rfl) ?_
  exact rfl
theorem b_56_5 {d : Nat} {m : Nat → Nat → Int} {q : Nat → Nat → Option Nat} {w : Option (Nat → Int64)} {v1 v2 v3 : Int} {p0 np0 bp0 kp0 : Nat} (hp0 : rShp p0 = some (aS 0 np0 bp0 kp0)) (hnp0 : np0 ≤ 100000)  : gv d rR56 5 [some (.ref p0), some (.int (iI v1)), some (.int (iI v2)), some (.int (iI v3))] [] (mk m q w) =
    if iI v2 < iI v3 then (gv d rR56 10 [some (.ref p0), some (.int (iI v1)), some (.int (iI v2)), some (.int (iI v3))] [] (mk m q w)) else (some (.inl none, (mk m q w, (0, 0)))) := by
  refine Eq.trans (k_ild2 rfl) ?_
  refine Eq.trans (k_ild3 rfl) ?_
  refine Eq.trans (k_i2ge rfl rfl) ?_
  refine ifc ?_ ?_
  · exact rfl
  · exact k_rtV rfl rfl
theorem b_56_10 {d : Nat} {m : Nat → Nat → Int} {q : Nat → Nat → Option Nat} {w : Option (Nat → Int64)} {v1 v2 v3 : Int} {p0 np0 bp0 kp0 : Nat} (hp0 : rShp p0 = some (aS 0 np0 bp0 kp0)) (hnp0 : np0 ≤ 100000) (g0 : 0 ≤ v2) (g1 : v2 < (np0 : Nat)) : gv d rR56 10 [some (.ref p0), some (.int (iI v1)), some (.int (iI v2)), some (.int (iI v3))] [] (mk m q w) =
    gv d rR56 5 [some (.ref p0), some (.int (iI v1)), some (.int (iI (v2 + 1))), some (.int (iI v3))] [] (mk (wr m p0 (Int.toNat v2) v1) q w) := by
  refine Eq.trans (k_ald0 rfl) ?_
  refine Eq.trans (k_ild2 rfl) ?_
  refine Eq.trans (k_ild1 rfl) ?_
  refine Eq.trans (k_iast rfl hp0 hnp0 g0 g1) ?_
  refine Eq.trans (k_inc2 rfl) ?_
  refine Eq.trans (k_go rfl rfl) ?_
  exact rfl
theorem e_56 {d : Nat} (hd : 1 ≤ d) {a0 a1 : Value} (M : rMem) (h0 : a0.category = 1) (h1 : a1.category = 1) : ev d 56 [a0, a1] M = gv (d - 1) rR56 0 [some a0, some a1, none, none] [] M := ev_at hd q_56 rfl (by simp [*]) rfl
/-! FanHouse$Fitting.leftAtWorst(II)I -/
theorem b_57_0 {d : Nat} {m : Nat → Nat → Int} {q : Nat → Nat → Option Nat} {w : Option (Nat → Int64)} {u3 u4 u5 : Option Value} {v1 v2 : Int}   : gv d rR57 0 [some (.ref 171), some (.int (iI v1)), some (.int (iI v2)), u3, u4, u5] [] (mk m q w) =
    rBd (ev d 56 [.ref 176, .int (iI 0)] (mk m q w)) (fun v M' => gv d rR57 8 [some (.ref 171), some (.int (iI v1)), some (.int (iI v2)), u3, u4, u5] (v.toList ++ []) M') := by
  refine Eq.trans (k_ald0 rfl) ?_
  refine Eq.trans (k_gtR rfl s_171 rfl (by decide)) ?_
  refine Eq.trans (k_con rfl) ?_
  exact k_cS2 rfl (by decide) q_56 rfl rfl (bl rfl)
theorem b_57_8 {d : Nat} {m : Nat → Nat → Int} {q : Nat → Nat → Option Nat} {w : Option (Nat → Int64)} {u3 u4 u5 : Option Value} {v1 v2 : Int}   : gv d rR57 8 [some (.ref 171), some (.int (iI v1)), some (.int (iI v2)), u3, u4, u5] [] (mk m q w) =
    gv d rR57 13 [some (.ref 171), some (.int (iI v1)), some (.int (iI v2)), some (.int (iI 0)), some (.int (iI 0)), u5] [] (mk m q w) := by
  refine Eq.trans (k_con rfl) ?_
  refine Eq.trans (k_ist3 rfl) ?_
  refine Eq.trans (k_con rfl) ?_
  refine Eq.trans (k_ist4 rfl) ?_
  exact rfl
theorem b_57_13 {d : Nat} {m : Nat → Nat → Int} {q : Nat → Nat → Option Nat} {w : Option (Nat → Int64)} {u5 : Option Value} {v1 v2 v3 v4 : Int}   : gv d rR57 13 [some (.ref 171), some (.int (iI v1)), some (.int (iI v2)), some (.int (iI v3)), some (.int (iI v4)), u5] [] (mk m q w) =
    if iI v4 < iI (m 171 3) then (gv d rR57 22 [some (.ref 171), some (.int (iI v1)), some (.int (iI v2)), some (.int (iI v3)), some (.int (iI v4)), u5] [] (mk m q w)) else (some (.inl (some (.int (iI v3))), (mk m q w, (0, 0)))) := by
  refine Eq.trans (k_ild4 rfl) ?_
  refine Eq.trans (k_ald0 rfl) ?_
  refine Eq.trans (k_gtI rfl s_171 rfl (by decide)) ?_
  refine Eq.trans (k_i2ge rfl rfl) ?_
  refine ifc ?_ ?_
  · exact rfl
  · refine Eq.trans (k_ild3 rfl) ?_
    exact k_rtI rfl rfl
theorem b_57_22 {d : Nat} {m : Nat → Nat → Int} {q : Nat → Nat → Option Nat} {w : Option (Nat → Int64)} {u5 : Option Value} {v1 v2 v3 v4 : Int}  (g0 : 0 ≤ v4) (g1 : v4 < 28) : gv d rR57 22 [some (.ref 171), some (.int (iI v1)), some (.int (iI v2)), some (.int (iI v3)), some (.int (iI v4)), u5] [] (mk m q w) =
    rBd (ev d 52 [.ref 171, .int (iI (m 175 (Int.toNat v4)))] (mk m q w)) (fun v M' => gv d rR57 33 [some (.ref 171), some (.int (iI v1)), some (.int (iI v2)), some (.int (iI v3)), some (.int (iI v4)), u5] (v.toList ++ []) M') := by
  refine Eq.trans (k_ald0 rfl) ?_
  refine Eq.trans (k_ald0 rfl) ?_
  refine Eq.trans (k_gtR rfl s_171 rfl (by decide)) ?_
  refine Eq.trans (k_ild4 rfl) ?_
  refine Eq.trans (k_iald rfl s_175 (bl rfl) g0 g1) ?_
  exact k_cV1 rfl s_171 q_52 rfl rfl rfl (bl rfl)
theorem b_57_33 {d : Nat} {m : Nat → Nat → Int} {q : Nat → Nat → Option Nat} {w : Option (Nat → Int64)} {u5 : Option Value} {v1 v2 v3 v4 : Int}   : gv d rR57 33 [some (.ref 171), some (.int (iI v1)), some (.int (iI v2)), some (.int (iI v3)), some (.int (iI v4)), u5] [] (mk m q w) =
    rBd (ev d 19 [.ref 172, .int (iI v1), .int (iI v2)] (mk m q w)) (fun v M' => gv d rR57 42 [some (.ref 171), some (.int (iI v1)), some (.int (iI v2)), some (.int (iI v3)), some (.int (iI v4)), u5] (v.toList ++ []) M') := by
  refine Eq.trans (k_ald0 rfl) ?_
  refine Eq.trans (k_gtR rfl s_171 rfl (by decide)) ?_
  refine Eq.trans (k_ild1 rfl) ?_
  refine Eq.trans (k_ild2 rfl) ?_
  exact k_cV2 rfl s_172 q_19 rfl rfl rfl (bl rfl)
theorem b_57_42 {d : Nat} {m : Nat → Nat → Int} {q : Nat → Nat → Option Nat} {w : Option (Nat → Int64)} {u5 : Option Value} {v1 v2 v3 v4 s0 : Int}  (g0 : 0 ≤ v4) (g1 : v4 < 28) : gv d rR57 42 [some (.ref 171), some (.int (iI v1)), some (.int (iI v2)), some (.int (iI v3)), some (.int (iI v4)), u5] [.int (iI s0)] (mk m q w) =
    rBd (ev d 52 [.ref 171, .int (iI (m 175 (Int.toNat v4)))] (mk m q w)) (fun v M' => gv d rR57 55 [some (.ref 171), some (.int (iI v1)), some (.int (iI v2)), some (.int (iI v3)), some (.int (iI v4)), some (.int (iI s0))] (v.toList ++ []) M') := by
  refine Eq.trans (k_ist5 rfl) ?_
  refine Eq.trans (k_ald0 rfl) ?_
  refine Eq.trans (k_ald0 rfl) ?_
  refine Eq.trans (k_gtR rfl s_171 rfl (by decide)) ?_
  refine Eq.trans (k_ild4 rfl) ?_
  refine Eq.trans (k_iald rfl s_175 (bl rfl) g0 g1) ?_
  exact k_cV1 rfl s_171 q_52 rfl rfl rfl (bl rfl)
theorem b_57_55 {d : Nat} {m : Nat → Nat → Int} {q : Nat → Nat → Option Nat} {w : Option (Nat → Int64)} {v1 v2 v3 v4 v5 : Int}   : gv d rR57 55 [some (.ref 171), some (.int (iI v1)), some (.int (iI v2)), some (.int (iI v3)), some (.int (iI v4)), some (.int (iI v5))] [] (mk m q w) =
    rBd (ev d 6 [.int (iI v5), .int (iI 0), .int (iI ((((16 : Nat) : Int)) - 1))] (mk m q w)) (fun v M' => gv d rR57 68 [some (.ref 171), some (.int (iI v1)), some (.int (iI v2)), some (.int (iI v3)), some (.int (iI v4)), some (.int (iI v5))] (v.toList ++ []) M') := by
  refine Eq.trans (k_ild5 rfl) ?_
  refine Eq.trans (k_con rfl) ?_
  refine Eq.trans (k_ald0 rfl) ?_
  refine Eq.trans (k_gtR rfl s_171 rfl (by decide)) ?_
  refine Eq.trans (k_alen rfl s_176 (by decide)) ?_
  refine Eq.trans (k_con rfl) ?_
  refine Eq.trans (k_sub rfl) ?_
  exact k_cS3 rfl (by decide) q_6 rfl rfl (bl rfl)
theorem b_57_68 {d : Nat} {m : Nat → Nat → Int} {q : Nat → Nat → Option Nat} {w : Option (Nat → Int64)} {v1 v2 v3 v4 v5 s0 : Int}   : gv d rR57 68 [some (.ref 171), some (.int (iI v1)), some (.int (iI v2)), some (.int (iI v3)), some (.int (iI v4)), some (.int (iI v5))] [.int (iI s0)] (mk m q w) =
    if iI s0 = iI 0 then (gv d rR57 94 [some (.ref 171), some (.int (iI v1)), some (.int (iI v2)), some (.int (iI v3)), some (.int (iI v4)), some (.int (iI v5))] [] (mk m q w)) else (gv d rR57 71 [some (.ref 171), some (.int (iI v1)), some (.int (iI v2)), some (.int (iI v3)), some (.int (iI v4)), some (.int (iI v5))] [] (mk m q w)) := by
  refine Eq.trans (k_i1eq rfl rfl) ?_
  refine ifc ?_ ?_
  · exact rfl
  · exact rfl
theorem b_57_71 {d : Nat} {m : Nat → Nat → Int} {q : Nat → Nat → Option Nat} {w : Option (Nat → Int64)} {v1 v2 v3 v4 v5 : Int}  (g0 : 0 ≤ v5) (g1 : v5 < 16) (g2 : 9 ≤ d) : gv d rR57 71 [some (.ref 171), some (.int (iI v1)), some (.int (iI v2)), some (.int (iI v3)), some (.int (iI v4)), some (.int (iI v5))] [] (mk m q w) =
    gv d rR57 94 [some (.ref 171), some (.int (iI v1)), some (.int (iI v2)), some (.int (iI (if iI v3 < iI ((wr m 176 (Int.toNat v5) ((m 176 (Int.toNat v5)) + 1)) 176 (Int.toNat v5)) then ((wr m 176 (Int.toNat v5) ((m 176 (Int.toNat v5)) + 1)) 176 (Int.toNat v5)) else v3))), some (.int (iI v4)), some (.int (iI v5))] [] (mk (wr m 176 (Int.toNat v5) ((m 176 (Int.toNat v5)) + 1)) q w) := by
  refine Eq.trans (k_ald0 rfl) ?_
  refine Eq.trans (k_gtR rfl s_171 rfl (by decide)) ?_
  refine Eq.trans (k_ild5 rfl) ?_
  refine Eq.trans (k_du2 rfl ⟨rfl, rfl⟩) ?_
  refine Eq.trans (k_iald rfl s_176 (bl rfl) g0 g1) ?_
  refine Eq.trans (k_con rfl) ?_
  refine Eq.trans (k_add rfl) ?_
  refine Eq.trans (k_iast rfl s_176 (bl rfl) g0 g1) ?_
  refine Eq.trans (k_ild3 rfl) ?_
  refine Eq.trans (k_ald0 rfl) ?_
  refine Eq.trans (k_gtR rfl s_171 rfl (by decide)) ?_
  refine Eq.trans (k_ild5 rfl) ?_
  refine Eq.trans (k_iald rfl s_176 (bl rfl) g0 g1) ?_
  refine Eq.trans (k_max rfl g2 (bl rfl)) ?_
  refine Eq.trans (k_ist3 rfl) ?_
  exact rfl
theorem b_57_94 {d : Nat} {m : Nat → Nat → Int} {q : Nat → Nat → Option Nat} {w : Option (Nat → Int64)} {u5 : Option Value} {v1 v2 v3 v4 : Int}   : gv d rR57 94 [some (.ref 171), some (.int (iI v1)), some (.int (iI v2)), some (.int (iI v3)), some (.int (iI v4)), u5] [] (mk m q w) =
    gv d rR57 13 [some (.ref 171), some (.int (iI v1)), some (.int (iI v2)), some (.int (iI v3)), some (.int (iI (v4 + 1))), u5] [] (mk m q w) := by
  refine Eq.trans (k_inc4 rfl) ?_
  refine Eq.trans (k_go rfl rfl) ?_
  exact rfl
theorem e_57 {d : Nat} (hd : 1 ≤ d) {a0 a1 a2 : Value} (M : rMem) (h0 : a0.category = 1) (h1 : a1.category = 1) (h2 : a2.category = 1) : ev d 57 [a0, a1, a2] M = gv (d - 1) rR57 0 [some a0, some a1, some a2, none, none, none] [] M := ev_at hd q_57 rfl (by simp [*]) rfl
/-! FanHouse$Fitting.findLook(LFanHouse$Book;)V -/
theorem b_58_0 {d : Nat} {m : Nat → Nat → Int} {q : Nat → Nat → Option Nat} {w : Option (Nat → Int64)} {u2 u3 u4 : Option Value} {p1 : Nat} (hp1 : iBook p1)  : gv d rR58 0 [some (.ref 171), some (.ref p1), u2, u3, u4] [] (mk m q w) =
    gv d rR58 12 [some (.ref 171), some (.ref p1), some (.int (iI 0)), u3, u4] [] (mk (wr (wr m 171 4 (-1)) 171 5 (-1)) q w) := by
  refine Eq.trans (k_ald0 rfl) ?_
  refine Eq.trans (k_con rfl) ?_
  refine Eq.trans (k_ptI rfl s_171 rfl rfl) ?_
  refine Eq.trans (k_ald0 rfl) ?_
  refine Eq.trans (k_con rfl) ?_
  refine Eq.trans (k_ptI rfl s_171 rfl rfl) ?_
  refine Eq.trans (k_con rfl) ?_
  refine Eq.trans (k_ist2 rfl) ?_
  exact rfl
theorem b_58_12 {d : Nat} {m : Nat → Nat → Int} {q : Nat → Nat → Option Nat} {w : Option (Nat → Int64)} {u3 u4 : Option Value} {v2 : Int} {p1 : Nat} (hp1 : iBook p1)  : gv d rR58 12 [some (.ref 171), some (.ref p1), some (.int (iI v2)), u3, u4] [] (mk m q w) =
    if iI v2 < iI 4 then (gv d rR58 19 [some (.ref 171), some (.ref p1), some (.int (iI v2)), some (.int (iI 0)), u4] [] (mk m q w)) else (some (.inl none, (mk m q w, (0, 0)))) := by
  refine Eq.trans (k_ild2 rfl) ?_
  refine Eq.trans (k_con rfl) ?_
  refine Eq.trans (k_i2ge rfl rfl) ?_
  refine ifc ?_ ?_
  · refine Eq.trans (k_con rfl) ?_
    refine Eq.trans (k_ist3 rfl) ?_
    exact rfl
  · exact k_rtV rfl rfl
theorem b_58_19 {d : Nat} {m : Nat → Nat → Int} {q : Nat → Nat → Option Nat} {w : Option (Nat → Int64)} {u4 : Option Value} {v2 v3 : Int} {p1 : Nat} (hp1 : iBook p1)  : gv d rR58 19 [some (.ref 171), some (.ref p1), some (.int (iI v2)), some (.int (iI v3)), u4] [] (mk m q w) =
    if iI v3 < iI (m 172 0) then (rBd (ev d 11 [.ref p1, .int (iI v2), .int (iI v3)] (mk m q w)) (fun v M' => gv d rR58 36 [some (.ref 171), some (.ref p1), some (.int (iI v2)), some (.int (iI v3)), u4] (v.toList ++ []) M')) else (gv d rR58 12 [some (.ref 171), some (.ref p1), some (.int (iI (v2 + 1))), some (.int (iI v3)), u4] [] (mk m q w)) := by
  refine Eq.trans (k_ild3 rfl) ?_
  refine Eq.trans (k_ald0 rfl) ?_
  refine Eq.trans (k_gtR rfl s_171 rfl (by decide)) ?_
  refine Eq.trans (k_gtI rfl s_172 rfl (by decide)) ?_
  refine Eq.trans (k_i2ge rfl rfl) ?_
  refine ifc ?_ ?_
  · refine Eq.trans (k_ald1 rfl) ?_
    refine Eq.trans (k_ild2 rfl) ?_
    refine Eq.trans (k_ild3 rfl) ?_
    exact k_cV2 rfl (book_0 hp1) q_11 rfl rfl rfl (bl rfl)
  · refine Eq.trans (k_inc2 rfl) ?_
    refine Eq.trans (k_go rfl rfl) ?_
    exact rfl
theorem b_58_36 {d : Nat} {m : Nat → Nat → Int} {q : Nat → Nat → Option Nat} {w : Option (Nat → Int64)} {u4 : Option Value} {v2 v3 s0 : Int} {p1 : Nat} (hp1 : iBook p1)  : gv d rR58 36 [some (.ref 171), some (.ref p1), some (.int (iI v2)), some (.int (iI v3)), u4] [.int (iI s0)] (mk m q w) =
    if iI s0 = iI 0 then (rBd (ev d 57 [.ref 171, .int (iI v2), .int (iI v3)] (mk m q w)) (fun v M' => gv d rR58 48 [some (.ref 171), some (.ref p1), some (.int (iI v2)), some (.int (iI v3)), u4] (v.toList ++ []) M')) else (gv d rR58 83 [some (.ref 171), some (.ref p1), some (.int (iI v2)), some (.int (iI v3)), u4] [] (mk m q w)) := by
  refine Eq.trans (k_i1eq rfl rfl) ?_
  refine ifc ?_ ?_
  · refine Eq.trans (k_ald0 rfl) ?_
    refine Eq.trans (k_ild2 rfl) ?_
    refine Eq.trans (k_ild3 rfl) ?_
    exact k_cV2 rfl s_171 q_57 rfl rfl rfl (bl rfl)
  · refine Eq.trans (k_go rfl rfl) ?_
    exact rfl
theorem b_58_48 {d : Nat} {m : Nat → Nat → Int} {q : Nat → Nat → Option Nat} {w : Option (Nat → Int64)} {u4 : Option Value} {v2 v3 s0 : Int} {p1 : Nat} (hp1 : iBook p1)  : gv d rR58 48 [some (.ref 171), some (.ref p1), some (.int (iI v2)), some (.int (iI v3)), u4] [.int (iI s0)] (mk m q w) =
    if iI (m 171 4) = iI (-1) then (gv d rR58 67 [some (.ref 171), some (.ref p1), some (.int (iI v2)), some (.int (iI v3)), some (.int (iI s0))] [] (mk m q w)) else (if iI s0 < iI (m 171 5) then (gv d rR58 67 [some (.ref 171), some (.ref p1), some (.int (iI v2)), some (.int (iI v3)), some (.int (iI s0))] [] (mk m q w)) else (gv d rR58 83 [some (.ref 171), some (.ref p1), some (.int (iI v2)), some (.int (iI v3)), some (.int (iI s0))] [] (mk m q w))) := by
  refine Eq.trans (k_ist4 rfl) ?_
  refine Eq.trans (k_ald0 rfl) ?_
  refine Eq.trans (k_gtI rfl s_171 rfl (by decide)) ?_
  refine Eq.trans (k_con rfl) ?_
  refine Eq.trans (k_i2eq rfl rfl) ?_
  refine ifc ?_ ?_
  · exact rfl
  · refine Eq.trans (k_ild4 rfl) ?_
    refine Eq.trans (k_ald0 rfl) ?_
    refine Eq.trans (k_gtI rfl s_171 rfl (by decide)) ?_
    refine Eq.trans (k_i2ge rfl rfl) ?_
    refine ifc ?_ ?_
    · exact rfl
    · exact rfl
theorem b_58_67 {d : Nat} {m : Nat → Nat → Int} {q : Nat → Nat → Option Nat} {w : Option (Nat → Int64)} {v2 v3 v4 : Int} {p1 : Nat} (hp1 : iBook p1)  : gv d rR58 67 [some (.ref 171), some (.ref p1), some (.int (iI v2)), some (.int (iI v3)), some (.int (iI v4))] [] (mk m q w) =
    gv d rR58 83 [some (.ref 171), some (.ref p1), some (.int (iI v2)), some (.int (iI v3)), some (.int (iI v4))] [] (mk (wr (wr m 171 4 ((10 * v2) + v3)) 171 5 v4) q w) := by
  refine Eq.trans (k_ald0 rfl) ?_
  refine Eq.trans (k_bip rfl (by decide)) ?_
  refine Eq.trans (k_ild2 rfl) ?_
  refine Eq.trans (k_mul rfl) ?_
  refine Eq.trans (k_ild3 rfl) ?_
  refine Eq.trans (k_add rfl) ?_
  refine Eq.trans (k_ptI rfl s_171 rfl rfl) ?_
  refine Eq.trans (k_ald0 rfl) ?_
  refine Eq.trans (k_ild4 rfl) ?_
  refine Eq.trans (k_ptI rfl s_171 rfl rfl) ?_
  exact rfl
theorem b_58_83 {d : Nat} {m : Nat → Nat → Int} {q : Nat → Nat → Option Nat} {w : Option (Nat → Int64)} {u4 : Option Value} {v2 v3 : Int} {p1 : Nat} (hp1 : iBook p1)  : gv d rR58 83 [some (.ref 171), some (.ref p1), some (.int (iI v2)), some (.int (iI v3)), u4] [] (mk m q w) =
    gv d rR58 19 [some (.ref 171), some (.ref p1), some (.int (iI v2)), some (.int (iI (v3 + 1))), u4] [] (mk m q w) := by
  refine Eq.trans (k_inc3 rfl) ?_
  refine Eq.trans (k_go rfl rfl) ?_
  exact rfl
theorem e_58 {d : Nat} (hd : 1 ≤ d) {a0 a1 : Value} (M : rMem) (h0 : a0.category = 1) (h1 : a1.category = 1) : ev d 58 [a0, a1] M = gv (d - 1) rR58 0 [some a0, some a1, none, none, none] [] M := ev_at hd q_58 rfl (by simp [*]) rfl
/-! FanHouse$Keep.become(LFanHouse$Keep;)V -/
theorem b_60_0 {d : Nat} {m : Nat → Nat → Int} {q : Nat → Nat → Option Nat} {w : Option (Nat → Int64)} {u2 : Option Value} {p1 : Nat} {x : Nat} (hp1 : iKeep p1) (hx : iKeep x)  : gv d rR60 0 [some (.ref x), some (.ref p1), u2] [] (mk m q w) =
    rBd (ev d 22 [.ref (x + 1), .ref (p1 + 1)] (mk m q w)) (fun v M' => gv d rR60 11 [some (.ref x), some (.ref p1), u2] (v.toList ++ []) M') := by
  refine Eq.trans (k_ald0 rfl) ?_
  refine Eq.trans (k_gtR rfl (keep_0 hx) rfl (by decide)) ?_
  refine Eq.trans (k_ald1 rfl) ?_
  refine Eq.trans (k_gtR rfl (keep_0 hp1) rfl (by decide)) ?_
  exact k_cV1 rfl (fan_0 (keep_fan hx)) q_22 rfl rfl rfl (bl rfl)
theorem b_60_11 {d : Nat} {m : Nat → Nat → Int} {q : Nat → Nat → Option Nat} {w : Option (Nat → Int64)} {u2 : Option Value} {p1 : Nat} {x : Nat} (hp1 : iKeep p1) (hx : iKeep x)  : gv d rR60 11 [some (.ref x), some (.ref p1), u2] [] (mk m q w) =
    gv d rR60 21 [some (.ref x), some (.ref p1), some (.int (iI 0))] [] (mk (wr m x 2 (m p1 2)) q w) := by
  refine Eq.trans (k_ald0 rfl) ?_
  refine Eq.trans (k_ald1 rfl) ?_
  refine Eq.trans (k_gtI rfl (keep_0 hp1) rfl (by decide)) ?_
  refine Eq.trans (k_ptI rfl (keep_0 hx) rfl rfl) ?_
  refine Eq.trans (k_con rfl) ?_
  refine Eq.trans (k_ist2 rfl) ?_
  exact rfl
theorem b_60_21 {d : Nat} {m : Nat → Nat → Int} {q : Nat → Nat → Option Nat} {w : Option (Nat → Int64)} {v2 : Int} {p1 : Nat} {x : Nat} (hp1 : iKeep p1) (hx : iKeep x)  : gv d rR60 21 [some (.ref x), some (.ref p1), some (.int (iI v2))] [] (mk m q w) =
    if iI v2 < iI (m x 2) then (if iI v2 < iI (((16 : Nat) : Int)) then (gv d rR60 38 [some (.ref x), some (.ref p1), some (.int (iI v2))] [] (mk m q w)) else (gv d rR60 59 [some (.ref x), some (.ref p1), some (.int (iI v2))] [] (mk m q w))) else (gv d rR60 59 [some (.ref x), some (.ref p1), some (.int (iI v2))] [] (mk m q w)) := by
  refine Eq.trans (k_ild2 rfl) ?_
  refine Eq.trans (k_ald0 rfl) ?_
  refine Eq.trans (k_gtI rfl (keep_0 hx) rfl (by decide)) ?_
  refine Eq.trans (k_i2ge rfl rfl) ?_
  refine ifc ?_ ?_
  · refine Eq.trans (k_ild2 rfl) ?_
    refine Eq.trans (k_ald0 rfl) ?_
    refine Eq.trans (k_gtR rfl (keep_0 hx) rfl (by decide)) ?_
    refine Eq.trans (k_alen rfl (keep_4 hx) (by intro hz; have h9 := (keep_4 hx); rw [hz] at h9; cases h9)) ?_
    refine Eq.trans (k_i2ge rfl rfl) ?_
    refine ifc ?_ ?_
    · exact rfl
    · exact rfl
  · exact rfl
theorem b_60_38 {d : Nat} {m : Nat → Nat → Int} {q : Nat → Nat → Option Nat} {w : Option (Nat → Int64)} {v2 : Int} {p1 : Nat} {x : Nat} (hp1 : iKeep p1) (hx : iKeep x) (g0 : 0 ≤ v2) (g1 : v2 < 16) : gv d rR60 38 [some (.ref x), some (.ref p1), some (.int (iI v2))] [] (mk m q w) =
    gv d rR60 44 [some (.ref x), some (.ref p1), some (.int (iI v2))] (.ref (x + 5 + 3 * (Int.toNat v2)) :: []) (mk m q w) := by
  refine Eq.trans (k_ald0 rfl) ?_
  refine Eq.trans (k_gtR rfl (keep_0 hx) rfl (by decide)) ?_
  refine Eq.trans (k_ild2 rfl) ?_
  exact k_aaR (t := 2) rfl (keep_4 hx) (bl rfl) g0 g1
theorem b_60_44 {d : Nat} {m : Nat → Nat → Int} {q : Nat → Nat → Option Nat} {w : Option (Nat → Int64)} {v2 : Int} {p1 : Nat} {x : Nat} {z43 : Nat} (hp1 : iKeep p1) (hx : iKeep x) (hz43 : iFan z43) (g0 : 0 ≤ v2) (g1 : v2 < 16) : gv d rR60 44 [some (.ref x), some (.ref p1), some (.int (iI v2))] [.ref z43] (mk m q w) =
    gv d rR60 50 [some (.ref x), some (.ref p1), some (.int (iI v2))] (.ref (p1 + 5 + 3 * (Int.toNat v2)) :: [.ref z43]) (mk m q w) := by
  refine Eq.trans (k_ald1 rfl) ?_
  refine Eq.trans (k_gtR rfl (keep_0 hp1) rfl (by decide)) ?_
  refine Eq.trans (k_ild2 rfl) ?_
  exact k_aaR (t := 2) rfl (keep_4 hp1) (bl rfl) g0 g1
theorem b_60_50 {d : Nat} {m : Nat → Nat → Int} {q : Nat → Nat → Option Nat} {w : Option (Nat → Int64)} {v2 : Int} {p1 : Nat} {x : Nat} {z43 : Nat} {z49 : Nat} (hp1 : iKeep p1) (hx : iKeep x) (hz43 : iFan z43) (hz49 : iFan z49)  : gv d rR60 50 [some (.ref x), some (.ref p1), some (.int (iI v2))] [.ref z49, .ref z43] (mk m q w) =
    rBd (ev d 22 [.ref z43, .ref z49] (mk m q w)) (fun v M' => gv d rR60 53 [some (.ref x), some (.ref p1), some (.int (iI v2))] (v.toList ++ []) M') := by
  exact k_cV1 rfl (fan_0 hz43) q_22 rfl rfl rfl (bl rfl)
theorem b_60_53 {d : Nat} {m : Nat → Nat → Int} {q : Nat → Nat → Option Nat} {w : Option (Nat → Int64)} {v2 : Int} {p1 : Nat} {x : Nat} (hp1 : iKeep p1) (hx : iKeep x)  : gv d rR60 53 [some (.ref x), some (.ref p1), some (.int (iI v2))] [] (mk m q w) =
    gv d rR60 21 [some (.ref x), some (.ref p1), some (.int (iI (v2 + 1)))] [] (mk m q w) := by
  refine Eq.trans (k_inc2 rfl) ?_
  refine Eq.trans (k_go rfl rfl) ?_
  exact rfl
theorem b_60_59 {d : Nat} {m : Nat → Nat → Int} {q : Nat → Nat → Option Nat} {w : Option (Nat → Int64)} {u0 u1 u2 : Option Value}   : gv d rR60 59 [u0, u1, u2] [] (mk m q w) =
    some (.inl none, (mk m q w, (0, 0))) := by
  exact k_rtV rfl rfl
theorem e_60 {d : Nat} (hd : 1 ≤ d) {a0 a1 : Value} (M : rMem) (h0 : a0.category = 1) (h1 : a1.category = 1) : ev d 60 [a0, a1] M = gv (d - 1) rR60 0 [some a0, some a1, none] [] M := ev_at hd q_60 rfl (by simp [*]) rfl
/-! FanHouse$Keep.remember()V -/
theorem b_61_0 {d : Nat} {m : Nat → Nat → Int} {q : Nat → Nat → Option Nat} {w : Option (Nat → Int64)} {x : Nat} (hx : iKeep x)  : gv d rR61 0 [some (.ref x)] [] (mk m q w) =
    if iI (m x 2) < iI (((16 : Nat) : Int)) then (gv d rR61 12 [some (.ref x)] [] (mk m q w)) else (gv d rR61 38 [some (.ref x)] [] (mk m q w)) := by
  refine Eq.trans (k_ald0 rfl) ?_
  refine Eq.trans (k_gtI rfl (keep_0 hx) rfl (by decide)) ?_
  refine Eq.trans (k_ald0 rfl) ?_
  refine Eq.trans (k_gtR rfl (keep_0 hx) rfl (by decide)) ?_
  refine Eq.trans (k_alen rfl (keep_4 hx) (by intro hz; have h9 := (keep_4 hx); rw [hz] at h9; cases h9)) ?_
  refine Eq.trans (k_i2ge rfl rfl) ?_
  refine ifc ?_ ?_
  · exact rfl
  · exact rfl
theorem b_61_12 {d : Nat} {m : Nat → Nat → Int} {q : Nat → Nat → Option Nat} {w : Option (Nat → Int64)} {x : Nat} (hx : iKeep x) (g0 : 0 ≤ (m x 2)) (g1 : (m x 2) < 16) : gv d rR61 12 [some (.ref x)] [] (mk m q w) =
    gv d rR61 21 [some (.ref x)] (.ref (x + 5 + 3 * (Int.toNat (m x 2))) :: []) (mk m q w) := by
  refine Eq.trans (k_ald0 rfl) ?_
  refine Eq.trans (k_gtR rfl (keep_0 hx) rfl (by decide)) ?_
  refine Eq.trans (k_ald0 rfl) ?_
  refine Eq.trans (k_gtI rfl (keep_0 hx) rfl (by decide)) ?_
  exact k_aaR (t := 2) rfl (keep_4 hx) (bl rfl) g0 g1
theorem b_61_21 {d : Nat} {m : Nat → Nat → Int} {q : Nat → Nat → Option Nat} {w : Option (Nat → Int64)} {x : Nat} {z20 : Nat} (hx : iKeep x) (hz20 : iFan z20)  : gv d rR61 21 [some (.ref x)] [.ref z20] (mk m q w) =
    rBd (ev d 22 [.ref z20, .ref (x + 1)] (mk m q w)) (fun v M' => gv d rR61 28 [some (.ref x)] (v.toList ++ []) M') := by
  refine Eq.trans (k_ald0 rfl) ?_
  refine Eq.trans (k_gtR rfl (keep_0 hx) rfl (by decide)) ?_
  exact k_cV1 rfl (fan_0 hz20) q_22 rfl rfl rfl (bl rfl)
theorem b_61_28 {d : Nat} {m : Nat → Nat → Int} {q : Nat → Nat → Option Nat} {w : Option (Nat → Int64)} {x : Nat} (hx : iKeep x)  : gv d rR61 28 [some (.ref x)] [] (mk m q w) =
    gv d rR61 38 [some (.ref x)] [] (mk (wr m x 2 ((m x 2) + 1)) q w) := by
  refine Eq.trans (k_ald0 rfl) ?_
  refine Eq.trans (k_dup rfl rfl) ?_
  refine Eq.trans (k_gtI rfl (keep_0 hx) rfl (by decide)) ?_
  refine Eq.trans (k_con rfl) ?_
  refine Eq.trans (k_add rfl) ?_
  refine Eq.trans (k_ptI rfl (keep_0 hx) rfl rfl) ?_
  exact rfl
theorem b_61_38 {d : Nat} {m : Nat → Nat → Int} {q : Nat → Nat → Option Nat} {w : Option (Nat → Int64)} {u0 : Option Value}   : gv d rR61 38 [u0] [] (mk m q w) =
    some (.inl none, (mk m q w, (0, 0))) := by
  exact k_rtV rfl rfl
theorem e_61 {d : Nat} (hd : 1 ≤ d) {a0 : Value} (M : rMem) (h0 : a0.category = 1) : ev d 61 [a0] M = gv (d - 1) rR61 0 [some a0] [] M := ev_at hd q_61 rfl (by simp [*]) rfl
/-! FanHouse$Keep.takeBack()Z -/
theorem b_62_0 {d : Nat} {m : Nat → Nat → Int} {q : Nat → Nat → Option Nat} {w : Option (Nat → Int64)} {x : Nat} (hx : iKeep x)  : gv d rR62 0 [some (.ref x)] [] (mk m q w) =
    if iI 0 < iI (m x 2) then (gv d rR62 9 [some (.ref x)] [] (mk m q w)) else (some (.inl (some (.int (iI 0))), (mk m q w, (0, 0)))) := by
  refine Eq.trans (k_ald0 rfl) ?_
  refine Eq.trans (k_gtI rfl (keep_0 hx) rfl (by decide)) ?_
  refine Eq.trans (k_i1gt rfl rfl) ?_
  refine ifc ?_ ?_
  · exact rfl
  · refine Eq.trans (k_con rfl) ?_
    exact k_rtZ rfl rfl (Or.inl rfl)
theorem b_62_9 {d : Nat} {m : Nat → Nat → Int} {q : Nat → Nat → Option Nat} {w : Option (Nat → Int64)} {x : Nat} (hx : iKeep x) (g0 : 0 ≤ ((wr m x 2 ((m x 2) - 1)) x 2)) (g1 : ((wr m x 2 ((m x 2) - 1)) x 2) < 16) : gv d rR62 9 [some (.ref x)] [] (mk m q w) =
    gv d rR62 32 [some (.ref x)] (.ref (x + 5 + 3 * (Int.toNat ((wr m x 2 ((m x 2) - 1)) x 2))) :: [.ref (x + 1)]) (mk (wr m x 2 ((m x 2) - 1)) q w) := by
  refine Eq.trans (k_ald0 rfl) ?_
  refine Eq.trans (k_dup rfl rfl) ?_
  refine Eq.trans (k_gtI rfl (keep_0 hx) rfl (by decide)) ?_
  refine Eq.trans (k_con rfl) ?_
  refine Eq.trans (k_sub rfl) ?_
  refine Eq.trans (k_ptI rfl (keep_0 hx) rfl rfl) ?_
  refine Eq.trans (k_ald0 rfl) ?_
  refine Eq.trans (k_gtR rfl (keep_0 hx) rfl (by decide)) ?_
  refine Eq.trans (k_ald0 rfl) ?_
  refine Eq.trans (k_gtR rfl (keep_0 hx) rfl (by decide)) ?_
  refine Eq.trans (k_ald0 rfl) ?_
  refine Eq.trans (k_gtI rfl (keep_0 hx) rfl (by decide)) ?_
  exact k_aaR (t := 2) rfl (keep_4 hx) (bl rfl) g0 g1
theorem b_62_32 {d : Nat} {m : Nat → Nat → Int} {q : Nat → Nat → Option Nat} {w : Option (Nat → Int64)} {u0 : Option Value} {x : Nat} {z31 : Nat} (hx : iKeep x) (hz31 : iFan z31)  : gv d rR62 32 [u0] [.ref z31, .ref (x + 1)] (mk m q w) =
    rBd (ev d 22 [.ref (x + 1), .ref z31] (mk m q w)) (fun v M' => gv d rR62 35 [u0] (v.toList ++ []) M') := by
  exact k_cV1 rfl (fan_0 (keep_fan hx)) q_22 rfl rfl rfl (bl rfl)
theorem b_62_35 {d : Nat} {m : Nat → Nat → Int} {q : Nat → Nat → Option Nat} {w : Option (Nat → Int64)} {u0 : Option Value}   : gv d rR62 35 [u0] [] (mk m q w) =
    some (.inl (some (.int (iI 1))), (mk m q w, (0, 0))) := by
  refine Eq.trans (k_con rfl) ?_
  exact k_rtZ rfl rfl (Or.inr rfl)
theorem e_62 {d : Nat} (hd : 1 ≤ d) {a0 : Value} (M : rMem) (h0 : a0.category = 1) : ev d 62 [a0] M = gv (d - 1) rR62 0 [some a0] [] M := ev_at hd q_62 rfl (by simp [*]) rfl
/-! FanHouse$Law.clear()V -/
theorem b_64_0 {d : Nat} {m : Nat → Nat → Int} {q : Nat → Nat → Option Nat} {w : Option (Nat → Int64)} {x : Nat} (hx : iLaw x)  : gv d rR64 0 [some (.ref x)] [] (mk m q w) =
    some (.inl none, (mk (wr (wr m (x + 1) 0 (-2)) x 3 1) q w, (0, 0))) := by
  refine Eq.trans (k_ald0 rfl) ?_
  refine Eq.trans (k_gtR rfl (law_0 hx) rfl (by decide)) ?_
  refine Eq.trans (k_con rfl) ?_
  refine Eq.trans (k_bip rfl (by decide)) ?_
  refine Eq.trans (k_iast rfl (law_1 hx) (bl rfl) (by decide) (by decide)) ?_
  refine Eq.trans (k_ald0 rfl) ?_
  refine Eq.trans (k_con rfl) ?_
  refine Eq.trans (k_ptI rfl (law_0 hx) rfl rfl) ?_
  exact k_rtV rfl rfl
theorem e_64 {d : Nat} (hd : 1 ≤ d) {a0 : Value} (M : rMem) (h0 : a0.category = 1) : ev d 64 [a0] M = gv (d - 1) rR64 0 [some a0] [] M := ev_at hd q_64 rfl (by simp [*]) rfl
/-! FanHouse$Law.add(I)V -/
theorem b_65_0 {d : Nat} {m : Nat → Nat → Int} {q : Nat → Nat → Option Nat} {w : Option (Nat → Int64)} {v1 : Int} {x : Nat} (hx : iLaw x)  : gv d rR65 0 [some (.ref x), some (.int (iI v1))] [] (mk m q w) =
    if iI (m x 3) < iI (((150 : Nat) : Int)) then (gv d rR65 12 [some (.ref x), some (.int (iI v1))] [] (mk m q w)) else (gv d rR65 32 [some (.ref x), some (.int (iI v1))] [] (mk m q w)) := by
  refine Eq.trans (k_ald0 rfl) ?_
  refine Eq.trans (k_gtI rfl (law_0 hx) rfl (by decide)) ?_
  refine Eq.trans (k_ald0 rfl) ?_
  refine Eq.trans (k_gtR rfl (law_0 hx) rfl (by decide)) ?_
  refine Eq.trans (k_alen rfl (law_1 hx) (by intro hz; have h9 := (law_1 hx); rw [hz] at h9; cases h9)) ?_
  refine Eq.trans (k_i2ge rfl rfl) ?_
  refine ifc ?_ ?_
  · exact rfl
  · exact rfl
theorem b_65_12 {d : Nat} {m : Nat → Nat → Int} {q : Nat → Nat → Option Nat} {w : Option (Nat → Int64)} {v1 : Int} {x : Nat} (hx : iLaw x) (g0 : 0 ≤ (m x 3)) (g1 : (m x 3) < 150) : gv d rR65 12 [some (.ref x), some (.int (iI v1))] [] (mk m q w) =
    gv d rR65 32 [some (.ref x), some (.int (iI v1))] [] (mk (wr (wr m (x + 1) (Int.toNat (m x 3)) v1) x 3 (((wr m (x + 1) (Int.toNat (m x 3)) v1) x 3) + 1)) q w) := by
  refine Eq.trans (k_ald0 rfl) ?_
  refine Eq.trans (k_gtR rfl (law_0 hx) rfl (by decide)) ?_
  refine Eq.trans (k_ald0 rfl) ?_
  refine Eq.trans (k_gtI rfl (law_0 hx) rfl (by decide)) ?_
  refine Eq.trans (k_ild1 rfl) ?_
  refine Eq.trans (k_iast rfl (law_1 hx) (bl rfl) g0 g1) ?_
  refine Eq.trans (k_ald0 rfl) ?_
  refine Eq.trans (k_dup rfl rfl) ?_
  refine Eq.trans (k_gtI rfl (law_0 hx) rfl (by decide)) ?_
  refine Eq.trans (k_con rfl) ?_
  refine Eq.trans (k_add rfl) ?_
  refine Eq.trans (k_ptI rfl (law_0 hx) rfl rfl) ?_
  exact rfl
theorem b_65_32 {d : Nat} {m : Nat → Nat → Int} {q : Nat → Nat → Option Nat} {w : Option (Nat → Int64)} {u0 u1 : Option Value}   : gv d rR65 32 [u0, u1] [] (mk m q w) =
    some (.inl none, (mk m q w, (0, 0))) := by
  exact k_rtV rfl rfl
theorem e_65 {d : Nat} (hd : 1 ≤ d) {a0 a1 : Value} (M : rMem) (h0 : a0.category = 1) (h1 : a1.category = 1) : ev d 65 [a0, a1] M = gv (d - 1) rR65 0 [some a0, some a1] [] M := ev_at hd q_65 rfl (by simp [*]) rfl
/-! FanHouse$Law.readFact(LFanHouse$Tape;I)V -/
theorem b_66_0 {d : Nat} {m : Nat → Nat → Int} {q : Nat → Nat → Option Nat} {w : Option (Nat → Int64)} {u3 : Option Value} {v2 : Int} {x : Nat} (hx : iLaw x)  : gv d rR66 0 [some (.ref x), some (.ref 101), some (.int (iI v2)), u3] [] (mk m q w) =
    rBd (ev d 27 [.ref 101, .ref 30] (mk m q w)) (fun v M' => gv d rR66 6 [some (.ref x), some (.ref 101), some (.int (iI v2)), u3] (v.toList ++ []) M') := by
  refine Eq.trans (k_ald1 rfl) ?_
  refine Eq.trans (k_ldr rfl) ?_
  exact k_cV1 rfl s_101 q_27 rfl rfl rfl (bl rfl)
theorem b_66_6 {d : Nat} {m : Nat → Nat → Int} {q : Nat → Nat → Option Nat} {w : Option (Nat → Int64)} {u3 : Option Value} {v2 s0 : Int} {x : Nat} (hx : iLaw x)  : gv d rR66 6 [some (.ref x), some (.ref 101), some (.int (iI v2)), u3] [.int (iI s0)] (mk m q w) =
    if iI s0 = iI 0 then (rBd (ev d 27 [.ref 101, .ref 33] (mk m q w)) (fun v M' => gv d rR66 19 [some (.ref x), some (.ref 101), some (.int (iI v2)), u3] (v.toList ++ []) M')) else (gv d rR66 93 [some (.ref x), some (.ref 101), some (.int (iI v2)), u3] [.int (iI 0)] (mk m q w)) := by
  refine Eq.trans (k_i1eq rfl rfl) ?_
  refine ifc ?_ ?_
  · refine Eq.trans (k_ald1 rfl) ?_
    refine Eq.trans (k_ldr rfl) ?_
    exact k_cV1 rfl s_101 q_27 rfl rfl rfl (bl rfl)
  · refine Eq.trans (k_con rfl) ?_
    refine Eq.trans (k_go rfl rfl) ?_
    exact rfl
theorem b_66_19 {d : Nat} {m : Nat → Nat → Int} {q : Nat → Nat → Option Nat} {w : Option (Nat → Int64)} {u3 : Option Value} {v2 s0 : Int} {x : Nat} (hx : iLaw x)  : gv d rR66 19 [some (.ref x), some (.ref 101), some (.int (iI v2)), u3] [.int (iI s0)] (mk m q w) =
    if iI s0 = iI 0 then (rBd (ev d 27 [.ref 101, .ref 32] (mk m q w)) (fun v M' => gv d rR66 32 [some (.ref x), some (.ref 101), some (.int (iI v2)), u3] (v.toList ++ []) M')) else (gv d rR66 93 [some (.ref x), some (.ref 101), some (.int (iI v2)), u3] [.int (iI 1)] (mk m q w)) := by
  refine Eq.trans (k_i1eq rfl rfl) ?_
  refine ifc ?_ ?_
  · refine Eq.trans (k_ald1 rfl) ?_
    refine Eq.trans (k_ldr rfl) ?_
    exact k_cV1 rfl s_101 q_27 rfl rfl rfl (bl rfl)
  · refine Eq.trans (k_con rfl) ?_
    refine Eq.trans (k_go rfl rfl) ?_
    exact rfl
theorem b_66_32 {d : Nat} {m : Nat → Nat → Int} {q : Nat → Nat → Option Nat} {w : Option (Nat → Int64)} {u3 : Option Value} {v2 s0 : Int} {x : Nat} (hx : iLaw x)  : gv d rR66 32 [some (.ref x), some (.ref 101), some (.int (iI v2)), u3] [.int (iI s0)] (mk m q w) =
    if iI s0 = iI 0 then (rBd (ev d 27 [.ref 101, .ref 16] (mk m q w)) (fun v M' => gv d rR66 45 [some (.ref x), some (.ref 101), some (.int (iI v2)), u3] (v.toList ++ []) M')) else (gv d rR66 93 [some (.ref x), some (.ref 101), some (.int (iI v2)), u3] [.int (iI 2)] (mk m q w)) := by
  refine Eq.trans (k_i1eq rfl rfl) ?_
  refine ifc ?_ ?_
  · refine Eq.trans (k_ald1 rfl) ?_
    refine Eq.trans (k_ldr rfl) ?_
    exact k_cV1 rfl s_101 q_27 rfl rfl rfl (bl rfl)
  · refine Eq.trans (k_con rfl) ?_
    refine Eq.trans (k_go rfl rfl) ?_
    exact rfl
theorem b_66_45 {d : Nat} {m : Nat → Nat → Int} {q : Nat → Nat → Option Nat} {w : Option (Nat → Int64)} {u3 : Option Value} {v2 s0 : Int} {x : Nat} (hx : iLaw x)  : gv d rR66 45 [some (.ref x), some (.ref 101), some (.int (iI v2)), u3] [.int (iI s0)] (mk m q w) =
    if iI s0 = iI 0 then (rBd (ev d 27 [.ref 101, .ref 29] (mk m q w)) (fun v M' => gv d rR66 58 [some (.ref x), some (.ref 101), some (.int (iI v2)), u3] (v.toList ++ []) M')) else (gv d rR66 93 [some (.ref x), some (.ref 101), some (.int (iI v2)), u3] [.int (iI 3)] (mk m q w)) := by
  refine Eq.trans (k_i1eq rfl rfl) ?_
  refine ifc ?_ ?_
  · refine Eq.trans (k_ald1 rfl) ?_
    refine Eq.trans (k_ldr rfl) ?_
    exact k_cV1 rfl s_101 q_27 rfl rfl rfl (bl rfl)
  · refine Eq.trans (k_con rfl) ?_
    refine Eq.trans (k_go rfl rfl) ?_
    exact rfl
theorem b_66_58 {d : Nat} {m : Nat → Nat → Int} {q : Nat → Nat → Option Nat} {w : Option (Nat → Int64)} {u3 : Option Value} {v2 s0 : Int} {x : Nat} (hx : iLaw x)  : gv d rR66 58 [some (.ref x), some (.ref 101), some (.int (iI v2)), u3] [.int (iI s0)] (mk m q w) =
    if iI s0 = iI 0 then (rBd (ev d 27 [.ref 101, .ref 20] (mk m q w)) (fun v M' => gv d rR66 71 [some (.ref x), some (.ref 101), some (.int (iI v2)), u3] (v.toList ++ []) M')) else (gv d rR66 93 [some (.ref x), some (.ref 101), some (.int (iI v2)), u3] [.int (iI 4)] (mk m q w)) := by
  refine Eq.trans (k_i1eq rfl rfl) ?_
  refine ifc ?_ ?_
  · refine Eq.trans (k_ald1 rfl) ?_
    refine Eq.trans (k_ldr rfl) ?_
    exact k_cV1 rfl s_101 q_27 rfl rfl rfl (bl rfl)
  · refine Eq.trans (k_con rfl) ?_
    refine Eq.trans (k_go rfl rfl) ?_
    exact rfl
theorem b_66_71 {d : Nat} {m : Nat → Nat → Int} {q : Nat → Nat → Option Nat} {w : Option (Nat → Int64)} {u3 : Option Value} {v2 s0 : Int} {x : Nat} (hx : iLaw x)  : gv d rR66 71 [some (.ref x), some (.ref 101), some (.int (iI v2)), u3] [.int (iI s0)] (mk m q w) =
    if iI s0 = iI 0 then (rBd (ev d 27 [.ref 101, .ref 23] (mk m q w)) (fun v M' => gv d rR66 84 [some (.ref x), some (.ref 101), some (.int (iI v2)), u3] (v.toList ++ []) M')) else (gv d rR66 93 [some (.ref x), some (.ref 101), some (.int (iI v2)), u3] [.int (iI 5)] (mk m q w)) := by
  refine Eq.trans (k_i1eq rfl rfl) ?_
  refine ifc ?_ ?_
  · refine Eq.trans (k_ald1 rfl) ?_
    refine Eq.trans (k_ldr rfl) ?_
    exact k_cV1 rfl s_101 q_27 rfl rfl rfl (bl rfl)
  · refine Eq.trans (k_con rfl) ?_
    refine Eq.trans (k_go rfl rfl) ?_
    exact rfl
theorem b_66_84 {d : Nat} {m : Nat → Nat → Int} {q : Nat → Nat → Option Nat} {w : Option (Nat → Int64)} {u3 : Option Value} {v2 s0 : Int} {x : Nat} (hx : iLaw x)  : gv d rR66 84 [some (.ref x), some (.ref 101), some (.int (iI v2)), u3] [.int (iI s0)] (mk m q w) =
    if iI s0 = iI 0 then (gv d rR66 93 [some (.ref x), some (.ref 101), some (.int (iI v2)), u3] [.int (iI (-1))] (mk m q w)) else (gv d rR66 93 [some (.ref x), some (.ref 101), some (.int (iI v2)), u3] [.int (iI 6)] (mk m q w)) := by
  refine Eq.trans (k_i1eq rfl rfl) ?_
  refine ifc ?_ ?_
  · refine Eq.trans (k_con rfl) ?_
    exact rfl
  · refine Eq.trans (k_bip rfl (by decide)) ?_
    refine Eq.trans (k_go rfl rfl) ?_
    exact rfl
theorem b_66_93 {d : Nat} {m : Nat → Nat → Int} {q : Nat → Nat → Option Nat} {w : Option (Nat → Int64)} {u3 : Option Value} {v2 s0 : Int} {x : Nat} (hx : iLaw x)  : gv d rR66 93 [some (.ref x), some (.ref 101), some (.int (iI v2)), u3] [.int (iI s0)] (mk m q w) =
    if iI s0 = iI (-1) then (rBd (ev d 5 [.ref 101, .int (iI 1), .int (iI v2)] (mk m q w)) (fun v M' => gv d rR66 105 [some (.ref x), some (.ref 101), some (.int (iI v2)), some (.int (iI s0))] (v.toList ++ []) M')) else (rBd (ev d 65 [.ref x, .int (iI ((-1) - s0))] (mk m q w)) (fun v M' => gv d rR66 115 [some (.ref x), some (.ref 101), some (.int (iI v2)), some (.int (iI s0))] (v.toList ++ []) M')) := by
  refine Eq.trans (k_ist3 rfl) ?_
  refine Eq.trans (k_ild3 rfl) ?_
  refine Eq.trans (k_con rfl) ?_
  refine Eq.trans (k_i2ne rfl rfl) ?_
  refine ifc ?_ ?_
  · refine Eq.trans (k_ald1 rfl) ?_
    refine Eq.trans (k_con rfl) ?_
    refine Eq.trans (k_ild2 rfl) ?_
    exact k_cV2 rfl s_101 q_5 rfl rfl rfl (bl rfl)
  · refine Eq.trans (k_ald0 rfl) ?_
    refine Eq.trans (k_con rfl) ?_
    refine Eq.trans (k_ild3 rfl) ?_
    refine Eq.trans (k_sub rfl) ?_
    exact k_cV1 rfl (law_0 hx) q_65 rfl rfl rfl (bl rfl)
theorem b_66_105 {d : Nat} {m : Nat → Nat → Int} {q : Nat → Nat → Option Nat} {w : Option (Nat → Int64)} {u0 u1 u2 u3 : Option Value}   : gv d rR66 105 [u0, u1, u2, u3] [] (mk m q w) =
    gv d rR66 115 [u0, u1, u2, u3] [] (mk m q w) := by
  refine Eq.trans (k_go rfl rfl) ?_
  exact rfl
theorem b_66_115 {d : Nat} {m : Nat → Nat → Int} {q : Nat → Nat → Option Nat} {w : Option (Nat → Int64)} {u0 u1 u2 u3 : Option Value}   : gv d rR66 115 [u0, u1, u2, u3] [] (mk m q w) =
    some (.inl none, (mk m q w, (0, 0))) := by
  exact k_rtV rfl rfl
theorem e_66 {d : Nat} (hd : 1 ≤ d) {a0 a1 a2 : Value} (M : rMem) (h0 : a0.category = 1) (h1 : a1.category = 1) (h2 : a2.category = 1) : ev d 66 [a0, a1, a2] M = gv (d - 1) rR66 0 [some a0, some a1, some a2, none] [] M := ev_at hd q_66 rfl (by simp [*]) rfl
/-! FanHouse$Law.readBracket(LFanHouse$Tape;II)V -/
theorem b_67_0 {d : Nat} {m : Nat → Nat → Int} {q : Nat → Nat → Option Nat} {w : Option (Nat → Int64)} {v2 v3 : Int} {x : Nat} (hx : iLaw x)  : gv d rR67 0 [some (.ref x), some (.ref 101), some (.int (iI v2)), some (.int (iI v3))] [] (mk m q w) =
    if iI v2 < iI 6 then (rBd (ev d 70 [.ref x, .ref 101, .int (iI (v2 + 1))] (mk m q w)) (fun v M' => gv d rR67 21 [some (.ref x), some (.ref 101), some (.int (iI v2)), some (.int (iI v3))] (v.toList ++ []) M')) else (rBd (ev d 5 [.ref 101, .int (iI 3), .int (iI v3)] (mk m q w)) (fun v M' => gv d rR67 12 [some (.ref x), some (.ref 101), some (.int (iI v2)), some (.int (iI v3))] (v.toList ++ []) M')) := by
  refine Eq.trans (k_ild2 rfl) ?_
  refine Eq.trans (k_bip rfl (by decide)) ?_
  refine Eq.trans (k_i2lt rfl rfl) ?_
  refine ifc ?_ ?_
  · refine Eq.trans (k_ald0 rfl) ?_
    refine Eq.trans (k_ald1 rfl) ?_
    refine Eq.trans (k_ild2 rfl) ?_
    refine Eq.trans (k_con rfl) ?_
    refine Eq.trans (k_add rfl) ?_
    exact k_cV2 rfl (law_0 hx) q_70 rfl rfl rfl (bl rfl)
  · refine Eq.trans (k_ald1 rfl) ?_
    refine Eq.trans (k_con rfl) ?_
    refine Eq.trans (k_ild3 rfl) ?_
    exact k_cV2 rfl s_101 q_5 rfl rfl rfl (bl rfl)
theorem b_67_12 {d : Nat} {m : Nat → Nat → Int} {q : Nat → Nat → Option Nat} {w : Option (Nat → Int64)} {u0 u1 u2 u3 : Option Value}   : gv d rR67 12 [u0, u1, u2, u3] [] (mk m q w) =
    some (.inl none, (mk m q w, (0, 0))) := by
  exact k_rtV rfl rfl
theorem b_67_21 {d : Nat} {m : Nat → Nat → Int} {q : Nat → Nat → Option Nat} {w : Option (Nat → Int64)} {u0 u2 u3 : Option Value}   : gv d rR67 21 [u0, some (.ref 101), u2, u3] [] (mk m q w) =
    rBd (ev d 9 [.ref 101, .int (iI 41)] (mk m q w)) (fun v M' => gv d rR67 27 [u0, some (.ref 101), u2, u3] (v.toList ++ []) M') := by
  refine Eq.trans (k_ald1 rfl) ?_
  refine Eq.trans (k_bip rfl (by decide)) ?_
  exact k_cV1 rfl s_101 q_9 rfl rfl rfl (bl rfl)
theorem b_67_27 {d : Nat} {m : Nat → Nat → Int} {q : Nat → Nat → Option Nat} {w : Option (Nat → Int64)} {u0 u1 u2 u3 : Option Value}   : gv d rR67 27 [u0, u1, u2, u3] [] (mk m q w) =
    some (.inl none, (mk m q w, (0, 0))) := by
  exact k_rtV rfl rfl
theorem e_67 {d : Nat} (hd : 1 ≤ d) {a0 a1 a2 a3 : Value} (M : rMem) (h0 : a0.category = 1) (h1 : a1.category = 1) (h2 : a2.category = 1) (h3 : a3.category = 1) : ev d 67 [a0, a1, a2, a3] M = gv (d - 1) rR67 0 [some a0, some a1, some a2, some a3] [] M := ev_at hd q_67 rfl (by simp [*]) rfl
/-! FanHouse$Law.readPair(LFanHouse$Tape;III)V -/
theorem b_68_0 {d : Nat} {m : Nat → Nat → Int} {q : Nat → Nat → Option Nat} {w : Option (Nat → Int64)} {v2 v3 v4 : Int} {x : Nat} (hx : iLaw x)  : gv d rR68 0 [some (.ref x), some (.ref 101), some (.int (iI v2)), some (.int (iI v3)), some (.int (iI v4))] [] (mk m q w) =
    if iI v2 < iI 6 then (rBd (ev d 9 [.ref 101, .int (iI 91)] (mk m q w)) (fun v M' => gv d rR68 19 [some (.ref x), some (.ref 101), some (.int (iI v2)), some (.int (iI v3)), some (.int (iI v4))] (v.toList ++ []) M')) else (rBd (ev d 5 [.ref 101, .int (iI 3), .int (iI v3)] (mk m q w)) (fun v M' => gv d rR68 12 [some (.ref x), some (.ref 101), some (.int (iI v2)), some (.int (iI v3)), some (.int (iI v4))] (v.toList ++ []) M')) := by
  refine Eq.trans (k_ild2 rfl) ?_
  refine Eq.trans (k_bip rfl (by decide)) ?_
  refine Eq.trans (k_i2lt rfl rfl) ?_
  refine ifc ?_ ?_
  · refine Eq.trans (k_ald1 rfl) ?_
    refine Eq.trans (k_bip rfl (by decide)) ?_
    exact k_cV1 rfl s_101 q_9 rfl rfl rfl (bl rfl)
  · refine Eq.trans (k_ald1 rfl) ?_
    refine Eq.trans (k_con rfl) ?_
    refine Eq.trans (k_ild3 rfl) ?_
    exact k_cV2 rfl s_101 q_5 rfl rfl rfl (bl rfl)
theorem b_68_12 {d : Nat} {m : Nat → Nat → Int} {q : Nat → Nat → Option Nat} {w : Option (Nat → Int64)} {u0 u1 u2 u3 u4 : Option Value}   : gv d rR68 12 [u0, u1, u2, u3, u4] [] (mk m q w) =
    some (.inl none, (mk m q w, (0, 0))) := by
  exact k_rtV rfl rfl
theorem b_68_19 {d : Nat} {m : Nat → Nat → Int} {q : Nat → Nat → Option Nat} {w : Option (Nat → Int64)} {u3 : Option Value} {v2 v4 : Int} {x : Nat} (hx : iLaw x)  : gv d rR68 19 [some (.ref x), some (.ref 101), some (.int (iI v2)), u3, some (.int (iI v4))] [] (mk m q w) =
    rBd (ev d 70 [.ref x, .ref 101, .int (iI (v2 + 1))] (mk m q w)) (fun v M' => gv d rR68 27 [some (.ref x), some (.ref 101), some (.int (iI v2)), u3, some (.int (iI v4))] (v.toList ++ []) M') := by
  refine Eq.trans (k_ald0 rfl) ?_
  refine Eq.trans (k_ald1 rfl) ?_
  refine Eq.trans (k_ild2 rfl) ?_
  refine Eq.trans (k_con rfl) ?_
  refine Eq.trans (k_add rfl) ?_
  exact k_cV2 rfl (law_0 hx) q_70 rfl rfl rfl (bl rfl)
theorem b_68_27 {d : Nat} {m : Nat → Nat → Int} {q : Nat → Nat → Option Nat} {w : Option (Nat → Int64)} {u3 : Option Value} {v2 v4 : Int} {x : Nat} (hx : iLaw x)  : gv d rR68 27 [some (.ref x), some (.ref 101), some (.int (iI v2)), u3, some (.int (iI v4))] [] (mk m q w) =
    rBd (ev d 9 [.ref 101, .int (iI 44)] (mk m q w)) (fun v M' => gv d rR68 33 [some (.ref x), some (.ref 101), some (.int (iI v2)), u3, some (.int (iI v4))] (v.toList ++ []) M') := by
  refine Eq.trans (k_ald1 rfl) ?_
  refine Eq.trans (k_bip rfl (by decide)) ?_
  exact k_cV1 rfl s_101 q_9 rfl rfl rfl (bl rfl)
theorem b_68_33 {d : Nat} {m : Nat → Nat → Int} {q : Nat → Nat → Option Nat} {w : Option (Nat → Int64)} {u3 : Option Value} {v2 v4 : Int} {x : Nat} (hx : iLaw x)  : gv d rR68 33 [some (.ref x), some (.ref 101), some (.int (iI v2)), u3, some (.int (iI v4))] [] (mk m q w) =
    rBd (ev d 70 [.ref x, .ref 101, .int (iI (v2 + 1))] (mk m q w)) (fun v M' => gv d rR68 41 [some (.ref x), some (.ref 101), some (.int (iI v2)), u3, some (.int (iI v4))] (v.toList ++ []) M') := by
  refine Eq.trans (k_ald0 rfl) ?_
  refine Eq.trans (k_ald1 rfl) ?_
  refine Eq.trans (k_ild2 rfl) ?_
  refine Eq.trans (k_con rfl) ?_
  refine Eq.trans (k_add rfl) ?_
  exact k_cV2 rfl (law_0 hx) q_70 rfl rfl rfl (bl rfl)
theorem b_68_41 {d : Nat} {m : Nat → Nat → Int} {q : Nat → Nat → Option Nat} {w : Option (Nat → Int64)} {u2 u3 : Option Value} {v4 : Int} {x : Nat} (hx : iLaw x)  : gv d rR68 41 [some (.ref x), some (.ref 101), u2, u3, some (.int (iI v4))] [] (mk m q w) =
    rBd (ev d 9 [.ref 101, .int (iI 93)] (mk m q w)) (fun v M' => gv d rR68 47 [some (.ref x), some (.ref 101), u2, u3, some (.int (iI v4))] (v.toList ++ []) M') := by
  refine Eq.trans (k_ald1 rfl) ?_
  refine Eq.trans (k_bip rfl (by decide)) ?_
  exact k_cV1 rfl s_101 q_9 rfl rfl rfl (bl rfl)
theorem b_68_47 {d : Nat} {m : Nat → Nat → Int} {q : Nat → Nat → Option Nat} {w : Option (Nat → Int64)} {u1 u2 u3 : Option Value} {v4 : Int} {x : Nat} (hx : iLaw x)  : gv d rR68 47 [some (.ref x), u1, u2, u3, some (.int (iI v4))] [] (mk m q w) =
    rBd (ev d 65 [.ref x, .int (iI v4)] (mk m q w)) (fun v M' => gv d rR68 53 [some (.ref x), u1, u2, u3, some (.int (iI v4))] (v.toList ++ []) M') := by
  refine Eq.trans (k_ald0 rfl) ?_
  refine Eq.trans (k_ild4 rfl) ?_
  exact k_cV1 rfl (law_0 hx) q_65 rfl rfl rfl (bl rfl)
theorem b_68_53 {d : Nat} {m : Nat → Nat → Int} {q : Nat → Nat → Option Nat} {w : Option (Nat → Int64)} {u0 u1 u2 u3 u4 : Option Value}   : gv d rR68 53 [u0, u1, u2, u3, u4] [] (mk m q w) =
    some (.inl none, (mk m q w, (0, 0))) := by
  exact k_rtV rfl rfl
theorem e_68 {d : Nat} (hd : 1 ≤ d) {a0 a1 a2 a3 a4 : Value} (M : rMem) (h0 : a0.category = 1) (h1 : a1.category = 1) (h2 : a2.category = 1) (h3 : a3.category = 1) (h4 : a4.category = 1) : ev d 68 [a0, a1, a2, a3, a4] M = gv (d - 1) rR68 0 [some a0, some a1, some a2, some a3, some a4] [] M := ev_at hd q_68 rfl (by simp [*]) rfl
/-! FanHouse$Law.readProduct(LFanHouse$Tape;I)V -/
theorem b_69_0 {d : Nat} {m : Nat → Nat → Int} {q : Nat → Nat → Option Nat} {w : Option (Nat → Int64)} {u3 u4 : Option Value} {v2 : Int} {x : Nat} (hx : iLaw x)  : gv d rR69 0 [some (.ref x), some (.ref 101), some (.int (iI v2)), u3, u4] [] (mk m q w) =
    rBd (ev d 71 [.ref x, .ref 101, .int (iI v2)] (mk m q w)) (fun v M' => gv d rR69 6 [some (.ref x), some (.ref 101), some (.int (iI v2)), u3, u4] (v.toList ++ []) M') := by
  refine Eq.trans (k_ald0 rfl) ?_
  refine Eq.trans (k_ald1 rfl) ?_
  refine Eq.trans (k_ild2 rfl) ?_
  exact k_cV2 rfl (law_0 hx) q_71 rfl rfl rfl (bl rfl)
theorem b_69_6 {d : Nat} {m : Nat → Nat → Int} {q : Nat → Nat → Option Nat} {w : Option (Nat → Int64)} {u3 u4 : Option Value} {v2 : Int} {x : Nat} (hx : iLaw x)  : gv d rR69 6 [some (.ref x), some (.ref 101), some (.int (iI v2)), u3, u4] [] (mk m q w) =
    gv d rR69 8 [some (.ref x), some (.ref 101), some (.int (iI v2)), some (.int (iI 0)), u4] [] (mk m q w) := by
  refine Eq.trans (k_con rfl) ?_
  refine Eq.trans (k_ist3 rfl) ?_
  exact rfl
theorem b_69_8 {d : Nat} {m : Nat → Nat → Int} {q : Nat → Nat → Option Nat} {w : Option (Nat → Int64)} {u4 : Option Value} {v2 v3 : Int} {x : Nat} (hx : iLaw x)  : gv d rR69 8 [some (.ref x), some (.ref 101), some (.int (iI v2)), some (.int (iI v3)), u4] [] (mk m q w) =
    if iI v3 < iI 150 then (rBd (ev d 8 [.ref 101, .int (iI 42)] (mk m q w)) (fun v M' => gv d rR69 21 [some (.ref x), some (.ref 101), some (.int (iI v2)), some (.int (iI v3)), u4] (v.toList ++ []) M')) else (some (.inl none, (mk m q w, (0, 0)))) := by
  refine Eq.trans (k_ild3 rfl) ?_
  refine Eq.trans (k_sip rfl (by decide)) ?_
  refine Eq.trans (k_i2ge rfl rfl) ?_
  refine ifc ?_ ?_
  · refine Eq.trans (k_ald1 rfl) ?_
    refine Eq.trans (k_bip rfl (by decide)) ?_
    exact k_cV1 rfl s_101 q_8 rfl rfl rfl (bl rfl)
  · exact k_rtV rfl rfl
theorem b_69_21 {d : Nat} {m : Nat → Nat → Int} {q : Nat → Nat → Option Nat} {w : Option (Nat → Int64)} {u4 : Option Value} {v2 v3 s0 : Int} {x : Nat} (hx : iLaw x)  : gv d rR69 21 [some (.ref x), some (.ref 101), some (.int (iI v2)), some (.int (iI v3)), u4] [.int (iI s0)] (mk m q w) =
    if iI s0 = iI 0 then (rBd (ev d 8 [.ref 101, .int (iI 47)] (mk m q w)) (fun v M' => gv d rR69 35 [some (.ref x), some (.ref 101), some (.int (iI v2)), some (.int (iI v3)), u4] (v.toList ++ []) M')) else (gv d rR69 58 [some (.ref x), some (.ref 101), some (.int (iI v2)), some (.int (iI v3)), u4] [.int (iI (-13))] (mk m q w)) := by
  refine Eq.trans (k_i1eq rfl rfl) ?_
  refine ifc ?_ ?_
  · refine Eq.trans (k_ald1 rfl) ?_
    refine Eq.trans (k_bip rfl (by decide)) ?_
    exact k_cV1 rfl s_101 q_8 rfl rfl rfl (bl rfl)
  · refine Eq.trans (k_bip rfl (by decide)) ?_
    refine Eq.trans (k_go rfl rfl) ?_
    exact rfl
theorem b_69_35 {d : Nat} {m : Nat → Nat → Int} {q : Nat → Nat → Option Nat} {w : Option (Nat → Int64)} {u4 : Option Value} {v2 v3 s0 : Int} {x : Nat} (hx : iLaw x)  : gv d rR69 35 [some (.ref x), some (.ref 101), some (.int (iI v2)), some (.int (iI v3)), u4] [.int (iI s0)] (mk m q w) =
    if iI s0 = iI 0 then (rBd (ev d 8 [.ref 101, .int (iI 37)] (mk m q w)) (fun v M' => gv d rR69 49 [some (.ref x), some (.ref 101), some (.int (iI v2)), some (.int (iI v3)), u4] (v.toList ++ []) M')) else (gv d rR69 58 [some (.ref x), some (.ref 101), some (.int (iI v2)), some (.int (iI v3)), u4] [.int (iI (-14))] (mk m q w)) := by
  refine Eq.trans (k_i1eq rfl rfl) ?_
  refine ifc ?_ ?_
  · refine Eq.trans (k_ald1 rfl) ?_
    refine Eq.trans (k_bip rfl (by decide)) ?_
    exact k_cV1 rfl s_101 q_8 rfl rfl rfl (bl rfl)
  · refine Eq.trans (k_bip rfl (by decide)) ?_
    refine Eq.trans (k_go rfl rfl) ?_
    exact rfl
theorem b_69_49 {d : Nat} {m : Nat → Nat → Int} {q : Nat → Nat → Option Nat} {w : Option (Nat → Int64)} {u4 : Option Value} {v2 v3 s0 : Int} {x : Nat} (hx : iLaw x)  : gv d rR69 49 [some (.ref x), some (.ref 101), some (.int (iI v2)), some (.int (iI v3)), u4] [.int (iI s0)] (mk m q w) =
    if iI s0 = iI 0 then (gv d rR69 58 [some (.ref x), some (.ref 101), some (.int (iI v2)), some (.int (iI v3)), u4] [.int (iI 0)] (mk m q w)) else (gv d rR69 58 [some (.ref x), some (.ref 101), some (.int (iI v2)), some (.int (iI v3)), u4] [.int (iI (-15))] (mk m q w)) := by
  refine Eq.trans (k_i1eq rfl rfl) ?_
  refine ifc ?_ ?_
  · refine Eq.trans (k_con rfl) ?_
    exact rfl
  · refine Eq.trans (k_bip rfl (by decide)) ?_
    refine Eq.trans (k_go rfl rfl) ?_
    exact rfl
theorem b_69_58 {d : Nat} {m : Nat → Nat → Int} {q : Nat → Nat → Option Nat} {w : Option (Nat → Int64)} {u4 : Option Value} {v2 v3 s0 : Int} {x : Nat} (hx : iLaw x)  : gv d rR69 58 [some (.ref x), some (.ref 101), some (.int (iI v2)), some (.int (iI v3)), u4] [.int (iI s0)] (mk m q w) =
    if iI s0 = iI 0 then (some (.inl none, (mk m q w, (0, 0)))) else (rBd (ev d 71 [.ref x, .ref 101, .int (iI v2)] (mk m q w)) (fun v M' => gv d rR69 72 [some (.ref x), some (.ref 101), some (.int (iI v2)), some (.int (iI v3)), some (.int (iI s0))] (v.toList ++ []) M')) := by
  refine Eq.trans (k_ist4 rfl) ?_
  refine Eq.trans (k_ild4 rfl) ?_
  refine Eq.trans (k_i1ne rfl rfl) ?_
  refine ifc ?_ ?_
  · exact k_rtV rfl rfl
  · refine Eq.trans (k_ald0 rfl) ?_
    refine Eq.trans (k_ald1 rfl) ?_
    refine Eq.trans (k_ild2 rfl) ?_
    exact k_cV2 rfl (law_0 hx) q_71 rfl rfl rfl (bl rfl)
theorem b_69_72 {d : Nat} {m : Nat → Nat → Int} {q : Nat → Nat → Option Nat} {w : Option (Nat → Int64)} {v2 v3 v4 : Int} {x : Nat} (hx : iLaw x)  : gv d rR69 72 [some (.ref x), some (.ref 101), some (.int (iI v2)), some (.int (iI v3)), some (.int (iI v4))] [] (mk m q w) =
    rBd (ev d 65 [.ref x, .int (iI v4)] (mk m q w)) (fun v M' => gv d rR69 78 [some (.ref x), some (.ref 101), some (.int (iI v2)), some (.int (iI v3)), some (.int (iI v4))] (v.toList ++ []) M') := by
  refine Eq.trans (k_ald0 rfl) ?_
  refine Eq.trans (k_ild4 rfl) ?_
  exact k_cV1 rfl (law_0 hx) q_65 rfl rfl rfl (bl rfl)
theorem b_69_78 {d : Nat} {m : Nat → Nat → Int} {q : Nat → Nat → Option Nat} {w : Option (Nat → Int64)} {u4 : Option Value} {v2 v3 : Int} {x : Nat} (hx : iLaw x)  : gv d rR69 78 [some (.ref x), some (.ref 101), some (.int (iI v2)), some (.int (iI v3)), u4] [] (mk m q w) =
    gv d rR69 8 [some (.ref x), some (.ref 101), some (.int (iI v2)), some (.int (iI (v3 + 1))), u4] [] (mk m q w) := by
  refine Eq.trans (k_inc3 rfl) ?_
  refine Eq.trans (k_go rfl rfl) ?_
  exact rfl
theorem e_69 {d : Nat} (hd : 1 ≤ d) {a0 a1 a2 : Value} (M : rMem) (h0 : a0.category = 1) (h1 : a1.category = 1) (h2 : a2.category = 1) : ev d 69 [a0, a1, a2] M = gv (d - 1) rR69 0 [some a0, some a1, some a2, none, none] [] M := ev_at hd q_69 rfl (by simp [*]) rfl
/-! FanHouse$Law.readSum(LFanHouse$Tape;I)V -/
theorem b_70_0 {d : Nat} {m : Nat → Nat → Int} {q : Nat → Nat → Option Nat} {w : Option (Nat → Int64)} {u3 u4 : Option Value} {v2 : Int} {x : Nat} (hx : iLaw x)  : gv d rR70 0 [some (.ref x), some (.ref 101), some (.int (iI v2)), u3, u4] [] (mk m q w) =
    rBd (ev d 69 [.ref x, .ref 101, .int (iI v2)] (mk m q w)) (fun v M' => gv d rR70 6 [some (.ref x), some (.ref 101), some (.int (iI v2)), u3, u4] (v.toList ++ []) M') := by
  refine Eq.trans (k_ald0 rfl) ?_
  refine Eq.trans (k_ald1 rfl) ?_
  refine Eq.trans (k_ild2 rfl) ?_
  exact k_cV2 rfl (law_0 hx) q_69 rfl rfl rfl (bl rfl)
theorem b_70_6 {d : Nat} {m : Nat → Nat → Int} {q : Nat → Nat → Option Nat} {w : Option (Nat → Int64)} {u3 u4 : Option Value} {v2 : Int} {x : Nat} (hx : iLaw x)  : gv d rR70 6 [some (.ref x), some (.ref 101), some (.int (iI v2)), u3, u4] [] (mk m q w) =
    gv d rR70 8 [some (.ref x), some (.ref 101), some (.int (iI v2)), some (.int (iI 0)), u4] [] (mk m q w) := by
  refine Eq.trans (k_con rfl) ?_
  refine Eq.trans (k_ist3 rfl) ?_
  exact rfl
theorem b_70_8 {d : Nat} {m : Nat → Nat → Int} {q : Nat → Nat → Option Nat} {w : Option (Nat → Int64)} {u4 : Option Value} {v2 v3 : Int} {x : Nat} (hx : iLaw x)  : gv d rR70 8 [some (.ref x), some (.ref 101), some (.int (iI v2)), some (.int (iI v3)), u4] [] (mk m q w) =
    if iI v3 < iI 150 then (rBd (ev d 8 [.ref 101, .int (iI 43)] (mk m q w)) (fun v M' => gv d rR70 21 [some (.ref x), some (.ref 101), some (.int (iI v2)), some (.int (iI v3)), u4] (v.toList ++ []) M')) else (some (.inl none, (mk m q w, (0, 0)))) := by
  refine Eq.trans (k_ild3 rfl) ?_
  refine Eq.trans (k_sip rfl (by decide)) ?_
  refine Eq.trans (k_i2ge rfl rfl) ?_
  refine ifc ?_ ?_
  · refine Eq.trans (k_ald1 rfl) ?_
    refine Eq.trans (k_bip rfl (by decide)) ?_
    exact k_cV1 rfl s_101 q_8 rfl rfl rfl (bl rfl)
  · exact k_rtV rfl rfl
theorem b_70_21 {d : Nat} {m : Nat → Nat → Int} {q : Nat → Nat → Option Nat} {w : Option (Nat → Int64)} {u4 : Option Value} {v2 v3 s0 : Int} {x : Nat} (hx : iLaw x)  : gv d rR70 21 [some (.ref x), some (.ref 101), some (.int (iI v2)), some (.int (iI v3)), u4] [.int (iI s0)] (mk m q w) =
    if iI s0 = iI 0 then (rBd (ev d 8 [.ref 101, .int (iI 45)] (mk m q w)) (fun v M' => gv d rR70 35 [some (.ref x), some (.ref 101), some (.int (iI v2)), some (.int (iI v3)), u4] (v.toList ++ []) M')) else (gv d rR70 44 [some (.ref x), some (.ref 101), some (.int (iI v2)), some (.int (iI v3)), u4] [.int (iI (-11))] (mk m q w)) := by
  refine Eq.trans (k_i1eq rfl rfl) ?_
  refine ifc ?_ ?_
  · refine Eq.trans (k_ald1 rfl) ?_
    refine Eq.trans (k_bip rfl (by decide)) ?_
    exact k_cV1 rfl s_101 q_8 rfl rfl rfl (bl rfl)
  · refine Eq.trans (k_bip rfl (by decide)) ?_
    refine Eq.trans (k_go rfl rfl) ?_
    exact rfl
theorem b_70_35 {d : Nat} {m : Nat → Nat → Int} {q : Nat → Nat → Option Nat} {w : Option (Nat → Int64)} {u4 : Option Value} {v2 v3 s0 : Int} {x : Nat} (hx : iLaw x)  : gv d rR70 35 [some (.ref x), some (.ref 101), some (.int (iI v2)), some (.int (iI v3)), u4] [.int (iI s0)] (mk m q w) =
    if iI s0 = iI 0 then (gv d rR70 44 [some (.ref x), some (.ref 101), some (.int (iI v2)), some (.int (iI v3)), u4] [.int (iI 0)] (mk m q w)) else (gv d rR70 44 [some (.ref x), some (.ref 101), some (.int (iI v2)), some (.int (iI v3)), u4] [.int (iI (-12))] (mk m q w)) := by
  refine Eq.trans (k_i1eq rfl rfl) ?_
  refine ifc ?_ ?_
  · refine Eq.trans (k_con rfl) ?_
    exact rfl
  · refine Eq.trans (k_bip rfl (by decide)) ?_
    refine Eq.trans (k_go rfl rfl) ?_
    exact rfl
theorem b_70_44 {d : Nat} {m : Nat → Nat → Int} {q : Nat → Nat → Option Nat} {w : Option (Nat → Int64)} {u4 : Option Value} {v2 v3 s0 : Int} {x : Nat} (hx : iLaw x)  : gv d rR70 44 [some (.ref x), some (.ref 101), some (.int (iI v2)), some (.int (iI v3)), u4] [.int (iI s0)] (mk m q w) =
    if iI s0 = iI 0 then (some (.inl none, (mk m q w, (0, 0)))) else (rBd (ev d 69 [.ref x, .ref 101, .int (iI v2)] (mk m q w)) (fun v M' => gv d rR70 58 [some (.ref x), some (.ref 101), some (.int (iI v2)), some (.int (iI v3)), some (.int (iI s0))] (v.toList ++ []) M')) := by
  refine Eq.trans (k_ist4 rfl) ?_
  refine Eq.trans (k_ild4 rfl) ?_
  refine Eq.trans (k_i1ne rfl rfl) ?_
  refine ifc ?_ ?_
  · exact k_rtV rfl rfl
  · refine Eq.trans (k_ald0 rfl) ?_
    refine Eq.trans (k_ald1 rfl) ?_
    refine Eq.trans (k_ild2 rfl) ?_
    exact k_cV2 rfl (law_0 hx) q_69 rfl rfl rfl (bl rfl)
theorem b_70_58 {d : Nat} {m : Nat → Nat → Int} {q : Nat → Nat → Option Nat} {w : Option (Nat → Int64)} {v2 v3 v4 : Int} {x : Nat} (hx : iLaw x)  : gv d rR70 58 [some (.ref x), some (.ref 101), some (.int (iI v2)), some (.int (iI v3)), some (.int (iI v4))] [] (mk m q w) =
    rBd (ev d 65 [.ref x, .int (iI v4)] (mk m q w)) (fun v M' => gv d rR70 64 [some (.ref x), some (.ref 101), some (.int (iI v2)), some (.int (iI v3)), some (.int (iI v4))] (v.toList ++ []) M') := by
  refine Eq.trans (k_ald0 rfl) ?_
  refine Eq.trans (k_ild4 rfl) ?_
  exact k_cV1 rfl (law_0 hx) q_65 rfl rfl rfl (bl rfl)
theorem b_70_64 {d : Nat} {m : Nat → Nat → Int} {q : Nat → Nat → Option Nat} {w : Option (Nat → Int64)} {u4 : Option Value} {v2 v3 : Int} {x : Nat} (hx : iLaw x)  : gv d rR70 64 [some (.ref x), some (.ref 101), some (.int (iI v2)), some (.int (iI v3)), u4] [] (mk m q w) =
    gv d rR70 8 [some (.ref x), some (.ref 101), some (.int (iI v2)), some (.int (iI (v3 + 1))), u4] [] (mk m q w) := by
  refine Eq.trans (k_inc3 rfl) ?_
  refine Eq.trans (k_go rfl rfl) ?_
  exact rfl
theorem e_70 {d : Nat} (hd : 1 ≤ d) {a0 a1 a2 : Value} (M : rMem) (h0 : a0.category = 1) (h1 : a1.category = 1) (h2 : a2.category = 1) : ev d 70 [a0, a1, a2] M = gv (d - 1) rR70 0 [some a0, some a1, some a2, none, none] [] M := ev_at hd q_70 rfl (by simp [*]) rfl
/-! FanHouse$Law.readUnit(LFanHouse$Tape;I)V -/
theorem b_71_0 {d : Nat} {m : Nat → Nat → Int} {q : Nat → Nat → Option Nat} {w : Option (Nat → Int64)} {u3 : Option Value} {v2 : Int} {x : Nat} (hx : iLaw x)  : gv d rR71 0 [some (.ref x), some (.ref 101), some (.int (iI v2)), u3] [] (mk m q w) =
    rBd (ev d 2 [.ref 101] (mk m q w)) (fun v M' => gv d rR71 4 [some (.ref x), some (.ref 101), some (.int (iI v2)), u3] (v.toList ++ []) M') := by
  refine Eq.trans (k_ald1 rfl) ?_
  exact k_cV0 rfl s_101 q_2 rfl rfl rfl (bl rfl)
theorem b_71_4 {d : Nat} {m : Nat → Nat → Int} {q : Nat → Nat → Option Nat} {w : Option (Nat → Int64)} {u3 : Option Value} {v2 s0 : Int} {x : Nat} (hx : iLaw x)  : gv d rR71 4 [some (.ref x), some (.ref 101), some (.int (iI v2)), u3] [.int (iI s0)] (mk m q w) =
    rBd (ev d 4 [.ref 101] (mk m q w)) (fun v M' => gv d rR71 9 [some (.ref x), some (.ref 101), some (.int (iI v2)), some (.int (iI s0))] (v.toList ++ []) M') := by
  refine Eq.trans (k_ist3 rfl) ?_
  refine Eq.trans (k_ald1 rfl) ?_
  exact k_cV0 rfl s_101 q_4 rfl rfl rfl (bl rfl)
theorem b_71_9 {d : Nat} {m : Nat → Nat → Int} {q : Nat → Nat → Option Nat} {w : Option (Nat → Int64)} {v2 v3 s0 : Int} {x : Nat} (hx : iLaw x)  : gv d rR71 9 [some (.ref x), some (.ref 101), some (.int (iI v2)), some (.int (iI v3))] [.int (iI s0)] (mk m q w) =
    if iI s0 = iI 0 then (rBd (ev d 8 [.ref 101, .int (iI 40)] (mk m q w)) (fun v M' => gv d rR71 33 [some (.ref x), some (.ref 101), some (.int (iI v2)), some (.int (iI v3))] (v.toList ++ []) M')) else (rBd (ev d 7 [.ref 101, .int (iI 0), .int (iI 999)] (mk m q w)) (fun v M' => gv d rR71 21 [some (.ref x), some (.ref 101), some (.int (iI v2)), some (.int (iI v3))] (v.toList ++ [.ref x]) M')) := by
  refine Eq.trans (k_i1eq rfl rfl) ?_
  refine ifc ?_ ?_
  · refine Eq.trans (k_ald1 rfl) ?_
    refine Eq.trans (k_bip rfl (by decide)) ?_
    exact k_cV1 rfl s_101 q_8 rfl rfl rfl (bl rfl)
  · refine Eq.trans (k_ald0 rfl) ?_
    refine Eq.trans (k_ald1 rfl) ?_
    refine Eq.trans (k_con rfl) ?_
    refine Eq.trans (k_sip rfl (by decide)) ?_
    exact k_cV2 rfl s_101 q_7 rfl rfl rfl (bl rfl)
theorem b_71_21 {d : Nat} {m : Nat → Nat → Int} {q : Nat → Nat → Option Nat} {w : Option (Nat → Int64)} {u0 u1 u2 u3 : Option Value} {s1 : Int} {x : Nat} (hx : iLaw x)  : gv d rR71 21 [u0, u1, u2, u3] [.int (iI s1), .ref x] (mk m q w) =
    rBd (ev d 65 [.ref x, .int (iI s1)] (mk m q w)) (fun v M' => gv d rR71 24 [u0, u1, u2, u3] (v.toList ++ []) M') := by
  exact k_cV1 rfl (law_0 hx) q_65 rfl rfl rfl (bl rfl)
theorem b_71_24 {d : Nat} {m : Nat → Nat → Int} {q : Nat → Nat → Option Nat} {w : Option (Nat → Int64)} {u0 u1 u2 u3 : Option Value}   : gv d rR71 24 [u0, u1, u2, u3] [] (mk m q w) =
    gv d rR71 94 [u0, u1, u2, u3] [] (mk m q w) := by
  refine Eq.trans (k_go rfl rfl) ?_
  exact rfl
theorem b_71_33 {d : Nat} {m : Nat → Nat → Int} {q : Nat → Nat → Option Nat} {w : Option (Nat → Int64)} {v2 v3 s0 : Int} {x : Nat} (hx : iLaw x)  : gv d rR71 33 [some (.ref x), some (.ref 101), some (.int (iI v2)), some (.int (iI v3))] [.int (iI s0)] (mk m q w) =
    if iI s0 = iI 0 then (rBd (ev d 27 [.ref 101, .ref 12] (mk m q w)) (fun v M' => gv d rR71 52 [some (.ref x), some (.ref 101), some (.int (iI v2)), some (.int (iI v3))] (v.toList ++ []) M')) else (rBd (ev d 67 [.ref x, .ref 101, .int (iI v2), .int (iI v3)] (mk m q w)) (fun v M' => gv d rR71 43 [some (.ref x), some (.ref 101), some (.int (iI v2)), some (.int (iI v3))] (v.toList ++ []) M')) := by
  refine Eq.trans (k_i1eq rfl rfl) ?_
  refine ifc ?_ ?_
  · refine Eq.trans (k_ald1 rfl) ?_
    refine Eq.trans (k_ldr rfl) ?_
    exact k_cV1 rfl s_101 q_27 rfl rfl rfl (bl rfl)
  · refine Eq.trans (k_ald0 rfl) ?_
    refine Eq.trans (k_ald1 rfl) ?_
    refine Eq.trans (k_ild2 rfl) ?_
    refine Eq.trans (k_ild3 rfl) ?_
    exact k_cV3 rfl (law_0 hx) q_67 rfl rfl rfl (bl rfl)
theorem b_71_43 {d : Nat} {m : Nat → Nat → Int} {q : Nat → Nat → Option Nat} {w : Option (Nat → Int64)} {u0 u1 u2 u3 : Option Value}   : gv d rR71 43 [u0, u1, u2, u3] [] (mk m q w) =
    gv d rR71 94 [u0, u1, u2, u3] [] (mk m q w) := by
  refine Eq.trans (k_go rfl rfl) ?_
  exact rfl
theorem b_71_52 {d : Nat} {m : Nat → Nat → Int} {q : Nat → Nat → Option Nat} {w : Option (Nat → Int64)} {v2 v3 s0 : Int} {x : Nat} (hx : iLaw x)  : gv d rR71 52 [some (.ref x), some (.ref 101), some (.int (iI v2)), some (.int (iI v3))] [.int (iI s0)] (mk m q w) =
    if iI s0 = iI 0 then (rBd (ev d 27 [.ref 101, .ref 13] (mk m q w)) (fun v M' => gv d rR71 73 [some (.ref x), some (.ref 101), some (.int (iI v2)), some (.int (iI v3))] (v.toList ++ []) M')) else (rBd (ev d 68 [.ref x, .ref 101, .int (iI v2), .int (iI v3), .int (iI (-16))] (mk m q w)) (fun v M' => gv d rR71 64 [some (.ref x), some (.ref 101), some (.int (iI v2)), some (.int (iI v3))] (v.toList ++ []) M')) := by
  refine Eq.trans (k_i1eq rfl rfl) ?_
  refine ifc ?_ ?_
  · refine Eq.trans (k_ald1 rfl) ?_
    refine Eq.trans (k_ldr rfl) ?_
    exact k_cV1 rfl s_101 q_27 rfl rfl rfl (bl rfl)
  · refine Eq.trans (k_ald0 rfl) ?_
    refine Eq.trans (k_ald1 rfl) ?_
    refine Eq.trans (k_ild2 rfl) ?_
    refine Eq.trans (k_ild3 rfl) ?_
    refine Eq.trans (k_bip rfl (by decide)) ?_
    exact k_cV4 rfl (law_0 hx) q_68 rfl rfl rfl (bl rfl)
theorem b_71_64 {d : Nat} {m : Nat → Nat → Int} {q : Nat → Nat → Option Nat} {w : Option (Nat → Int64)} {u0 u1 u2 u3 : Option Value}   : gv d rR71 64 [u0, u1, u2, u3] [] (mk m q w) =
    gv d rR71 94 [u0, u1, u2, u3] [] (mk m q w) := by
  refine Eq.trans (k_go rfl rfl) ?_
  exact rfl
theorem b_71_73 {d : Nat} {m : Nat → Nat → Int} {q : Nat → Nat → Option Nat} {w : Option (Nat → Int64)} {v2 v3 s0 : Int} {x : Nat} (hx : iLaw x)  : gv d rR71 73 [some (.ref x), some (.ref 101), some (.int (iI v2)), some (.int (iI v3))] [.int (iI s0)] (mk m q w) =
    if iI s0 = iI 0 then (rBd (ev d 66 [.ref x, .ref 101, .int (iI v3)] (mk m q w)) (fun v M' => gv d rR71 94 [some (.ref x), some (.ref 101), some (.int (iI v2)), some (.int (iI v3))] (v.toList ++ []) M')) else (rBd (ev d 68 [.ref x, .ref 101, .int (iI v2), .int (iI v3), .int (iI (-17))] (mk m q w)) (fun v M' => gv d rR71 85 [some (.ref x), some (.ref 101), some (.int (iI v2)), some (.int (iI v3))] (v.toList ++ []) M')) := by
  refine Eq.trans (k_i1eq rfl rfl) ?_
  refine ifc ?_ ?_
  · refine Eq.trans (k_ald0 rfl) ?_
    refine Eq.trans (k_ald1 rfl) ?_
    refine Eq.trans (k_ild3 rfl) ?_
    exact k_cV2 rfl (law_0 hx) q_66 rfl rfl rfl (bl rfl)
  · refine Eq.trans (k_ald0 rfl) ?_
    refine Eq.trans (k_ald1 rfl) ?_
    refine Eq.trans (k_ild2 rfl) ?_
    refine Eq.trans (k_ild3 rfl) ?_
    refine Eq.trans (k_bip rfl (by decide)) ?_
    exact k_cV4 rfl (law_0 hx) q_68 rfl rfl rfl (bl rfl)
theorem b_71_85 {d : Nat} {m : Nat → Nat → Int} {q : Nat → Nat → Option Nat} {w : Option (Nat → Int64)} {u0 u1 u2 u3 : Option Value}   : gv d rR71 85 [u0, u1, u2, u3] [] (mk m q w) =
    gv d rR71 94 [u0, u1, u2, u3] [] (mk m q w) := by
  refine Eq.trans (k_go rfl rfl) ?_
  exact rfl
theorem b_71_94 {d : Nat} {m : Nat → Nat → Int} {q : Nat → Nat → Option Nat} {w : Option (Nat → Int64)} {u0 u1 u2 u3 : Option Value}   : gv d rR71 94 [u0, u1, u2, u3] [] (mk m q w) =
    some (.inl none, (mk m q w, (0, 0))) := by
  exact k_rtV rfl rfl
theorem e_71 {d : Nat} (hd : 1 ≤ d) {a0 a1 a2 : Value} (M : rMem) (h0 : a0.category = 1) (h1 : a1.category = 1) (h2 : a2.category = 1) : ev d 71 [a0, a1, a2] M = gv (d - 1) rR71 0 [some a0, some a1, some a2, none] [] M := ev_at hd q_71 rfl (by simp [*]) rfl
/-! FanHouse$Law.readFrom(LFanHouse$Tape;)V -/
theorem b_72_0 {d : Nat} {m : Nat → Nat → Int} {q : Nat → Nat → Option Nat} {w : Option (Nat → Int64)} {x : Nat} (hx : iLaw x)  : gv d rR72 0 [some (.ref x), some (.ref 101)] [] (mk m q w) =
    rBd (ev d 70 [.ref x, .ref 101, .int (iI 0)] (mk (wr m x 3 0) q w)) (fun v M' => gv d rR72 11 [some (.ref x), some (.ref 101)] (v.toList ++ []) M') := by
  refine Eq.trans (k_ald0 rfl) ?_
  refine Eq.trans (k_con rfl) ?_
  refine Eq.trans (k_ptI rfl (law_0 hx) rfl rfl) ?_
  refine Eq.trans (k_ald0 rfl) ?_
  refine Eq.trans (k_ald1 rfl) ?_
  refine Eq.trans (k_con rfl) ?_
  exact k_cV2 rfl (law_0 hx) q_70 rfl rfl rfl (bl rfl)
theorem b_72_11 {d : Nat} {m : Nat → Nat → Int} {q : Nat → Nat → Option Nat} {w : Option (Nat → Int64)} {u0 u1 : Option Value}   : gv d rR72 11 [u0, u1] [] (mk m q w) =
    some (.inl none, (mk m q w, (0, 0))) := by
  exact k_rtV rfl rfl
theorem e_72 {d : Nat} (hd : 1 ≤ d) {a0 a1 : Value} (M : rMem) (h0 : a0.category = 1) (h1 : a1.category = 1) : ev d 72 [a0, a1] M = gv (d - 1) rR72 0 [some a0, some a1] [] M := ev_at hd q_72 rfl (by simp [*]) rfl
/-! FanHouse$Picture.readFrom(LFanHouse$Tape;)V -/
theorem b_74_0 {d : Nat} {m : Nat → Nat → Int} {q : Nat → Nat → Option Nat} {w : Option (Nat → Int64)} {u2 u3 u4 : Option Value} {x : Nat} (hx : iPic x)  : gv d rR74 0 [some (.ref x), some (.ref 101), u2, u3, u4] [] (mk m q w) =
    gv d rR74 7 [some (.ref x), some (.ref 101), some (.int (iI 0)), u3, u4] [] (mk (wr m x 1 0) q w) := by
  refine Eq.trans (k_ald0 rfl) ?_
  refine Eq.trans (k_con rfl) ?_
  refine Eq.trans (k_ptI rfl (pic_0 hx) rfl rfl) ?_
  refine Eq.trans (k_con rfl) ?_
  refine Eq.trans (k_ist2 rfl) ?_
  exact rfl
theorem b_74_7 {d : Nat} {m : Nat → Nat → Int} {q : Nat → Nat → Option Nat} {w : Option (Nat → Int64)} {u3 u4 : Option Value} {v2 : Int} {x : Nat} (hx : iPic x)  : gv d rR74 7 [some (.ref x), some (.ref 101), some (.int (iI v2)), u3, u4] [] (mk m q w) =
    if iI v2 < iI 60 then (rBd (ev d 4 [.ref 101] (mk m q w)) (fun v M' => gv d rR74 17 [some (.ref x), some (.ref 101), some (.int (iI v2)), u3, u4] (v.toList ++ []) M')) else (gv d rR74 86 [some (.ref x), some (.ref 101), some (.int (iI v2)), u3, u4] [] (mk m q w)) := by
  refine Eq.trans (k_ild2 rfl) ?_
  refine Eq.trans (k_bip rfl (by decide)) ?_
  refine Eq.trans (k_i2ge rfl rfl) ?_
  refine ifc ?_ ?_
  · refine Eq.trans (k_ald1 rfl) ?_
    exact k_cV0 rfl s_101 q_4 rfl rfl rfl (bl rfl)
  · exact rfl
theorem b_74_17 {d : Nat} {m : Nat → Nat → Int} {q : Nat → Nat → Option Nat} {w : Option (Nat → Int64)} {u3 u4 : Option Value} {v2 s0 : Int} {x : Nat} (hx : iPic x)  : gv d rR74 17 [some (.ref x), some (.ref 101), some (.int (iI v2)), u3, u4] [.int (iI s0)] (mk m q w) =
    if iI s0 = iI 0 then (gv d rR74 86 [some (.ref x), some (.ref 101), some (.int (iI v2)), u3, u4] [] (mk m q w)) else (rBd (ev d 2 [.ref 101] (mk m q w)) (fun v M' => gv d rR74 24 [some (.ref x), some (.ref 101), some (.int (iI v2)), u3, u4] (v.toList ++ []) M')) := by
  refine Eq.trans (k_i1eq rfl rfl) ?_
  refine ifc ?_ ?_
  · exact rfl
  · refine Eq.trans (k_ald1 rfl) ?_
    exact k_cV0 rfl s_101 q_2 rfl rfl rfl (bl rfl)
theorem b_74_24 {d : Nat} {m : Nat → Nat → Int} {q : Nat → Nat → Option Nat} {w : Option (Nat → Int64)} {u3 u4 : Option Value} {v2 s0 : Int} {x : Nat} (hx : iPic x)  : gv d rR74 24 [some (.ref x), some (.ref 101), some (.int (iI v2)), u3, u4] [.int (iI s0)] (mk m q w) =
    rBd (ev d 7 [.ref 101, .int (iI 0), .int (iI 16)] (mk m q w)) (fun v M' => gv d rR74 32 [some (.ref x), some (.ref 101), some (.int (iI v2)), some (.int (iI s0)), u4] (v.toList ++ []) M') := by
  refine Eq.trans (k_ist3 rfl) ?_
  refine Eq.trans (k_ald1 rfl) ?_
  refine Eq.trans (k_con rfl) ?_
  refine Eq.trans (k_bip rfl (by decide)) ?_
  exact k_cV2 rfl s_101 q_7 rfl rfl rfl (bl rfl)
theorem b_74_32 {d : Nat} {m : Nat → Nat → Int} {q : Nat → Nat → Option Nat} {w : Option (Nat → Int64)} {u4 : Option Value} {v2 v3 s0 : Int} {x : Nat} (hx : iPic x)  : gv d rR74 32 [some (.ref x), some (.ref 101), some (.int (iI v2)), some (.int (iI v3)), u4] [.int (iI s0)] (mk m q w) =
    if iI (m x 1) < iI (((7 : Nat) : Int)) then (gv d rR74 53 [some (.ref x), some (.ref 101), some (.int (iI v2)), some (.int (iI v3)), some (.int (iI s0))] [] (mk m q w)) else (rBd (ev d 5 [.ref 101, .int (iI 3), .int (iI v3)] (mk m q w)) (fun v M' => gv d rR74 52 [some (.ref x), some (.ref 101), some (.int (iI v2)), some (.int (iI v3)), some (.int (iI s0))] (v.toList ++ []) M')) := by
  refine Eq.trans (k_ist4 rfl) ?_
  refine Eq.trans (k_ald0 rfl) ?_
  refine Eq.trans (k_gtI rfl (pic_0 hx) rfl (by decide)) ?_
  refine Eq.trans (k_ald0 rfl) ?_
  refine Eq.trans (k_gtR rfl (pic_0 hx) rfl (by decide)) ?_
  refine Eq.trans (k_alen rfl (pic_1 hx) (by intro hz; have h9 := (pic_1 hx); rw [hz] at h9; cases h9)) ?_
  refine Eq.trans (k_i2lt rfl rfl) ?_
  refine ifc ?_ ?_
  · exact rfl
  · refine Eq.trans (k_ald1 rfl) ?_
    refine Eq.trans (k_con rfl) ?_
    refine Eq.trans (k_ild3 rfl) ?_
    exact k_cV2 rfl s_101 q_5 rfl rfl rfl (bl rfl)
theorem b_74_52 {d : Nat} {m : Nat → Nat → Int} {q : Nat → Nat → Option Nat} {w : Option (Nat → Int64)} {u0 u1 u2 u3 u4 : Option Value}   : gv d rR74 52 [u0, u1, u2, u3, u4] [] (mk m q w) =
    some (.inl none, (mk m q w, (0, 0))) := by
  exact k_rtV rfl rfl
theorem b_74_53 {d : Nat} {m : Nat → Nat → Int} {q : Nat → Nat → Option Nat} {w : Option (Nat → Int64)} {u3 : Option Value} {v2 v4 : Int} {x : Nat} (hx : iPic x) (g0 : 0 ≤ (m x 1)) (g1 : (m x 1) < 7) : gv d rR74 53 [some (.ref x), some (.ref 101), some (.int (iI v2)), u3, some (.int (iI v4))] [] (mk m q w) =
    rBd (ev d 9 [.ref 101, .int (iI 59)] (mk (wr (wr m (x + 1) (Int.toNat (m x 1)) v4) x 1 (((wr m (x + 1) (Int.toNat (m x 1)) v4) x 1) + 1)) q w)) (fun v M' => gv d rR74 80 [some (.ref x), some (.ref 101), some (.int (iI v2)), u3, some (.int (iI v4))] (v.toList ++ []) M') := by
  refine Eq.trans (k_ald0 rfl) ?_
  refine Eq.trans (k_gtR rfl (pic_0 hx) rfl (by decide)) ?_
  refine Eq.trans (k_ald0 rfl) ?_
  refine Eq.trans (k_gtI rfl (pic_0 hx) rfl (by decide)) ?_
  refine Eq.trans (k_ild4 rfl) ?_
  refine Eq.trans (k_iast rfl (pic_1 hx) (bl rfl) g0 g1) ?_
  refine Eq.trans (k_ald0 rfl) ?_
  refine Eq.trans (k_dup rfl rfl) ?_
  refine Eq.trans (k_gtI rfl (pic_0 hx) rfl (by decide)) ?_
  refine Eq.trans (k_con rfl) ?_
  refine Eq.trans (k_add rfl) ?_
  refine Eq.trans (k_ptI rfl (pic_0 hx) rfl rfl) ?_
  refine Eq.trans (k_ald1 rfl) ?_
  refine Eq.trans (k_bip rfl (by decide)) ?_
  exact k_cV1 rfl s_101 q_9 rfl rfl rfl (bl rfl)
theorem b_74_80 {d : Nat} {m : Nat → Nat → Int} {q : Nat → Nat → Option Nat} {w : Option (Nat → Int64)} {u3 u4 : Option Value} {v2 : Int} {x : Nat} (hx : iPic x)  : gv d rR74 80 [some (.ref x), some (.ref 101), some (.int (iI v2)), u3, u4] [] (mk m q w) =
    gv d rR74 7 [some (.ref x), some (.ref 101), some (.int (iI (v2 + 1))), u3, u4] [] (mk m q w) := by
  refine Eq.trans (k_inc2 rfl) ?_
  refine Eq.trans (k_go rfl rfl) ?_
  exact rfl
theorem b_74_86 {d : Nat} {m : Nat → Nat → Int} {q : Nat → Nat → Option Nat} {w : Option (Nat → Int64)} {u0 u1 u2 u3 u4 : Option Value}   : gv d rR74 86 [u0, u1, u2, u3, u4] [] (mk m q w) =
    some (.inl none, (mk m q w, (0, 0))) := by
  exact k_rtV rfl rfl
theorem e_74 {d : Nat} (hd : 1 ≤ d) {a0 a1 : Value} (M : rMem) (h0 : a0.category = 1) (h1 : a1.category = 1) : ev d 74 [a0, a1] M = gv (d - 1) rR74 0 [some a0, some a1, none, none, none] [] M := ev_at hd q_74 rfl (by simp [*]) rfl
/-! FanHouse$Picture.markAt(I)I -/
theorem b_75_0 {d : Nat} {m : Nat → Nat → Int} {q : Nat → Nat → Option Nat} {w : Option (Nat → Int64)} {v1 : Int} {x : Nat} (hx : iPic x)  : gv d rR75 0 [some (.ref x), some (.int (iI v1))] [] (mk m q w) =
    if iI v1 < iI 0 then (gv d rR75 21 [some (.ref x), some (.int (iI v1))] [] (mk m q w)) else (if iI v1 < iI (m x 1) then (gv d rR75 12 [some (.ref x), some (.int (iI v1))] [] (mk m q w)) else (gv d rR75 21 [some (.ref x), some (.int (iI v1))] [] (mk m q w))) := by
  refine Eq.trans (k_ild1 rfl) ?_
  refine Eq.trans (k_i1lt rfl rfl) ?_
  refine ifc ?_ ?_
  · exact rfl
  · refine Eq.trans (k_ild1 rfl) ?_
    refine Eq.trans (k_ald0 rfl) ?_
    refine Eq.trans (k_gtI rfl (pic_0 hx) rfl (by decide)) ?_
    refine Eq.trans (k_i2ge rfl rfl) ?_
    refine ifc ?_ ?_
    · exact rfl
    · exact rfl
theorem b_75_12 {d : Nat} {m : Nat → Nat → Int} {q : Nat → Nat → Option Nat} {w : Option (Nat → Int64)} {v1 : Int} {x : Nat} (hx : iPic x) (g0 : 0 ≤ v1) (g1 : v1 < 7) : gv d rR75 12 [some (.ref x), some (.int (iI v1))] [] (mk m q w) =
    gv d rR75 23 [some (.ref x), some (.int (iI v1))] [.int (iI (m (x + 1) (Int.toNat v1)))] (mk m q w) := by
  refine Eq.trans (k_ald0 rfl) ?_
  refine Eq.trans (k_gtR rfl (pic_0 hx) rfl (by decide)) ?_
  refine Eq.trans (k_ild1 rfl) ?_
  refine Eq.trans (k_iald rfl (pic_1 hx) (bl rfl) g0 g1) ?_
  refine Eq.trans (k_go rfl rfl) ?_
  exact rfl
theorem b_75_21 {d : Nat} {m : Nat → Nat → Int} {q : Nat → Nat → Option Nat} {w : Option (Nat → Int64)} {u0 u1 : Option Value}   : gv d rR75 21 [u0, u1] [] (mk m q w) =
    gv d rR75 23 [u0, u1] [.int (iI 16)] (mk m q w) := by
  refine Eq.trans (k_bip rfl (by decide)) ?_
  exact rfl
theorem b_75_23 {d : Nat} {m : Nat → Nat → Int} {q : Nat → Nat → Option Nat} {w : Option (Nat → Int64)} {u0 u1 : Option Value} {s0 : Int}   : gv d rR75 23 [u0, u1] [.int (iI s0)] (mk m q w) =
    some (.inl (some (.int (iI s0))), (mk m q w, (0, 0))) := by
  exact k_rtI rfl rfl
theorem e_75 {d : Nat} (hd : 1 ≤ d) {a0 a1 : Value} (M : rMem) (h0 : a0.category = 1) (h1 : a1.category = 1) : ev d 75 [a0, a1] M = gv (d - 1) rR75 0 [some a0, some a1] [] M := ev_at hd q_75 rfl (by simp [*]) rfl
/-! FanHouse$Picture.unlikeIn(LFanHouse$Fan;I)I -/
theorem b_76_0 {d : Nat} {m : Nat → Nat → Int} {q : Nat → Nat → Option Nat} {w : Option (Nat → Int64)} {u3 u4 u5 : Option Value} {v2 : Int} {p1 : Nat} {x : Nat} (hp1 : iFan p1) (hx : iPic x)  : gv d rR76 0 [some (.ref x), some (.ref p1), some (.int (iI v2)), u3, u4, u5] [] (mk m q w) =
    gv d rR76 5 [some (.ref x), some (.ref p1), some (.int (iI v2)), some (.int (iI 0)), some (.int (iI 0)), u5] [] (mk m q w) := by
  refine Eq.trans (k_con rfl) ?_
  refine Eq.trans (k_ist3 rfl) ?_
  refine Eq.trans (k_con rfl) ?_
  refine Eq.trans (k_ist4 rfl) ?_
  exact rfl
theorem b_76_5 {d : Nat} {m : Nat → Nat → Int} {q : Nat → Nat → Option Nat} {w : Option (Nat → Int64)} {u5 : Option Value} {v2 v3 v4 : Int} {p1 : Nat} {x : Nat} (hp1 : iFan p1) (hx : iPic x)  : gv d rR76 5 [some (.ref x), some (.ref p1), some (.int (iI v2)), some (.int (iI v3)), some (.int (iI v4)), u5] [] (mk m q w) =
    if iI v4 < iI (m p1 0) then (rBd (ev d 75 [.ref x, .int (iI v4)] (mk m q w)) (fun v M' => gv d rR76 20 [some (.ref x), some (.ref p1), some (.int (iI v2)), some (.int (iI v3)), some (.int (iI v4)), u5] (v.toList ++ []) M')) else (some (.inl (some (.int (iI v3))), (mk m q w, (0, 0)))) := by
  refine Eq.trans (k_ild4 rfl) ?_
  refine Eq.trans (k_ald1 rfl) ?_
  refine Eq.trans (k_gtI rfl (fan_0 hp1) rfl (by decide)) ?_
  refine Eq.trans (k_i2ge rfl rfl) ?_
  refine ifc ?_ ?_
  · refine Eq.trans (k_ald0 rfl) ?_
    refine Eq.trans (k_ild4 rfl) ?_
    exact k_cV1 rfl (pic_0 hx) q_75 rfl rfl rfl (bl rfl)
  · refine Eq.trans (k_ild3 rfl) ?_
    exact k_rtI rfl rfl
theorem b_76_20 {d : Nat} {m : Nat → Nat → Int} {q : Nat → Nat → Option Nat} {w : Option (Nat → Int64)} {u5 : Option Value} {v2 v3 v4 s0 : Int} {p1 : Nat} {x : Nat} (hp1 : iFan p1) (hx : iPic x)  : gv d rR76 20 [some (.ref x), some (.ref p1), some (.int (iI v2)), some (.int (iI v3)), some (.int (iI v4)), u5] [.int (iI s0)] (mk m q w) =
    if iI s0 = iI 16 then (gv d rR76 44 [some (.ref x), some (.ref p1), some (.int (iI v2)), some (.int (iI v3)), some (.int (iI v4)), some (.int (iI s0))] [] (mk m q w)) else (rBd (ev d 19 [.ref p1, .int (iI v2), .int (iI v4)] (mk m q w)) (fun v M' => gv d rR76 38 [some (.ref x), some (.ref p1), some (.int (iI v2)), some (.int (iI v3)), some (.int (iI v4)), some (.int (iI s0))] (v.toList ++ [.int (iI s0)]) M')) := by
  refine Eq.trans (k_ist5 rfl) ?_
  refine Eq.trans (k_ild5 rfl) ?_
  refine Eq.trans (k_bip rfl (by decide)) ?_
  refine Eq.trans (k_i2eq rfl rfl) ?_
  refine ifc ?_ ?_
  · exact rfl
  · refine Eq.trans (k_ild5 rfl) ?_
    refine Eq.trans (k_ald1 rfl) ?_
    refine Eq.trans (k_ild2 rfl) ?_
    refine Eq.trans (k_ild4 rfl) ?_
    exact k_cV2 rfl (fan_0 hp1) q_19 rfl rfl rfl (bl rfl)
theorem b_76_38 {d : Nat} {m : Nat → Nat → Int} {q : Nat → Nat → Option Nat} {w : Option (Nat → Int64)} {u5 : Option Value} {v2 v3 v4 s0 s1 : Int} {p1 : Nat} {x : Nat} (hp1 : iFan p1) (hx : iPic x)  : gv d rR76 38 [some (.ref x), some (.ref p1), some (.int (iI v2)), some (.int (iI v3)), some (.int (iI v4)), u5] [.int (iI s1), .int (iI s0)] (mk m q w) =
    if iI s0 = iI s1 then (gv d rR76 44 [some (.ref x), some (.ref p1), some (.int (iI v2)), some (.int (iI v3)), some (.int (iI v4)), u5] [] (mk m q w)) else (gv d rR76 44 [some (.ref x), some (.ref p1), some (.int (iI v2)), some (.int (iI (v3 + 1))), some (.int (iI v4)), u5] [] (mk m q w)) := by
  refine Eq.trans (k_i2eq rfl rfl) ?_
  refine ifc ?_ ?_
  · exact rfl
  · refine Eq.trans (k_inc3 rfl) ?_
    exact rfl
theorem b_76_44 {d : Nat} {m : Nat → Nat → Int} {q : Nat → Nat → Option Nat} {w : Option (Nat → Int64)} {u5 : Option Value} {v2 v3 v4 : Int} {p1 : Nat} {x : Nat} (hp1 : iFan p1) (hx : iPic x)  : gv d rR76 44 [some (.ref x), some (.ref p1), some (.int (iI v2)), some (.int (iI v3)), some (.int (iI v4)), u5] [] (mk m q w) =
    gv d rR76 5 [some (.ref x), some (.ref p1), some (.int (iI v2)), some (.int (iI v3)), some (.int (iI (v4 + 1))), u5] [] (mk m q w) := by
  refine Eq.trans (k_inc4 rfl) ?_
  refine Eq.trans (k_go rfl rfl) ?_
  exact rfl
theorem e_76 {d : Nat} (hd : 1 ≤ d) {a0 a1 a2 : Value} (M : rMem) (h0 : a0.category = 1) (h1 : a1.category = 1) (h2 : a2.category = 1) : ev d 76 [a0, a1, a2] M = gv (d - 1) rR76 0 [some a0, some a1, some a2, none, none, none] [] M := ev_at hd q_76 rfl (by simp [*]) rfl
/-! FanHouse$Picture.isShownBy(LFanHouse$Fan;I)Z -/
theorem b_77_0 {d : Nat} {m : Nat → Nat → Int} {q : Nat → Nat → Option Nat} {w : Option (Nat → Int64)} {v2 : Int} {p1 : Nat} {x : Nat} (hp1 : iFan p1) (hx : iPic x)  : gv d rR77 0 [some (.ref x), some (.ref p1), some (.int (iI v2))] [] (mk m q w) =
    if iI (m p1 0) < iI (m x 1) then (gv d rR77 24 [some (.ref x), some (.ref p1), some (.int (iI v2))] [] (mk m q w)) else (rBd (ev d 76 [.ref x, .ref p1, .int (iI v2)] (mk m q w)) (fun v M' => gv d rR77 17 [some (.ref x), some (.ref p1), some (.int (iI v2))] (v.toList ++ []) M')) := by
  refine Eq.trans (k_ald0 rfl) ?_
  refine Eq.trans (k_gtI rfl (pic_0 hx) rfl (by decide)) ?_
  refine Eq.trans (k_ald1 rfl) ?_
  refine Eq.trans (k_gtI rfl (fan_0 hp1) rfl (by decide)) ?_
  refine Eq.trans (k_i2gt rfl rfl) ?_
  refine ifc ?_ ?_
  · exact rfl
  · refine Eq.trans (k_ald0 rfl) ?_
    refine Eq.trans (k_ald1 rfl) ?_
    refine Eq.trans (k_ild2 rfl) ?_
    exact k_cV2 rfl (pic_0 hx) q_76 rfl rfl rfl (bl rfl)
theorem b_77_17 {d : Nat} {m : Nat → Nat → Int} {q : Nat → Nat → Option Nat} {w : Option (Nat → Int64)} {u0 u1 u2 : Option Value} {s0 : Int}   : gv d rR77 17 [u0, u1, u2] [.int (iI s0)] (mk m q w) =
    if iI s0 = iI 0 then (gv d rR77 25 [u0, u1, u2] [.int (iI 1)] (mk m q w)) else (gv d rR77 24 [u0, u1, u2] [] (mk m q w)) := by
  refine Eq.trans (k_i1ne rfl rfl) ?_
  refine ifc ?_ ?_
  · refine Eq.trans (k_con rfl) ?_
    refine Eq.trans (k_go rfl rfl) ?_
    exact rfl
  · exact rfl
theorem b_77_24 {d : Nat} {m : Nat → Nat → Int} {q : Nat → Nat → Option Nat} {w : Option (Nat → Int64)} {u0 u1 u2 : Option Value}   : gv d rR77 24 [u0, u1, u2] [] (mk m q w) =
    gv d rR77 25 [u0, u1, u2] [.int (iI 0)] (mk m q w) := by
  refine Eq.trans (k_con rfl) ?_
  exact rfl
theorem b_77_25 {d : Nat} {m : Nat → Nat → Int} {q : Nat → Nat → Option Nat} {w : Option (Nat → Int64)} {u0 u1 u2 : Option Value} {s0 : Int}  (g0 : iI s0 = iI 0 ∨ iI s0 = iI 1) : gv d rR77 25 [u0, u1, u2] [.int (iI s0)] (mk m q w) =
    some (.inl (some (.int (iI s0))), (mk m q w, (0, 0))) := by
  exact k_rtZ rfl rfl g0
theorem e_77 {d : Nat} (hd : 1 ≤ d) {a0 a1 a2 : Value} (M : rMem) (h0 : a0.category = 1) (h1 : a1.category = 1) (h2 : a2.category = 1) : ev d 77 [a0, a1, a2] M = gv (d - 1) rR77 0 [some a0, some a1, some a2] [] M := ev_at hd q_77 rfl (by simp [*]) rfl
/-! FanHouse$Tape.hasRoom()Z -/
theorem b_80_0 {d : Nat} {m : Nat → Nat → Int} {q : Nat → Nat → Option Nat} {w : Option (Nat → Int64)}   : gv d rR80 0 [some (.ref 101)] [] (mk m q w) =
    if iI 600 < iI ((m 101 1) + 20) then (gv d rR80 18 [some (.ref 101)] [.int (iI 0)] (mk m q w)) else (gv d rR80 18 [some (.ref 101)] [.int (iI 1)] (mk m q w)) := by
  refine Eq.trans (k_ald0 rfl) ?_
  refine Eq.trans (k_gtI rfl s_101 rfl (by decide)) ?_
  refine Eq.trans (k_bip rfl (by decide)) ?_
  refine Eq.trans (k_add rfl) ?_
  refine Eq.trans (k_sip rfl (by decide)) ?_
  refine Eq.trans (k_i2gt rfl rfl) ?_
  refine ifc ?_ ?_
  · refine Eq.trans (k_con rfl) ?_
    exact rfl
  · refine Eq.trans (k_con rfl) ?_
    refine Eq.trans (k_go rfl rfl) ?_
    exact rfl
theorem b_80_18 {d : Nat} {m : Nat → Nat → Int} {q : Nat → Nat → Option Nat} {w : Option (Nat → Int64)} {u0 : Option Value} {s0 : Int}  (g0 : iI s0 = iI 0 ∨ iI s0 = iI 1) : gv d rR80 18 [u0] [.int (iI s0)] (mk m q w) =
    some (.inl (some (.int (iI s0))), (mk m q w, (0, 0))) := by
  exact k_rtZ rfl rfl g0
theorem e_80 {d : Nat} (hd : 1 ≤ d) {a0 : Value} (M : rMem) (h0 : a0.category = 1) : ev d 80 [a0] M = gv (d - 1) rR80 0 [some a0] [] M := ev_at hd q_80 rfl (by simp [*]) rfl
/-! FanHouse$Tape.put(I)V -/
theorem b_81_0 {d : Nat} {m : Nat → Nat → Int} {q : Nat → Nat → Option Nat} {w : Option (Nat → Int64)} {u2 : Option Value} {v1 : Int}   : gv d rR81 0 [some (.ref 101), some (.int (iI v1)), u2] [] (mk m q w) =
    gv d rR81 3 [some (.ref 101), some (.int (iI v1)), some (.int (iI 24))] [] (mk m q w) := by
  refine Eq.trans (k_bip rfl (by decide)) ?_
  refine Eq.trans (k_ist2 rfl) ?_
  exact rfl
theorem b_81_3 {d : Nat} {m : Nat → Nat → Int} {q : Nat → Nat → Option Nat} {w : Option (Nat → Int64)} {v1 v2 : Int}   : gv d rR81 3 [some (.ref 101), some (.int (iI v1)), some (.int (iI v2))] [] (mk m q w) =
    if iI v2 < iI 0 then (gv d rR81 49 [some (.ref 101), some (.int (iI v1)), some (.int (iI v2))] [] (mk m q w)) else (if iI (m 101 1) < iI 600 then (gv d rR81 17 [some (.ref 101), some (.int (iI v1)), some (.int (iI v2))] [] (mk m q w)) else (gv d rR81 49 [some (.ref 101), some (.int (iI v1)), some (.int (iI v2))] [] (mk m q w))) := by
  refine Eq.trans (k_ild2 rfl) ?_
  refine Eq.trans (k_i1lt rfl rfl) ?_
  refine ifc ?_ ?_
  · exact rfl
  · refine Eq.trans (k_ald0 rfl) ?_
    refine Eq.trans (k_gtI rfl s_101 rfl (by decide)) ?_
    refine Eq.trans (k_sip rfl (by decide)) ?_
    refine Eq.trans (k_i2ge rfl rfl) ?_
    refine ifc ?_ ?_
    · exact rfl
    · exact rfl
theorem b_81_17 {d : Nat} {m : Nat → Nat → Int} {q : Nat → Nat → Option Nat} {w : Option (Nat → Int64)} {v1 v2 : Int}  (g0 : 0 ≤ (m 101 1)) (g1 : (m 101 1) < 600) : gv d rR81 17 [some (.ref 101), some (.int (iI v1)), some (.int (iI v2))] [] (mk m q w) =
    gv d rR81 3 [some (.ref 101), some (.int (iI v1)), some (.int (iI (v2 + (-8))))] [] (mk (wr (wr m 102 (Int.toNat (m 101 1)) (zAnd (zUsh v1 v2) 255)) 101 1 (((wr m 102 (Int.toNat (m 101 1)) (zAnd (zUsh v1 v2) 255)) 101 1) + 1)) q w) := by
  refine Eq.trans (k_ald0 rfl) ?_
  refine Eq.trans (k_gtR rfl s_101 rfl (by decide)) ?_
  refine Eq.trans (k_ald0 rfl) ?_
  refine Eq.trans (k_gtI rfl s_101 rfl (by decide)) ?_
  refine Eq.trans (k_ild1 rfl) ?_
  refine Eq.trans (k_ild2 rfl) ?_
  refine Eq.trans (k_ush rfl) ?_
  refine Eq.trans (k_sip rfl (by decide)) ?_
  refine Eq.trans (k_and rfl) ?_
  refine Eq.trans (k_iast rfl s_102 (bl rfl) g0 g1) ?_
  refine Eq.trans (k_ald0 rfl) ?_
  refine Eq.trans (k_dup rfl rfl) ?_
  refine Eq.trans (k_gtI rfl s_101 rfl (by decide)) ?_
  refine Eq.trans (k_con rfl) ?_
  refine Eq.trans (k_add rfl) ?_
  refine Eq.trans (k_ptI rfl s_101 rfl rfl) ?_
  refine Eq.trans (k_inc2 rfl) ?_
  refine Eq.trans (k_go rfl rfl) ?_
  exact rfl
theorem b_81_49 {d : Nat} {m : Nat → Nat → Int} {q : Nat → Nat → Option Nat} {w : Option (Nat → Int64)} {u0 u1 u2 : Option Value}   : gv d rR81 49 [u0, u1, u2] [] (mk m q w) =
    some (.inl none, (mk m q w, (0, 0))) := by
  exact k_rtV rfl rfl
theorem e_81 {d : Nat} (hd : 1 ≤ d) {a0 a1 : Value} (M : rMem) (h0 : a0.category = 1) (h1 : a1.category = 1) : ev d 81 [a0, a1] M = gv (d - 1) rR81 0 [some a0, some a1, none] [] M := ev_at hd q_81 rfl (by simp [*]) rfl
/-! FanHouse$Tape.holds(II)Z -/
theorem b_82_0 {d : Nat} {m : Nat → Nat → Int} {q : Nat → Nat → Option Nat} {w : Option (Nat → Int64)} {v1 v2 : Int}   : gv d rR82 0 [some (.ref 101), some (.int (iI v1)), some (.int (iI v2))] [] (mk m q w) =
    if iI v1 < iI 0 then (gv d rR82 21 [some (.ref 101), some (.int (iI v1)), some (.int (iI v2))] [] (mk m q w)) else (if iI v2 < iI v1 then (gv d rR82 21 [some (.ref 101), some (.int (iI v1)), some (.int (iI v2))] [] (mk m q w)) else (if iI (m 101 1) < iI v1 then (gv d rR82 21 [some (.ref 101), some (.int (iI v1)), some (.int (iI v2))] [] (mk m q w)) else (gv d rR82 22 [some (.ref 101), some (.int (iI v1)), some (.int (iI v2))] [.int (iI 1)] (mk m q w)))) := by
  refine Eq.trans (k_ild1 rfl) ?_
  refine Eq.trans (k_i1lt rfl rfl) ?_
  refine ifc ?_ ?_
  · exact rfl
  · refine Eq.trans (k_ild1 rfl) ?_
    refine Eq.trans (k_ild2 rfl) ?_
    refine Eq.trans (k_i2gt rfl rfl) ?_
    refine ifc ?_ ?_
    · exact rfl
    · refine Eq.trans (k_ild1 rfl) ?_
      refine Eq.trans (k_ald0 rfl) ?_
      refine Eq.trans (k_gtI rfl s_101 rfl (by decide)) ?_
      refine Eq.trans (k_i2gt rfl rfl) ?_
      refine ifc ?_ ?_
      · exact rfl
      · refine Eq.trans (k_con rfl) ?_
        refine Eq.trans (k_go rfl rfl) ?_
        exact rfl
theorem b_82_21 {d : Nat} {m : Nat → Nat → Int} {q : Nat → Nat → Option Nat} {w : Option (Nat → Int64)} {u0 u1 u2 : Option Value}   : gv d rR82 21 [u0, u1, u2] [] (mk m q w) =
    gv d rR82 22 [u0, u1, u2] [.int (iI 0)] (mk m q w) := by
  refine Eq.trans (k_con rfl) ?_
  exact rfl
theorem b_82_22 {d : Nat} {m : Nat → Nat → Int} {q : Nat → Nat → Option Nat} {w : Option (Nat → Int64)} {u0 u1 u2 : Option Value} {s0 : Int}  (g0 : iI s0 = iI 0 ∨ iI s0 = iI 1) : gv d rR82 22 [u0, u1, u2] [.int (iI s0)] (mk m q w) =
    some (.inl (some (.int (iI s0))), (mk m q w, (0, 0))) := by
  exact k_rtZ rfl rfl g0
theorem e_82 {d : Nat} (hd : 1 ≤ d) {a0 a1 a2 : Value} (M : rMem) (h0 : a0.category = 1) (h1 : a1.category = 1) (h2 : a2.category = 1) : ev d 82 [a0, a1, a2] M = gv (d - 1) rR82 0 [some a0, some a1, some a2] [] M := ev_at hd q_82 rfl (by simp [*]) rfl
/-! FanHouse$Tape.begin(I)V -/
theorem b_83_0 {d : Nat} {m : Nat → Nat → Int} {q : Nat → Nat → Option Nat} {w : Option (Nat → Int64)} {v1 : Int}  (g0 : 9 ≤ d) : gv d rR83 0 [some (.ref 101), some (.int (iI v1))] [] (mk m q w) =
    some (.inl none, (mk (wr (wr (wr (wr m 101 2 (if iI (m 101 1) < iI v1 then (m 101 1) else v1)) 101 3 0) 101 4 0) 101 5 (-1)) q w, (0, 0))) := by
  refine Eq.trans (k_ald0 rfl) ?_
  refine Eq.trans (k_ild1 rfl) ?_
  refine Eq.trans (k_ald0 rfl) ?_
  refine Eq.trans (k_gtI rfl s_101 rfl (by decide)) ?_
  refine Eq.trans (k_min rfl g0 (bl rfl)) ?_
  refine Eq.trans (k_ptI rfl s_101 rfl rfl) ?_
  refine Eq.trans (k_ald0 rfl) ?_
  refine Eq.trans (k_con rfl) ?_
  refine Eq.trans (k_ptI rfl s_101 rfl rfl) ?_
  refine Eq.trans (k_ald0 rfl) ?_
  refine Eq.trans (k_con rfl) ?_
  refine Eq.trans (k_ptI rfl s_101 rfl rfl) ?_
  refine Eq.trans (k_ald0 rfl) ?_
  refine Eq.trans (k_con rfl) ?_
  refine Eq.trans (k_ptI rfl s_101 rfl rfl) ?_
  exact k_rtV rfl rfl
theorem e_83 {d : Nat} (hd : 1 ≤ d) {a0 a1 : Value} (M : rMem) (h0 : a0.category = 1) (h1 : a1.category = 1) : ev d 83 [a0, a1] M = gv (d - 1) rR83 0 [some a0, some a1] [] M := ev_at hd q_83 rfl (by simp [*]) rfl
/-! FanHouse$Tape.isAtEnd()Z -/
theorem b_84_0 {d : Nat} {m : Nat → Nat → Int} {q : Nat → Nat → Option Nat} {w : Option (Nat → Int64)}   : gv d rR84 0 [some (.ref 101)] [] (mk m q w) =
    rBd (ev d 2 [.ref 101] (mk m q w)) (fun v M' => gv d rR84 4 [some (.ref 101)] (v.toList ++ []) M') := by
  refine Eq.trans (k_ald0 rfl) ?_
  exact k_cV0 rfl s_101 q_2 rfl rfl rfl (bl rfl)
theorem b_84_4 {d : Nat} {m : Nat → Nat → Int} {q : Nat → Nat → Option Nat} {w : Option (Nat → Int64)} {s0 : Int}   : gv d rR84 4 [some (.ref 101)] [.int (iI s0)] (mk m q w) =
    if iI s0 < iI (m 101 2) then (gv d rR84 16 [some (.ref 101)] [.int (iI 0)] (mk m q w)) else (gv d rR84 16 [some (.ref 101)] [.int (iI 1)] (mk m q w)) := by
  refine Eq.trans (k_ald0 rfl) ?_
  refine Eq.trans (k_gtI rfl s_101 rfl (by decide)) ?_
  refine Eq.trans (k_i2lt rfl rfl) ?_
  refine ifc ?_ ?_
  · refine Eq.trans (k_con rfl) ?_
    exact rfl
  · refine Eq.trans (k_con rfl) ?_
    refine Eq.trans (k_go rfl rfl) ?_
    exact rfl
theorem b_84_16 {d : Nat} {m : Nat → Nat → Int} {q : Nat → Nat → Option Nat} {w : Option (Nat → Int64)} {u0 : Option Value} {s0 : Int}  (g0 : iI s0 = iI 0 ∨ iI s0 = iI 1) : gv d rR84 16 [u0] [.int (iI s0)] (mk m q w) =
    some (.inl (some (.int (iI s0))), (mk m q w, (0, 0))) := by
  exact k_rtZ rfl rfl g0
theorem e_84 {d : Nat} (hd : 1 ≤ d) {a0 : Value} (M : rMem) (h0 : a0.category = 1) : ev d 84 [a0] M = gv (d - 1) rR84 0 [some a0] [] M := ev_at hd q_84 rfl (by simp [*]) rfl
/-! FanHouse$Tape.finish()Z -/
theorem b_85_0 {d : Nat} {m : Nat → Nat → Int} {q : Nat → Nat → Option Nat} {w : Option (Nat → Int64)}   : gv d rR85 0 [some (.ref 101)] [] (mk m q w) =
    rBd (ev d 84 [.ref 101] (mk m q w)) (fun v M' => gv d rR85 4 [some (.ref 101)] (v.toList ++ []) M') := by
  refine Eq.trans (k_ald0 rfl) ?_
  exact k_cV0 rfl s_101 q_84 rfl rfl rfl (bl rfl)
theorem b_85_4 {d : Nat} {m : Nat → Nat → Int} {q : Nat → Nat → Option Nat} {w : Option (Nat → Int64)} {s0 : Int}   : gv d rR85 4 [some (.ref 101)] [.int (iI s0)] (mk m q w) =
    if iI s0 = iI 0 then (rBd (ev d 5 [.ref 101, .int (iI 1), .int (iI (m 101 3))] (mk m q w)) (fun v M' => gv d rR85 16 [some (.ref 101)] (v.toList ++ []) M')) else (gv d rR85 16 [some (.ref 101)] [] (mk m q w)) := by
  refine Eq.trans (k_i1ne rfl rfl) ?_
  refine ifc ?_ ?_
  · refine Eq.trans (k_ald0 rfl) ?_
    refine Eq.trans (k_con rfl) ?_
    refine Eq.trans (k_ald0 rfl) ?_
    refine Eq.trans (k_gtI rfl s_101 rfl (by decide)) ?_
    exact k_cV2 rfl s_101 q_5 rfl rfl rfl (bl rfl)
  · exact rfl
theorem b_85_16 {d : Nat} {m : Nat → Nat → Int} {q : Nat → Nat → Option Nat} {w : Option (Nat → Int64)}   : gv d rR85 16 [some (.ref 101)] [] (mk m q w) =
    if iI ((wr m 101 1 0) 101 4) = iI 0 then (gv d rR85 33 [some (.ref 101)] [.int (iI 0)] (mk (wr m 101 1 0) q w)) else (gv d rR85 33 [some (.ref 101)] [.int (iI 1)] (mk (wr m 101 1 0) q w)) := by
  refine Eq.trans (k_ald0 rfl) ?_
  refine Eq.trans (k_con rfl) ?_
  refine Eq.trans (k_ptI rfl s_101 rfl rfl) ?_
  refine Eq.trans (k_ald0 rfl) ?_
  refine Eq.trans (k_gtI rfl s_101 rfl (by decide)) ?_
  refine Eq.trans (k_i1eq rfl rfl) ?_
  refine ifc ?_ ?_
  · refine Eq.trans (k_con rfl) ?_
    exact rfl
  · refine Eq.trans (k_con rfl) ?_
    refine Eq.trans (k_go rfl rfl) ?_
    exact rfl
theorem b_85_33 {d : Nat} {m : Nat → Nat → Int} {q : Nat → Nat → Option Nat} {w : Option (Nat → Int64)} {u0 : Option Value} {s0 : Int}  (g0 : iI s0 = iI 0 ∨ iI s0 = iI 1) : gv d rR85 33 [u0] [.int (iI s0)] (mk m q w) =
    some (.inl (some (.int (iI s0))), (mk m q w, (0, 0))) := by
  exact k_rtZ rfl rfl g0
theorem e_85 {d : Nat} (hd : 1 ≤ d) {a0 : Value} (M : rMem) (h0 : a0.category = 1) : ev d 85 [a0] M = gv (d - 1) rR85 0 [some a0] [] M := ev_at hd q_85 rfl (by simp [*]) rfl
/-! FanHouse$Tape.faultAnswer()I -/
theorem b_86_0 {d : Nat} {m : Nat → Nat → Int} {q : Nat → Nat → Option Nat} {w : Option (Nat → Int64)}   : gv d rR86 0 [some (.ref 101)] [] (mk m q w) =
    some (.inl (some (.int (iI ((m 101 4) - 10)))), (mk m q w, (0, 0))) := by
  refine Eq.trans (k_ald0 rfl) ?_
  refine Eq.trans (k_gtI rfl s_101 rfl (by decide)) ?_
  refine Eq.trans (k_bip rfl (by decide)) ?_
  refine Eq.trans (k_sub rfl) ?_
  exact k_rtI rfl rfl
theorem e_86 {d : Nat} (hd : 1 ≤ d) {a0 : Value} (M : rMem) (h0 : a0.category = 1) : ev d 86 [a0] M = gv (d - 1) rR86 0 [some a0] [] M := ev_at hd q_86 rfl (by simp [*]) rfl
/-! FanHouse$Ways.begin(LFanHouse$Fan;)V -/
theorem b_88_0 {d : Nat} {m : Nat → Nat → Int} {q : Nat → Nat → Option Nat} {w : Option (Nat → Int64)} {p1 : Nat} (hp1 : iFan p1)  : gv d rR88 0 [some (.ref 164), some (.ref p1)] [] (mk m q w) =
    rBd (ev d 22 [.ref 165, .ref p1] (mk m q w)) (fun v M' => gv d rR88 8 [some (.ref 164), some (.ref p1)] (v.toList ++ []) M') := by
  refine Eq.trans (k_ald0 rfl) ?_
  refine Eq.trans (k_gtR rfl s_164 rfl (by decide)) ?_
  refine Eq.trans (k_ald1 rfl) ?_
  exact k_cV1 rfl s_165 q_22 rfl rfl rfl (bl rfl)
theorem b_88_8 {d : Nat} {m : Nat → Nat → Int} {q : Nat → Nat → Option Nat} {w : Option (Nat → Int64)} {p1 : Nat} (hp1 : iFan p1)  : gv d rR88 8 [some (.ref 164), some (.ref p1)] [] (mk m q w) =
    rBd (ev d 56 [.ref 168, .int (iI 3)] (mk (wr m 164 1 (m p1 0)) q w)) (fun v M' => gv d rR88 24 [some (.ref 164), some (.ref p1)] (v.toList ++ []) M') := by
  refine Eq.trans (k_ald0 rfl) ?_
  refine Eq.trans (k_ald1 rfl) ?_
  refine Eq.trans (k_gtI rfl (fan_0 hp1) rfl (by decide)) ?_
  refine Eq.trans (k_ptI rfl s_164 rfl rfl) ?_
  refine Eq.trans (k_ald0 rfl) ?_
  refine Eq.trans (k_gtR rfl s_164 rfl (by decide)) ?_
  refine Eq.trans (k_con rfl) ?_
  exact k_cS2 rfl (by decide) q_56 rfl rfl (bl rfl)
theorem b_88_24 {d : Nat} {m : Nat → Nat → Int} {q : Nat → Nat → Option Nat} {w : Option (Nat → Int64)} {u0 u1 : Option Value}   : gv d rR88 24 [u0, u1] [] (mk m q w) =
    some (.inl none, (mk m q w, (0, 0))) := by
  exact k_rtV rfl rfl
theorem e_88 {d : Nat} (hd : 1 ≤ d) {a0 a1 : Value} (M : rMem) (h0 : a0.category = 1) (h1 : a1.category = 1) : ev d 88 [a0, a1] M = gv (d - 1) rR88 0 [some a0, some a1] [] M := ev_at hd q_88 rfl (by simp [*]) rfl
/-! FanHouse$Ways.fitting(III)I -/
theorem b_89_0 {d : Nat} {m : Nat → Nat → Int} {q : Nat → Nat → Option Nat} {w : Option (Nat → Int64)} {u4 u5 : Option Value} {v1 v2 v3 : Int}   : gv d rR89 0 [some (.ref 164), some (.int (iI v1)), some (.int (iI v2)), some (.int (iI v3)), u4, u5] [] (mk m q w) =
    if iI v3 = iI 16 then (some (.inl (some (.int (iI 3))), (mk m q w, (0, 0)))) else (rBd (ev d 17 [.ref 165, .int (iI v1), .int (iI v2)] (mk m q w)) (fun v M' => gv d rR89 17 [some (.ref 164), some (.int (iI v1)), some (.int (iI v2)), some (.int (iI v3)), u4, u5] (v.toList ++ []) M')) := by
  refine Eq.trans (k_ild3 rfl) ?_
  refine Eq.trans (k_bip rfl (by decide)) ?_
  refine Eq.trans (k_i2ne rfl rfl) ?_
  refine ifc ?_ ?_
  · refine Eq.trans (k_con rfl) ?_
    exact k_rtI rfl rfl
  · refine Eq.trans (k_ald0 rfl) ?_
    refine Eq.trans (k_gtR rfl s_164 rfl (by decide)) ?_
    refine Eq.trans (k_ild1 rfl) ?_
    refine Eq.trans (k_ild2 rfl) ?_
    exact k_cV2 rfl s_165 q_17 rfl rfl rfl (bl rfl)
theorem b_89_17 {d : Nat} {m : Nat → Nat → Int} {q : Nat → Nat → Option Nat} {w : Option (Nat → Int64)} {u4 u5 : Option Value} {v1 v2 v3 s0 : Int}   : gv d rR89 17 [some (.ref 164), some (.int (iI v1)), some (.int (iI v2)), some (.int (iI v3)), u4, u5] [.int (iI s0)] (mk m q w) =
    if iI s0 = iI v3 then (gv d rR89 26 [some (.ref 164), some (.int (iI v1)), some (.int (iI v2)), some (.int (iI v3)), u4, u5] [.int (iI 1)] (mk m q w)) else (gv d rR89 26 [some (.ref 164), some (.int (iI v1)), some (.int (iI v2)), some (.int (iI v3)), u4, u5] [.int (iI 0)] (mk m q w)) := by
  refine Eq.trans (k_ild3 rfl) ?_
  refine Eq.trans (k_i2ne rfl rfl) ?_
  refine ifc ?_ ?_
  · refine Eq.trans (k_con rfl) ?_
    refine Eq.trans (k_go rfl rfl) ?_
    exact rfl
  · refine Eq.trans (k_con rfl) ?_
    exact rfl
theorem b_89_26 {d : Nat} {m : Nat → Nat → Int} {q : Nat → Nat → Option Nat} {w : Option (Nat → Int64)} {u4 u5 : Option Value} {v1 v2 v3 s0 : Int}   : gv d rR89 26 [some (.ref 164), some (.int (iI v1)), some (.int (iI v2)), some (.int (iI v3)), u4, u5] [.int (iI s0)] (mk m q w) =
    rBd (ev d 17 [.ref 165, .int (iI v1), .int (iI (3 - v2))] (mk m q w)) (fun v M' => gv d rR89 39 [some (.ref 164), some (.int (iI v1)), some (.int (iI v2)), some (.int (iI v3)), some (.int (iI s0)), u5] (v.toList ++ []) M') := by
  refine Eq.trans (k_ist4 rfl) ?_
  refine Eq.trans (k_ald0 rfl) ?_
  refine Eq.trans (k_gtR rfl s_164 rfl (by decide)) ?_
  refine Eq.trans (k_ild1 rfl) ?_
  refine Eq.trans (k_con rfl) ?_
  refine Eq.trans (k_ild2 rfl) ?_
  refine Eq.trans (k_sub rfl) ?_
  exact k_cV2 rfl s_165 q_17 rfl rfl rfl (bl rfl)
theorem b_89_39 {d : Nat} {m : Nat → Nat → Int} {q : Nat → Nat → Option Nat} {w : Option (Nat → Int64)} {u0 u1 u2 u5 : Option Value} {v3 v4 s0 : Int}   : gv d rR89 39 [u0, u1, u2, some (.int (iI v3)), some (.int (iI v4)), u5] [.int (iI s0)] (mk m q w) =
    if iI s0 = iI v3 then (gv d rR89 48 [u0, u1, u2, some (.int (iI v3)), some (.int (iI v4)), u5] [.int (iI 2)] (mk m q w)) else (gv d rR89 48 [u0, u1, u2, some (.int (iI v3)), some (.int (iI v4)), u5] [.int (iI 0)] (mk m q w)) := by
  refine Eq.trans (k_ild3 rfl) ?_
  refine Eq.trans (k_i2ne rfl rfl) ?_
  refine ifc ?_ ?_
  · refine Eq.trans (k_con rfl) ?_
    refine Eq.trans (k_go rfl rfl) ?_
    exact rfl
  · refine Eq.trans (k_con rfl) ?_
    exact rfl
theorem b_89_48 {d : Nat} {m : Nat → Nat → Int} {q : Nat → Nat → Option Nat} {w : Option (Nat → Int64)} {u0 u1 u2 u3 u5 : Option Value} {v4 s0 : Int}   : gv d rR89 48 [u0, u1, u2, u3, some (.int (iI v4)), u5] [.int (iI s0)] (mk m q w) =
    some (.inl (some (.int (iI (zOr v4 s0)))), (mk m q w, (0, 0))) := by
  refine Eq.trans (k_ist5 rfl) ?_
  refine Eq.trans (k_ild4 rfl) ?_
  refine Eq.trans (k_ild5 rfl) ?_
  refine Eq.trans (k_ior rfl) ?_
  exact k_rtI rfl rfl
theorem e_89 {d : Nat} (hd : 1 ≤ d) {a0 a1 a2 a3 : Value} (M : rMem) (h0 : a0.category = 1) (h1 : a1.category = 1) (h2 : a2.category = 1) (h3 : a3.category = 1) : ev d 89 [a0, a1, a2, a3] M = gv (d - 1) rR89 0 [some a0, some a1, some a2, some a3, none, none] [] M := ev_at hd q_89 rfl (by simp [*]) rfl
/-! FanHouse$Ways.narrow(ILFanHouse$Picture;)Z -/
theorem b_90_0 {d : Nat} {m : Nat → Nat → Int} {q : Nat → Nat → Option Nat} {w : Option (Nat → Int64)} {u3 u4 u5 u6 : Option Value} {v1 : Int} {p2 : Nat} (hp2 : iPic p2)  : gv d rR90 0 [some (.ref 164), some (.int (iI v1)), some (.ref p2), u3, u4, u5, u6] [] (mk m q w) =
    if iI (m 164 1) < iI (m p2 1) then (some (.inl (some (.int (iI 0))), (mk m q w, (0, 0)))) else (gv d rR90 15 [some (.ref 164), some (.int (iI v1)), some (.ref p2), some (.int (iI 0)), u4, u5, u6] [] (mk m q w)) := by
  refine Eq.trans (k_ald2 rfl) ?_
  refine Eq.trans (k_gtI rfl (pic_0 hp2) rfl (by decide)) ?_
  refine Eq.trans (k_ald0 rfl) ?_
  refine Eq.trans (k_gtI rfl s_164 rfl (by decide)) ?_
  refine Eq.trans (k_i2le rfl rfl) ?_
  refine ifc ?_ ?_
  · refine Eq.trans (k_con rfl) ?_
    exact k_rtZ rfl rfl (Or.inl rfl)
  · refine Eq.trans (k_con rfl) ?_
    refine Eq.trans (k_ist3 rfl) ?_
    exact rfl
theorem b_90_15 {d : Nat} {m : Nat → Nat → Int} {q : Nat → Nat → Option Nat} {w : Option (Nat → Int64)} {u4 u5 u6 : Option Value} {v1 v3 : Int} {p2 : Nat} (hp2 : iPic p2)  : gv d rR90 15 [some (.ref 164), some (.int (iI v1)), some (.ref p2), some (.int (iI v3)), u4, u5, u6] [] (mk m q w) =
    if iI v3 < iI (m p2 1) then (rBd (ev d 12 [.ref 165, .int (iI v1), .int (iI v3)] (mk m q w)) (fun v M' => gv d rR90 32 [some (.ref 164), some (.int (iI v1)), some (.ref p2), some (.int (iI v3)), u4, u5, u6] (v.toList ++ []) M')) else (some (.inl (some (.int (iI 1))), (mk m q w, (0, 0)))) := by
  refine Eq.trans (k_ild3 rfl) ?_
  refine Eq.trans (k_ald2 rfl) ?_
  refine Eq.trans (k_gtI rfl (pic_0 hp2) rfl (by decide)) ?_
  refine Eq.trans (k_i2ge rfl rfl) ?_
  refine ifc ?_ ?_
  · refine Eq.trans (k_ald0 rfl) ?_
    refine Eq.trans (k_gtR rfl s_164 rfl (by decide)) ?_
    refine Eq.trans (k_ild1 rfl) ?_
    refine Eq.trans (k_ild3 rfl) ?_
    exact k_cV2 rfl s_165 q_12 rfl rfl rfl (bl rfl)
  · refine Eq.trans (k_con rfl) ?_
    exact k_rtZ rfl rfl (Or.inr rfl)
theorem b_90_32 {d : Nat} {m : Nat → Nat → Int} {q : Nat → Nat → Option Nat} {w : Option (Nat → Int64)} {u4 u5 u6 : Option Value} {v1 v3 s0 : Int} {p2 : Nat} (hp2 : iPic p2)  : gv d rR90 32 [some (.ref 164), some (.int (iI v1)), some (.ref p2), some (.int (iI v3)), u4, u5, u6] [.int (iI s0)] (mk m q w) =
    gv d rR90 37 [some (.ref 164), some (.int (iI v1)), some (.ref p2), some (.int (iI v3)), some (.int (iI s0)), some (.int (iI 0)), u6] [] (mk m q w) := by
  refine Eq.trans (k_ist4 rfl) ?_
  refine Eq.trans (k_con rfl) ?_
  refine Eq.trans (k_ist5 rfl) ?_
  exact rfl
theorem b_90_37 {d : Nat} {m : Nat → Nat → Int} {q : Nat → Nat → Option Nat} {w : Option (Nat → Int64)} {u6 : Option Value} {v1 v3 v4 v5 : Int} {p2 : Nat} (hp2 : iPic p2)  : gv d rR90 37 [some (.ref 164), some (.int (iI v1)), some (.ref p2), some (.int (iI v3)), some (.int (iI v4)), some (.int (iI v5)), u6] [] (mk m q w) =
    if iI v5 < iI (m 164 1) then (rBd (ev d 6 [.int (iI ((7 * v4) + v5)), .int (iI 0), .int (iI ((((49 : Nat) : Int)) - 1))] (mk m q w)) (fun v M' => gv d rR90 69 [some (.ref 164), some (.int (iI v1)), some (.ref p2), some (.int (iI v3)), some (.int (iI v4)), some (.int (iI v5)), some (.int (iI ((7 * v4) + v5)))] (v.toList ++ []) M')) else (gv d rR90 15 [some (.ref 164), some (.int (iI v1)), some (.ref p2), some (.int (iI (v3 + 1))), some (.int (iI v4)), some (.int (iI v5)), u6] [] (mk m q w)) := by
  refine Eq.trans (k_ild5 rfl) ?_
  refine Eq.trans (k_ald0 rfl) ?_
  refine Eq.trans (k_gtI rfl s_164 rfl (by decide)) ?_
  refine Eq.trans (k_i2ge rfl rfl) ?_
  refine ifc ?_ ?_
  · refine Eq.trans (k_bip rfl (by decide)) ?_
    refine Eq.trans (k_ild4 rfl) ?_
    refine Eq.trans (k_mul rfl) ?_
    refine Eq.trans (k_ild5 rfl) ?_
    refine Eq.trans (k_add rfl) ?_
    refine Eq.trans (k_ist6 rfl) ?_
    refine Eq.trans (k_ild6 rfl) ?_
    refine Eq.trans (k_con rfl) ?_
    refine Eq.trans (k_ald0 rfl) ?_
    refine Eq.trans (k_gtR rfl s_164 rfl (by decide)) ?_
    refine Eq.trans (k_alen rfl s_168 (by decide)) ?_
    refine Eq.trans (k_con rfl) ?_
    refine Eq.trans (k_sub rfl) ?_
    exact k_cS3 rfl (by decide) q_6 rfl rfl (bl rfl)
  · refine Eq.trans (k_inc3 rfl) ?_
    refine Eq.trans (k_go rfl rfl) ?_
    exact rfl
theorem b_90_69 {d : Nat} {m : Nat → Nat → Int} {q : Nat → Nat → Option Nat} {w : Option (Nat → Int64)} {v1 v3 v4 v5 v6 s0 : Int} {p2 : Nat} (hp2 : iPic p2)  : gv d rR90 69 [some (.ref 164), some (.int (iI v1)), some (.ref p2), some (.int (iI v3)), some (.int (iI v4)), some (.int (iI v5)), some (.int (iI v6))] [.int (iI s0)] (mk m q w) =
    if iI s0 = iI 0 then (gv d rR90 94 [some (.ref 164), some (.int (iI v1)), some (.ref p2), some (.int (iI v3)), some (.int (iI v4)), some (.int (iI v5)), some (.int (iI v6))] [] (mk m q w)) else (gv d rR90 72 [some (.ref 164), some (.int (iI v1)), some (.ref p2), some (.int (iI v3)), some (.int (iI v4)), some (.int (iI v5)), some (.int (iI v6))] [] (mk m q w)) := by
  refine Eq.trans (k_i1eq rfl rfl) ?_
  refine ifc ?_ ?_
  · exact rfl
  · exact rfl
theorem b_90_72 {d : Nat} {m : Nat → Nat → Int} {q : Nat → Nat → Option Nat} {w : Option (Nat → Int64)} {v1 v3 v4 v5 v6 : Int} {p2 : Nat} (hp2 : iPic p2) (g0 : 0 ≤ v6) (g1 : v6 < 49) : gv d rR90 72 [some (.ref 164), some (.int (iI v1)), some (.ref p2), some (.int (iI v3)), some (.int (iI v4)), some (.int (iI v5)), some (.int (iI v6))] [] (mk m q w) =
    rBd (ev d 75 [.ref p2, .int (iI v3)] (mk m q w)) (fun v M' => gv d rR90 89 [some (.ref 164), some (.int (iI v1)), some (.ref p2), some (.int (iI v3)), some (.int (iI v4)), some (.int (iI v5)), some (.int (iI v6))] (v.toList ++ [.int (iI v1), .int (iI v5), .ref 164, .int (iI (m 168 (Int.toNat v6))), .int (iI v6), .ref 168]) M') := by
  refine Eq.trans (k_ald0 rfl) ?_
  refine Eq.trans (k_gtR rfl s_164 rfl (by decide)) ?_
  refine Eq.trans (k_ild6 rfl) ?_
  refine Eq.trans (k_du2 rfl ⟨rfl, rfl⟩) ?_
  refine Eq.trans (k_iald rfl s_168 (bl rfl) g0 g1) ?_
  refine Eq.trans (k_ald0 rfl) ?_
  refine Eq.trans (k_ild5 rfl) ?_
  refine Eq.trans (k_ild1 rfl) ?_
  refine Eq.trans (k_ald2 rfl) ?_
  refine Eq.trans (k_ild3 rfl) ?_
  exact k_cV1 rfl (pic_0 hp2) q_75 rfl rfl rfl (bl rfl)
theorem b_90_89 {d : Nat} {m : Nat → Nat → Int} {q : Nat → Nat → Option Nat} {w : Option (Nat → Int64)} {u6 : Option Value} {v1 v3 v4 v5 s1 s2 s4 s5 s6 : Int} {p2 : Nat} (hp2 : iPic p2)  : gv d rR90 89 [some (.ref 164), some (.int (iI v1)), some (.ref p2), some (.int (iI v3)), some (.int (iI v4)), some (.int (iI v5)), u6] [.int (iI s6), .int (iI s5), .int (iI s4), .ref 164, .int (iI s2), .int (iI s1), .ref 168] (mk m q w) =
    rBd (ev d 89 [.ref 164, .int (iI s4), .int (iI s5), .int (iI s6)] (mk m q w)) (fun v M' => gv d rR90 92 [some (.ref 164), some (.int (iI v1)), some (.ref p2), some (.int (iI v3)), some (.int (iI v4)), some (.int (iI v5)), u6] (v.toList ++ [.int (iI s2), .int (iI s1), .ref 168]) M') := by
  exact k_cV3 rfl s_164 q_89 rfl rfl rfl (bl rfl)
theorem b_90_92 {d : Nat} {m : Nat → Nat → Int} {q : Nat → Nat → Option Nat} {w : Option (Nat → Int64)} {u6 : Option Value} {v1 v3 v4 v5 s1 s2 s3 : Int} {p2 : Nat} (hp2 : iPic p2) (g0 : 0 ≤ s1) (g1 : s1 < 49) : gv d rR90 92 [some (.ref 164), some (.int (iI v1)), some (.ref p2), some (.int (iI v3)), some (.int (iI v4)), some (.int (iI v5)), u6] [.int (iI s3), .int (iI s2), .int (iI s1), .ref 168] (mk m q w) =
    gv d rR90 94 [some (.ref 164), some (.int (iI v1)), some (.ref p2), some (.int (iI v3)), some (.int (iI v4)), some (.int (iI v5)), u6] [] (mk (wr m 168 (Int.toNat s1) (zAnd s2 s3)) q w) := by
  refine Eq.trans (k_and rfl) ?_
  refine Eq.trans (k_iast rfl s_168 (bl rfl) g0 g1) ?_
  exact rfl
theorem b_90_94 {d : Nat} {m : Nat → Nat → Int} {q : Nat → Nat → Option Nat} {w : Option (Nat → Int64)} {u6 : Option Value} {v1 v3 v4 v5 : Int} {p2 : Nat} (hp2 : iPic p2)  : gv d rR90 94 [some (.ref 164), some (.int (iI v1)), some (.ref p2), some (.int (iI v3)), some (.int (iI v4)), some (.int (iI v5)), u6] [] (mk m q w) =
    gv d rR90 37 [some (.ref 164), some (.int (iI v1)), some (.ref p2), some (.int (iI v3)), some (.int (iI v4)), some (.int (iI (v5 + 1))), u6] [] (mk m q w) := by
  refine Eq.trans (k_inc5 rfl) ?_
  refine Eq.trans (k_go rfl rfl) ?_
  exact rfl
theorem e_90 {d : Nat} (hd : 1 ≤ d) {a0 a1 a2 : Value} (M : rMem) (h0 : a0.category = 1) (h1 : a1.category = 1) (h2 : a2.category = 1) : ev d 90 [a0, a1, a2] M = gv (d - 1) rR90 0 [some a0, some a1, some a2, none, none, none, none] [] M := ev_at hd q_90 rfl (by simp [*]) rfl
/-! FanHouse$Ways.allowedAt(II)I -/
theorem b_91_0 {d : Nat} {m : Nat → Nat → Int} {q : Nat → Nat → Option Nat} {w : Option (Nat → Int64)} {u3 : Option Value} {v1 v2 : Int}   : gv d rR91 0 [some (.ref 164), some (.int (iI v1)), some (.int (iI v2)), u3] [] (mk m q w) =
    rBd (ev d 6 [.int (iI ((7 * v1) + v2)), .int (iI 0), .int (iI ((((49 : Nat) : Int)) - 1))] (mk m q w)) (fun v M' => gv d rR91 19 [some (.ref 164), some (.int (iI v1)), some (.int (iI v2)), some (.int (iI ((7 * v1) + v2)))] (v.toList ++ []) M') := by
  refine Eq.trans (k_bip rfl (by decide)) ?_
  refine Eq.trans (k_ild1 rfl) ?_
  refine Eq.trans (k_mul rfl) ?_
  refine Eq.trans (k_ild2 rfl) ?_
  refine Eq.trans (k_add rfl) ?_
  refine Eq.trans (k_ist3 rfl) ?_
  refine Eq.trans (k_ild3 rfl) ?_
  refine Eq.trans (k_con rfl) ?_
  refine Eq.trans (k_ald0 rfl) ?_
  refine Eq.trans (k_gtR rfl s_164 rfl (by decide)) ?_
  refine Eq.trans (k_alen rfl s_168 (by decide)) ?_
  refine Eq.trans (k_con rfl) ?_
  refine Eq.trans (k_sub rfl) ?_
  exact k_cS3 rfl (by decide) q_6 rfl rfl (bl rfl)
theorem b_91_19 {d : Nat} {m : Nat → Nat → Int} {q : Nat → Nat → Option Nat} {w : Option (Nat → Int64)} {u1 u2 : Option Value} {v3 s0 : Int}   : gv d rR91 19 [some (.ref 164), u1, u2, some (.int (iI v3))] [.int (iI s0)] (mk m q w) =
    if iI s0 = iI 0 then (gv d rR91 32 [some (.ref 164), u1, u2, some (.int (iI v3))] [.int (iI 0)] (mk m q w)) else (gv d rR91 22 [some (.ref 164), u1, u2, some (.int (iI v3))] [] (mk m q w)) := by
  refine Eq.trans (k_i1eq rfl rfl) ?_
  refine ifc ?_ ?_
  · refine Eq.trans (k_con rfl) ?_
    exact rfl
  · exact rfl
theorem b_91_22 {d : Nat} {m : Nat → Nat → Int} {q : Nat → Nat → Option Nat} {w : Option (Nat → Int64)} {u1 u2 : Option Value} {v3 : Int}  (g0 : 0 ≤ v3) (g1 : v3 < 49) : gv d rR91 22 [some (.ref 164), u1, u2, some (.int (iI v3))] [] (mk m q w) =
    gv d rR91 32 [some (.ref 164), u1, u2, some (.int (iI v3))] [.int (iI (m 168 (Int.toNat v3)))] (mk m q w) := by
  refine Eq.trans (k_ald0 rfl) ?_
  refine Eq.trans (k_gtR rfl s_164 rfl (by decide)) ?_
  refine Eq.trans (k_ild3 rfl) ?_
  refine Eq.trans (k_iald rfl s_168 (bl rfl) g0 g1) ?_
  refine Eq.trans (k_go rfl rfl) ?_
  exact rfl
theorem b_91_32 {d : Nat} {m : Nat → Nat → Int} {q : Nat → Nat → Option Nat} {w : Option (Nat → Int64)} {u0 u1 u2 u3 : Option Value} {s0 : Int}   : gv d rR91 32 [u0, u1, u2, u3] [.int (iI s0)] (mk m q w) =
    some (.inl (some (.int (iI s0))), (mk m q w, (0, 0))) := by
  exact k_rtI rfl rfl
theorem e_91 {d : Nat} (hd : 1 ≤ d) {a0 a1 a2 : Value} (M : rMem) (h0 : a0.category = 1) (h1 : a1.category = 1) (h2 : a2.category = 1) : ev d 91 [a0, a1, a2] M = gv (d - 1) rR91 0 [some a0, some a1, some a2, none] [] M := ev_at hd q_91 rfl (by simp [*]) rfl
/-! FanHouse$Ways.total()I -/
theorem b_92_0 {d : Nat} {m : Nat → Nat → Int} {q : Nat → Nat → Option Nat} {w : Option (Nat → Int64)} {u1 u2 u3 u4 u5 : Option Value}  (g0 : 0 ≤ ((zShl 1 (m 164 1)) - 1)) (g1 : ((zShl 1 (m 164 1)) - 1) < 128) : gv d rR92 0 [some (.ref 164), u1, u2, u3, u4, u5] [] (mk m q w) =
    gv d rR92 20 [some (.ref 164), some (.int (iI ((zShl 1 (m 164 1)) - 1))), some (.int (iI (((zShl 1 (m 164 1)) - 1) - 1))), u3, u4, u5] [] (mk (wr m 169 (Int.toNat ((zShl 1 (m 164 1)) - 1)) 1) q w) := by
  refine Eq.trans (k_con rfl) ?_
  refine Eq.trans (k_ald0 rfl) ?_
  refine Eq.trans (k_gtI rfl s_164 rfl (by decide)) ?_
  refine Eq.trans (k_shl rfl) ?_
  refine Eq.trans (k_con rfl) ?_
  refine Eq.trans (k_sub rfl) ?_
  refine Eq.trans (k_ist1 rfl) ?_
  refine Eq.trans (k_ald0 rfl) ?_
  refine Eq.trans (k_gtR rfl s_164 rfl (by decide)) ?_
  refine Eq.trans (k_ild1 rfl) ?_
  refine Eq.trans (k_con rfl) ?_
  refine Eq.trans (k_iast rfl s_169 (bl rfl) g0 g1) ?_
  refine Eq.trans (k_ild1 rfl) ?_
  refine Eq.trans (k_con rfl) ?_
  refine Eq.trans (k_sub rfl) ?_
  refine Eq.trans (k_ist2 rfl) ?_
  exact rfl
theorem b_92_20 {d : Nat} {m : Nat → Nat → Int} {q : Nat → Nat → Option Nat} {w : Option (Nat → Int64)} {u1 u3 u4 u5 : Option Value} {v2 : Int}   : gv d rR92 20 [some (.ref 164), u1, some (.int (iI v2)), u3, u4, u5] [] (mk m q w) =
    if iI v2 < iI 0 then (some (.inl (some (.int (iI (m 169 0)))), (mk m q w, (0, 0)))) else (rBd (ev d 38 [.int (iI v2)] (mk m q w)) (fun v M' => gv d rR92 28 [some (.ref 164), u1, some (.int (iI v2)), u3, u4, u5] (v.toList ++ []) M')) := by
  refine Eq.trans (k_ild2 rfl) ?_
  refine Eq.trans (k_i1lt rfl rfl) ?_
  refine ifc ?_ ?_
  · refine Eq.trans (k_ald0 rfl) ?_
    refine Eq.trans (k_gtR rfl s_164 rfl (by decide)) ?_
    refine Eq.trans (k_con rfl) ?_
    refine Eq.trans (k_iald rfl s_169 (bl rfl) (by decide) (by decide)) ?_
    exact k_rtI rfl rfl
  · refine Eq.trans (k_ild2 rfl) ?_
    exact k_cS1 rfl (by decide) q_38 rfl rfl (bl rfl)
theorem b_92_28 {d : Nat} {m : Nat → Nat → Int} {q : Nat → Nat → Option Nat} {w : Option (Nat → Int64)} {u1 u3 u4 u5 : Option Value} {v2 s0 : Int}   : gv d rR92 28 [some (.ref 164), u1, some (.int (iI v2)), u3, u4, u5] [.int (iI s0)] (mk m q w) =
    gv d rR92 35 [some (.ref 164), u1, some (.int (iI v2)), some (.int (iI s0)), some (.int (iI 0)), some (.int (iI 0))] [] (mk m q w) := by
  refine Eq.trans (k_ist3 rfl) ?_
  refine Eq.trans (k_con rfl) ?_
  refine Eq.trans (k_ist4 rfl) ?_
  refine Eq.trans (k_con rfl) ?_
  refine Eq.trans (k_ist5 rfl) ?_
  exact rfl
theorem b_92_35 {d : Nat} {m : Nat → Nat → Int} {q : Nat → Nat → Option Nat} {w : Option (Nat → Int64)} {u1 : Option Value} {v2 v3 v4 v5 : Int}   : gv d rR92 35 [some (.ref 164), u1, some (.int (iI v2)), some (.int (iI v3)), some (.int (iI v4)), some (.int (iI v5))] [] (mk m q w) =
    if iI v5 < iI (m 164 1) then (if iI (zAnd (zShr v2 v5) 1) = iI 0 then (rBd (ev d 91 [.ref 164, .int (iI v3), .int (iI v5)] (mk m q w)) (fun v M' => gv d rR92 62 [some (.ref 164), u1, some (.int (iI v2)), some (.int (iI v3)), some (.int (iI v4)), some (.int (iI v5))] (v.toList ++ [.int (iI v4)]) M')) else (gv d rR92 80 [some (.ref 164), u1, some (.int (iI v2)), some (.int (iI v3)), some (.int (iI v4)), some (.int (iI v5))] [] (mk m q w))) else (gv d rR92 86 [some (.ref 164), u1, some (.int (iI v2)), some (.int (iI v3)), some (.int (iI v4)), some (.int (iI v5))] [] (mk m q w)) := by
  refine Eq.trans (k_ild5 rfl) ?_
  refine Eq.trans (k_ald0 rfl) ?_
  refine Eq.trans (k_gtI rfl s_164 rfl (by decide)) ?_
  refine Eq.trans (k_i2ge rfl rfl) ?_
  refine ifc ?_ ?_
  · refine Eq.trans (k_ild2 rfl) ?_
    refine Eq.trans (k_ild5 rfl) ?_
    refine Eq.trans (k_shr rfl) ?_
    refine Eq.trans (k_con rfl) ?_
    refine Eq.trans (k_and rfl) ?_
    refine Eq.trans (k_i1ne rfl rfl) ?_
    refine ifc ?_ ?_
    · refine Eq.trans (k_ild4 rfl) ?_
      refine Eq.trans (k_ald0 rfl) ?_
      refine Eq.trans (k_ild3 rfl) ?_
      refine Eq.trans (k_ild5 rfl) ?_
      exact k_cV2 rfl s_164 q_91 rfl rfl rfl (bl rfl)
    · exact rfl
  · exact rfl
theorem b_92_62 {d : Nat} {m : Nat → Nat → Int} {q : Nat → Nat → Option Nat} {w : Option (Nat → Int64)} {u1 u4 : Option Value} {v2 v3 v5 s0 s1 : Int}   : gv d rR92 62 [some (.ref 164), u1, some (.int (iI v2)), some (.int (iI v3)), u4, some (.int (iI v5))] [.int (iI s1), .int (iI s0)] (mk m q w) =
    rBd (ev d 38 [.int (iI s1)] (mk m q w)) (fun v M' => gv d rR92 65 [some (.ref 164), u1, some (.int (iI v2)), some (.int (iI v3)), u4, some (.int (iI v5))] (v.toList ++ [.int (iI s0)]) M') := by
  exact k_cS1 rfl (by decide) q_38 rfl rfl (bl rfl)
theorem b_92_65 {d : Nat} {m : Nat → Nat → Int} {q : Nat → Nat → Option Nat} {w : Option (Nat → Int64)} {u1 u4 : Option Value} {v2 v3 v5 s0 s1 : Int}  (g0 : 0 ≤ (zOr v2 (zShl 1 v5))) (g1 : (zOr v2 (zShl 1 v5)) < 128) : gv d rR92 65 [some (.ref 164), u1, some (.int (iI v2)), some (.int (iI v3)), u4, some (.int (iI v5))] [.int (iI s1), .int (iI s0)] (mk m q w) =
    gv d rR92 80 [some (.ref 164), u1, some (.int (iI v2)), some (.int (iI v3)), some (.int (iI (s0 + (s1 * (m 169 (Int.toNat (zOr v2 (zShl 1 v5)))))))), some (.int (iI v5))] [] (mk m q w) := by
  refine Eq.trans (k_ald0 rfl) ?_
  refine Eq.trans (k_gtR rfl s_164 rfl (by decide)) ?_
  refine Eq.trans (k_ild2 rfl) ?_
  refine Eq.trans (k_con rfl) ?_
  refine Eq.trans (k_ild5 rfl) ?_
  refine Eq.trans (k_shl rfl) ?_
  refine Eq.trans (k_ior rfl) ?_
  refine Eq.trans (k_iald rfl s_169 (bl rfl) g0 g1) ?_
  refine Eq.trans (k_mul rfl) ?_
  refine Eq.trans (k_add rfl) ?_
  refine Eq.trans (k_ist4 rfl) ?_
  exact rfl
theorem b_92_80 {d : Nat} {m : Nat → Nat → Int} {q : Nat → Nat → Option Nat} {w : Option (Nat → Int64)} {u1 : Option Value} {v2 v3 v4 v5 : Int}   : gv d rR92 80 [some (.ref 164), u1, some (.int (iI v2)), some (.int (iI v3)), some (.int (iI v4)), some (.int (iI v5))] [] (mk m q w) =
    gv d rR92 35 [some (.ref 164), u1, some (.int (iI v2)), some (.int (iI v3)), some (.int (iI v4)), some (.int (iI (v5 + 1)))] [] (mk m q w) := by
  refine Eq.trans (k_inc5 rfl) ?_
  refine Eq.trans (k_go rfl rfl) ?_
  exact rfl
theorem b_92_86 {d : Nat} {m : Nat → Nat → Int} {q : Nat → Nat → Option Nat} {w : Option (Nat → Int64)} {u1 u3 u5 : Option Value} {v2 v4 : Int}  (g0 : 0 ≤ v2) (g1 : v2 < 128) : gv d rR92 86 [some (.ref 164), u1, some (.int (iI v2)), u3, some (.int (iI v4)), u5] [] (mk m q w) =
    gv d rR92 20 [some (.ref 164), u1, some (.int (iI (v2 + (-1)))), u3, some (.int (iI v4)), u5] [] (mk (wr m 169 (Int.toNat v2) v4) q w) := by
  refine Eq.trans (k_ald0 rfl) ?_
  refine Eq.trans (k_gtR rfl s_164 rfl (by decide)) ?_
  refine Eq.trans (k_ild2 rfl) ?_
  refine Eq.trans (k_ild4 rfl) ?_
  refine Eq.trans (k_iast rfl s_169 (bl rfl) g0 g1) ?_
  refine Eq.trans (k_inc2 rfl) ?_
  refine Eq.trans (k_go rfl rfl) ?_
  exact rfl
theorem e_92 {d : Nat} (hd : 1 ≤ d) {a0 : Value} (M : rMem) (h0 : a0.category = 1) : ev d 92 [a0] M = gv (d - 1) rR92 0 [some a0, none, none, none, none, none] [] M := ev_at hd q_92 rfl (by simp [*]) rfl
/-! FanHouse$Ways.firstStick(II)I -/
theorem b_93_0 {d : Nat} {m : Nat → Nat → Int} {q : Nat → Nat → Option Nat} {w : Option (Nat → Int64)} {u3 u4 : Option Value} {v1 v2 : Int}   : gv d rR93 0 [some (.ref 164), some (.int (iI v1)), some (.int (iI v2)), u3, u4] [] (mk m q w) =
    gv d rR93 2 [some (.ref 164), some (.int (iI v1)), some (.int (iI v2)), some (.int (iI 0)), u4] [] (mk m q w) := by
  refine Eq.trans (k_con rfl) ?_
  refine Eq.trans (k_ist3 rfl) ?_
  exact rfl
theorem b_93_2 {d : Nat} {m : Nat → Nat → Int} {q : Nat → Nat → Option Nat} {w : Option (Nat → Int64)} {u4 : Option Value} {v1 v2 v3 : Int}   : gv d rR93 2 [some (.ref 164), some (.int (iI v1)), some (.int (iI v2)), some (.int (iI v3)), u4] [] (mk m q w) =
    if iI v3 < iI (m 164 1) then (if iI (zAnd (zShr v1 v3) 1) = iI 0 then (gv d rR93 23 [some (.ref 164), some (.int (iI v1)), some (.int (iI v2)), some (.int (iI v3)), u4] [.int (iI 1)] (mk m q w)) else (gv d rR93 23 [some (.ref 164), some (.int (iI v1)), some (.int (iI v2)), some (.int (iI v3)), u4] [.int (iI 0)] (mk m q w))) else (some (.inl (some (.int (iI 0))), (mk m q w, (0, 0)))) := by
  refine Eq.trans (k_ild3 rfl) ?_
  refine Eq.trans (k_ald0 rfl) ?_
  refine Eq.trans (k_gtI rfl s_164 rfl (by decide)) ?_
  refine Eq.trans (k_i2ge rfl rfl) ?_
  refine ifc ?_ ?_
  · refine Eq.trans (k_ild1 rfl) ?_
    refine Eq.trans (k_ild3 rfl) ?_
    refine Eq.trans (k_shr rfl) ?_
    refine Eq.trans (k_con rfl) ?_
    refine Eq.trans (k_and rfl) ?_
    refine Eq.trans (k_i1ne rfl rfl) ?_
    refine ifc ?_ ?_
    · refine Eq.trans (k_con rfl) ?_
      refine Eq.trans (k_go rfl rfl) ?_
      exact rfl
    · refine Eq.trans (k_con rfl) ?_
      exact rfl
  · refine Eq.trans (k_con rfl) ?_
    exact k_rtI rfl rfl
theorem b_93_23 {d : Nat} {m : Nat → Nat → Int} {q : Nat → Nat → Option Nat} {w : Option (Nat → Int64)} {u4 : Option Value} {v1 v2 v3 s0 : Int}   : gv d rR93 23 [some (.ref 164), some (.int (iI v1)), some (.int (iI v2)), some (.int (iI v3)), u4] [.int (iI s0)] (mk m q w) =
    if iI s0 = iI 0 then (gv d rR93 54 [some (.ref 164), some (.int (iI v1)), some (.int (iI v2)), some (.int (iI v3)), some (.int (iI s0))] [] (mk m q w)) else (rBd (ev d 91 [.ref 164, .int (iI v2), .int (iI v3)] (mk m q w)) (fun v M' => gv d rR93 36 [some (.ref 164), some (.int (iI v1)), some (.int (iI v2)), some (.int (iI v3)), some (.int (iI s0))] (v.toList ++ []) M')) := by
  refine Eq.trans (k_ist4 rfl) ?_
  refine Eq.trans (k_ild4 rfl) ?_
  refine Eq.trans (k_i1eq rfl rfl) ?_
  refine ifc ?_ ?_
  · exact rfl
  · refine Eq.trans (k_ald0 rfl) ?_
    refine Eq.trans (k_ild2 rfl) ?_
    refine Eq.trans (k_ild3 rfl) ?_
    exact k_cV2 rfl s_164 q_91 rfl rfl rfl (bl rfl)
theorem b_93_36 {d : Nat} {m : Nat → Nat → Int} {q : Nat → Nat → Option Nat} {w : Option (Nat → Int64)} {u4 : Option Value} {v1 v2 v3 s0 : Int}   : gv d rR93 36 [some (.ref 164), some (.int (iI v1)), some (.int (iI v2)), some (.int (iI v3)), u4] [.int (iI s0)] (mk m q w) =
    if iI s0 = iI 0 then (gv d rR93 54 [some (.ref 164), some (.int (iI v1)), some (.int (iI v2)), some (.int (iI v3)), u4] [] (mk m q w)) else (gv d rR93 39 [some (.ref 164), some (.int (iI v1)), some (.int (iI v2)), some (.int (iI v3)), u4] [] (mk m q w)) := by
  refine Eq.trans (k_i1eq rfl rfl) ?_
  refine ifc ?_ ?_
  · exact rfl
  · exact rfl
theorem b_93_39 {d : Nat} {m : Nat → Nat → Int} {q : Nat → Nat → Option Nat} {w : Option (Nat → Int64)} {u4 : Option Value} {v1 v2 v3 : Int}  (g0 : 0 ≤ (zOr v1 (zShl 1 v3))) (g1 : (zOr v1 (zShl 1 v3)) < 128) : gv d rR93 39 [some (.ref 164), some (.int (iI v1)), some (.int (iI v2)), some (.int (iI v3)), u4] [] (mk m q w) =
    if iI 0 < iI (m 169 (Int.toNat (zOr v1 (zShl 1 v3)))) then (some (.inl (some (.int (iI v3))), (mk m q w, (0, 0)))) else (gv d rR93 54 [some (.ref 164), some (.int (iI v1)), some (.int (iI v2)), some (.int (iI v3)), u4] [] (mk m q w)) := by
  refine Eq.trans (k_ald0 rfl) ?_
  refine Eq.trans (k_gtR rfl s_164 rfl (by decide)) ?_
  refine Eq.trans (k_ild1 rfl) ?_
  refine Eq.trans (k_con rfl) ?_
  refine Eq.trans (k_ild3 rfl) ?_
  refine Eq.trans (k_shl rfl) ?_
  refine Eq.trans (k_ior rfl) ?_
  refine Eq.trans (k_iald rfl s_169 (bl rfl) g0 g1) ?_
  refine Eq.trans (k_i1le rfl rfl) ?_
  refine ifc ?_ ?_
  · refine Eq.trans (k_ild3 rfl) ?_
    exact k_rtI rfl rfl
  · exact rfl
theorem b_93_54 {d : Nat} {m : Nat → Nat → Int} {q : Nat → Nat → Option Nat} {w : Option (Nat → Int64)} {u4 : Option Value} {v1 v2 v3 : Int}   : gv d rR93 54 [some (.ref 164), some (.int (iI v1)), some (.int (iI v2)), some (.int (iI v3)), u4] [] (mk m q w) =
    gv d rR93 2 [some (.ref 164), some (.int (iI v1)), some (.int (iI v2)), some (.int (iI (v3 + 1))), u4] [] (mk m q w) := by
  refine Eq.trans (k_inc3 rfl) ?_
  refine Eq.trans (k_go rfl rfl) ?_
  exact rfl
theorem e_93 {d : Nat} (hd : 1 ≤ d) {a0 a1 a2 : Value} (M : rMem) (h0 : a0.category = 1) (h1 : a1.category = 1) (h2 : a2.category = 1) : ev d 93 [a0, a1, a2] M = gv (d - 1) rR93 0 [some a0, some a1, some a2, none, none] [] M := ev_at hd q_93 rfl (by simp [*]) rfl
