/-! FanHouse$Tape.isFaulty()Z -/
theorem b_1_0 {d : Nat} {m : Nat → Nat → Int} {q : Nat → Nat → Option Nat} {w : Option (Nat → Int64)}   : gv d rR1 0 [some (.ref 101)] [] (mk m q w) =
    if iI (m 101 4) = iI 0 then (gv d rR1 12 [some (.ref 101)] [.int (iI 0)] (mk m q w)) else (gv d rR1 12 [some (.ref 101)] [.int (iI 1)] (mk m q w)) := by
  refine Eq.trans (k_ald0 rfl) ?_
  refine Eq.trans (k_gtI rfl s_101 rfl (by decide)) ?_
  refine Eq.trans (k_i1eq rfl rfl) ?_
  refine ifc ?_ ?_
  · refine Eq.trans (k_con rfl) ?_
    exact rfl
  · refine Eq.trans (k_con rfl) ?_
    refine Eq.trans (k_go rfl rfl) ?_
    exact rfl
theorem b_1_12 {d : Nat} {m : Nat → Nat → Int} {q : Nat → Nat → Option Nat} {w : Option (Nat → Int64)} {u0 : Option Value} {s0 : Int}  (g0 : iI s0 = iI 0 ∨ iI s0 = iI 1) : gv d rR1 12 [u0] [.int (iI s0)] (mk m q w) =
    some (.inl (some (.int (iI s0))), (mk m q w, (0, 0))) := by
  exact k_rtZ rfl rfl g0
theorem e_1 {d : Nat} (hd : 1 ≤ d) {a0 : Value} (M : rMem) (h0 : a0.category = 1) : ev d 1 [a0] M = gv (d - 1) rR1 0 [some a0] [] M := ev_at hd q_1 rfl (by simp [*]) rfl
/-! FanHouse$Tape.next()I -/
theorem b_2_0 {d : Nat} {m : Nat → Nat → Int} {q : Nat → Nat → Option Nat} {w : Option (Nat → Int64)}   : gv d rR2 0 [some (.ref 101)] [] (mk m q w) =
    if iI (m 101 3) < iI (m 101 2) then (gv d rR2 11 [some (.ref 101)] [] (mk m q w)) else (gv d rR2 38 [some (.ref 101)] [] (mk m q w)) := by
  refine Eq.trans (k_ald0 rfl) ?_
  refine Eq.trans (k_gtI rfl s_101 rfl (by decide)) ?_
  refine Eq.trans (k_ald0 rfl) ?_
  refine Eq.trans (k_gtI rfl s_101 rfl (by decide)) ?_
  refine Eq.trans (k_i2ge rfl rfl) ?_
  refine ifc ?_ ?_
  · exact rfl
  · exact rfl
theorem b_2_11 {d : Nat} {m : Nat → Nat → Int} {q : Nat → Nat → Option Nat} {w : Option (Nat → Int64)}  (g0 : 0 ≤ (m 101 3)) (g1 : (m 101 3) < 600) : gv d rR2 11 [some (.ref 101)] [] (mk m q w) =
    if iI (m 102 (Int.toNat (m 101 3))) = iI 32 then (gv d rR2 0 [some (.ref 101)] [] (mk (wr m 101 3 ((m 101 3) + 1)) q w)) else (gv d rR2 38 [some (.ref 101)] [] (mk m q w)) := by
  refine Eq.trans (k_ald0 rfl) ?_
  refine Eq.trans (k_gtR rfl s_101 rfl (by decide)) ?_
  refine Eq.trans (k_ald0 rfl) ?_
  refine Eq.trans (k_gtI rfl s_101 rfl (by decide)) ?_
  refine Eq.trans (k_iald rfl s_102 (bl rfl) g0 g1) ?_
  refine Eq.trans (k_bip rfl (by decide)) ?_
  refine Eq.trans (k_i2ne rfl rfl) ?_
  refine ifc ?_ ?_
  · refine Eq.trans (k_ald0 rfl) ?_
    refine Eq.trans (k_dup rfl rfl) ?_
    refine Eq.trans (k_gtI rfl s_101 rfl (by decide)) ?_
    refine Eq.trans (k_con rfl) ?_
    refine Eq.trans (k_add rfl) ?_
    refine Eq.trans (k_ptI rfl s_101 rfl rfl) ?_
    refine Eq.trans (k_go rfl rfl) ?_
    exact rfl
  · exact rfl
theorem b_2_38 {d : Nat} {m : Nat → Nat → Int} {q : Nat → Nat → Option Nat} {w : Option (Nat → Int64)}   : gv d rR2 38 [some (.ref 101)] [] (mk m q w) =
    some (.inl (some (.int (iI (m 101 3)))), (mk m q w, (0, 0))) := by
  refine Eq.trans (k_ald0 rfl) ?_
  refine Eq.trans (k_gtI rfl s_101 rfl (by decide)) ?_
  exact k_rtI rfl rfl
theorem e_2 {d : Nat} (hd : 1 ≤ d) {a0 : Value} (M : rMem) (h0 : a0.category = 1) : ev d 2 [a0] M = gv (d - 1) rR2 0 [some a0] [] M := ev_at hd q_2 rfl (by simp [*]) rfl
/-! FanHouse$Tape.isFrom(III)Z -/
theorem b_3_0 {d : Nat} {m : Nat → Nat → Int} {q : Nat → Nat → Option Nat} {w : Option (Nat → Int64)} {v1 v2 v3 : Int}   : gv d rR3 0 [some (.ref 101), some (.int (iI v1)), some (.int (iI v2)), some (.int (iI v3))] [] (mk m q w) =
    if iI v1 < iI (m 101 2) then (gv d rR3 8 [some (.ref 101), some (.int (iI v1)), some (.int (iI v2)), some (.int (iI v3))] [] (mk m q w)) else (gv d rR3 32 [some (.ref 101), some (.int (iI v1)), some (.int (iI v2)), some (.int (iI v3))] [] (mk m q w)) := by
  refine Eq.trans (k_ild1 rfl) ?_
  refine Eq.trans (k_ald0 rfl) ?_
  refine Eq.trans (k_gtI rfl s_101 rfl (by decide)) ?_
  refine Eq.trans (k_i2ge rfl rfl) ?_
  refine ifc ?_ ?_
  · exact rfl
  · exact rfl
theorem b_3_8 {d : Nat} {m : Nat → Nat → Int} {q : Nat → Nat → Option Nat} {w : Option (Nat → Int64)} {v1 v2 v3 : Int}  (g0 : 0 ≤ v1) (g1 : v1 < 600) : gv d rR3 8 [some (.ref 101), some (.int (iI v1)), some (.int (iI v2)), some (.int (iI v3))] [] (mk m q w) =
    if iI (m 102 (Int.toNat v1)) < iI v2 then (gv d rR3 32 [some (.ref 101), some (.int (iI v1)), some (.int (iI v2)), some (.int (iI v3))] [] (mk m q w)) else (if iI v3 < iI (m 102 (Int.toNat v1)) then (gv d rR3 32 [some (.ref 101), some (.int (iI v1)), some (.int (iI v2)), some (.int (iI v3))] [] (mk m q w)) else (gv d rR3 33 [some (.ref 101), some (.int (iI v1)), some (.int (iI v2)), some (.int (iI v3))] [.int (iI 1)] (mk m q w))) := by
  refine Eq.trans (k_ald0 rfl) ?_
  refine Eq.trans (k_gtR rfl s_101 rfl (by decide)) ?_
  refine Eq.trans (k_ild1 rfl) ?_
  refine Eq.trans (k_iald rfl s_102 (bl rfl) g0 g1) ?_
  refine Eq.trans (k_ild2 rfl) ?_
  refine Eq.trans (k_i2lt rfl rfl) ?_
  refine ifc ?_ ?_
  · exact rfl
  · refine Eq.trans (k_ald0 rfl) ?_
    refine Eq.trans (k_gtR rfl s_101 rfl (by decide)) ?_
    refine Eq.trans (k_ild1 rfl) ?_
    refine Eq.trans (k_iald rfl s_102 (bl rfl) g0 g1) ?_
    refine Eq.trans (k_ild3 rfl) ?_
    refine Eq.trans (k_i2gt rfl rfl) ?_
    refine ifc ?_ ?_
    · exact rfl
    · refine Eq.trans (k_con rfl) ?_
      refine Eq.trans (k_go rfl rfl) ?_
      exact rfl
theorem b_3_32 {d : Nat} {m : Nat → Nat → Int} {q : Nat → Nat → Option Nat} {w : Option (Nat → Int64)} {u0 u1 u2 u3 : Option Value}   : gv d rR3 32 [u0, u1, u2, u3] [] (mk m q w) =
    gv d rR3 33 [u0, u1, u2, u3] [.int (iI 0)] (mk m q w) := by
  refine Eq.trans (k_con rfl) ?_
  exact rfl
theorem b_3_33 {d : Nat} {m : Nat → Nat → Int} {q : Nat → Nat → Option Nat} {w : Option (Nat → Int64)} {u0 u1 u2 u3 : Option Value} {s0 : Int}  (g0 : iI s0 = iI 0 ∨ iI s0 = iI 1) : gv d rR3 33 [u0, u1, u2, u3] [.int (iI s0)] (mk m q w) =
    some (.inl (some (.int (iI s0))), (mk m q w, (0, 0))) := by
  exact k_rtZ rfl rfl g0
theorem e_3 {d : Nat} (hd : 1 ≤ d) {a0 a1 a2 a3 : Value} (M : rMem) (h0 : a0.category = 1) (h1 : a1.category = 1) (h2 : a2.category = 1) (h3 : a3.category = 1) : ev d 3 [a0, a1, a2, a3] M = gv (d - 1) rR3 0 [some a0, some a1, some a2, some a3] [] M := ev_at hd q_3 rfl (by simp [*]) rfl
/-! FanHouse$Tape.startsNumber()Z -/
theorem b_4_0 {d : Nat} {m : Nat → Nat → Int} {q : Nat → Nat → Option Nat} {w : Option (Nat → Int64)}   : gv d rR4 0 [some (.ref 101)] [] (mk m q w) =
    rBd (ev d 1 [.ref 101] (mk m q w)) (fun v M' => gv d rR4 4 [some (.ref 101)] (v.toList ++ []) M') := by
  refine Eq.trans (k_ald0 rfl) ?_
  exact k_cV0 rfl s_101 q_1 rfl rfl rfl (bl rfl)
theorem b_4_4 {d : Nat} {m : Nat → Nat → Int} {q : Nat → Nat → Option Nat} {w : Option (Nat → Int64)} {s0 : Int}   : gv d rR4 4 [some (.ref 101)] [.int (iI s0)] (mk m q w) =
    if iI s0 = iI 0 then (rBd (ev d 2 [.ref 101] (mk m q w)) (fun v M' => gv d rR4 12 [some (.ref 101)] (v.toList ++ [.ref 101]) M')) else (gv d rR4 26 [some (.ref 101)] [] (mk m q w)) := by
  refine Eq.trans (k_i1ne rfl rfl) ?_
  refine ifc ?_ ?_
  · refine Eq.trans (k_ald0 rfl) ?_
    refine Eq.trans (k_ald0 rfl) ?_
    exact k_cV0 rfl s_101 q_2 rfl rfl rfl (bl rfl)
  · exact rfl
theorem b_4_12 {d : Nat} {m : Nat → Nat → Int} {q : Nat → Nat → Option Nat} {w : Option (Nat → Int64)} {u0 : Option Value} {s1 : Int}   : gv d rR4 12 [u0] [.int (iI s1), .ref 101] (mk m q w) =
    rBd (ev d 3 [.ref 101, .int (iI s1), .int (iI 48), .int (iI 57)] (mk m q w)) (fun v M' => gv d rR4 19 [u0] (v.toList ++ []) M') := by
  refine Eq.trans (k_bip rfl (by decide)) ?_
  refine Eq.trans (k_bip rfl (by decide)) ?_
  exact k_cV3 rfl s_101 q_3 rfl rfl rfl (bl rfl)
theorem b_4_19 {d : Nat} {m : Nat → Nat → Int} {q : Nat → Nat → Option Nat} {w : Option (Nat → Int64)} {u0 : Option Value} {s0 : Int}   : gv d rR4 19 [u0] [.int (iI s0)] (mk m q w) =
    if iI s0 = iI 0 then (gv d rR4 26 [u0] [] (mk m q w)) else (gv d rR4 27 [u0] [.int (iI 1)] (mk m q w)) := by
  refine Eq.trans (k_i1eq rfl rfl) ?_
  refine ifc ?_ ?_
  · exact rfl
  · refine Eq.trans (k_con rfl) ?_
    refine Eq.trans (k_go rfl rfl) ?_
    exact rfl
theorem b_4_26 {d : Nat} {m : Nat → Nat → Int} {q : Nat → Nat → Option Nat} {w : Option (Nat → Int64)} {u0 : Option Value}   : gv d rR4 26 [u0] [] (mk m q w) =
    gv d rR4 27 [u0] [.int (iI 0)] (mk m q w) := by
  refine Eq.trans (k_con rfl) ?_
  exact rfl
theorem b_4_27 {d : Nat} {m : Nat → Nat → Int} {q : Nat → Nat → Option Nat} {w : Option (Nat → Int64)} {u0 : Option Value} {s0 : Int}  (g0 : iI s0 = iI 0 ∨ iI s0 = iI 1) : gv d rR4 27 [u0] [.int (iI s0)] (mk m q w) =
    some (.inl (some (.int (iI s0))), (mk m q w, (0, 0))) := by
  exact k_rtZ rfl rfl g0
theorem e_4 {d : Nat} (hd : 1 ≤ d) {a0 : Value} (M : rMem) (h0 : a0.category = 1) : ev d 4 [a0] M = gv (d - 1) rR4 0 [some a0] [] M := ev_at hd q_4 rfl (by simp [*]) rfl
/-! FanHouse$Tape.blame(II)V -/
theorem b_5_0 {d : Nat} {m : Nat → Nat → Int} {q : Nat → Nat → Option Nat} {w : Option (Nat → Int64)} {v1 v2 : Int}   : gv d rR5 0 [some (.ref 101), some (.int (iI v1)), some (.int (iI v2))] [] (mk m q w) =
    if iI (m 101 4) = iI 0 then (gv d rR5 17 [some (.ref 101), some (.int (iI v1)), some (.int (iI v2))] [] (mk (wr (wr m 101 4 v1) 101 5 v2) q w)) else (gv d rR5 17 [some (.ref 101), some (.int (iI v1)), some (.int (iI v2))] [] (mk m q w)) := by
  refine Eq.trans (k_ald0 rfl) ?_
  refine Eq.trans (k_gtI rfl s_101 rfl (by decide)) ?_
  refine Eq.trans (k_i1ne rfl rfl) ?_
  refine ifc ?_ ?_
  · refine Eq.trans (k_ald0 rfl) ?_
    refine Eq.trans (k_ild1 rfl) ?_
    refine Eq.trans (k_ptI rfl s_101 rfl rfl) ?_
    refine Eq.trans (k_ald0 rfl) ?_
    refine Eq.trans (k_ild2 rfl) ?_
    refine Eq.trans (k_ptI rfl s_101 rfl rfl) ?_
    exact rfl
  · exact rfl
theorem b_5_17 {d : Nat} {m : Nat → Nat → Int} {q : Nat → Nat → Option Nat} {w : Option (Nat → Int64)} {u0 u1 u2 : Option Value}   : gv d rR5 17 [u0, u1, u2] [] (mk m q w) =
    some (.inl none, (mk m q w, (0, 0))) := by
  exact k_rtV rfl rfl
theorem e_5 {d : Nat} (hd : 1 ≤ d) {a0 a1 a2 : Value} (M : rMem) (h0 : a0.category = 1) (h1 : a1.category = 1) (h2 : a2.category = 1) : ev d 5 [a0, a1, a2] M = gv (d - 1) rR5 0 [some a0, some a1, some a2] [] M := ev_at hd q_5 rfl (by simp [*]) rfl
/-! FanHouse.isWithin(III)Z -/
theorem b_6_0 {d : Nat} {m : Nat → Nat → Int} {q : Nat → Nat → Option Nat} {w : Option (Nat → Int64)} {v0 v1 v2 : Int}   : gv d rR6 0 [some (.int (iI v0)), some (.int (iI v1)), some (.int (iI v2))] [] (mk m q w) =
    if iI v0 < iI v1 then (gv d rR6 14 [some (.int (iI v0)), some (.int (iI v1)), some (.int (iI v2))] [] (mk m q w)) else (if iI v2 < iI v0 then (gv d rR6 14 [some (.int (iI v0)), some (.int (iI v1)), some (.int (iI v2))] [] (mk m q w)) else (gv d rR6 15 [some (.int (iI v0)), some (.int (iI v1)), some (.int (iI v2))] [.int (iI 1)] (mk m q w))) := by
  refine Eq.trans (k_ild0 rfl) ?_
  refine Eq.trans (k_ild1 rfl) ?_
  refine Eq.trans (k_i2lt rfl rfl) ?_
  refine ifc ?_ ?_
  · exact rfl
  · refine Eq.trans (k_ild0 rfl) ?_
    refine Eq.trans (k_ild2 rfl) ?_
    refine Eq.trans (k_i2gt rfl rfl) ?_
    refine ifc ?_ ?_
    · exact rfl
    · refine Eq.trans (k_con rfl) ?_
      refine Eq.trans (k_go rfl rfl) ?_
      exact rfl
theorem b_6_14 {d : Nat} {m : Nat → Nat → Int} {q : Nat → Nat → Option Nat} {w : Option (Nat → Int64)} {u0 u1 u2 : Option Value}   : gv d rR6 14 [u0, u1, u2] [] (mk m q w) =
    gv d rR6 15 [u0, u1, u2] [.int (iI 0)] (mk m q w) := by
  refine Eq.trans (k_con rfl) ?_
  exact rfl
theorem b_6_15 {d : Nat} {m : Nat → Nat → Int} {q : Nat → Nat → Option Nat} {w : Option (Nat → Int64)} {u0 u1 u2 : Option Value} {s0 : Int}  (g0 : iI s0 = iI 0 ∨ iI s0 = iI 1) : gv d rR6 15 [u0, u1, u2] [.int (iI s0)] (mk m q w) =
    some (.inl (some (.int (iI s0))), (mk m q w, (0, 0))) := by
  exact k_rtZ rfl rfl g0
theorem e_6 {d : Nat} (hd : 1 ≤ d) {a0 a1 a2 : Value} (M : rMem) (h0 : a0.category = 1) (h1 : a1.category = 1) (h2 : a2.category = 1) : ev d 6 [a0, a1, a2] M = gv (d - 1) rR6 0 [some a0, some a1, some a2] [] M := ev_at hd q_6 rfl (by simp [*]) rfl
/-! FanHouse$Tape.number(II)I -/
theorem b_7_0 {d : Nat} {m : Nat → Nat → Int} {q : Nat → Nat → Option Nat} {w : Option (Nat → Int64)} {u3 u4 : Option Value} {v1 v2 : Int}   : gv d rR7 0 [some (.ref 101), some (.int (iI v1)), some (.int (iI v2)), u3, u4] [] (mk m q w) =
    rBd (ev d 1 [.ref 101] (mk m q w)) (fun v M' => gv d rR7 4 [some (.ref 101), some (.int (iI v1)), some (.int (iI v2)), u3, u4] (v.toList ++ []) M') := by
  refine Eq.trans (k_ald0 rfl) ?_
  exact k_cV0 rfl s_101 q_1 rfl rfl rfl (bl rfl)
theorem b_7_4 {d : Nat} {m : Nat → Nat → Int} {q : Nat → Nat → Option Nat} {w : Option (Nat → Int64)} {u3 u4 : Option Value} {v1 v2 s0 : Int}   : gv d rR7 4 [some (.ref 101), some (.int (iI v1)), some (.int (iI v2)), u3, u4] [.int (iI s0)] (mk m q w) =
    if iI s0 = iI 0 then (rBd (ev d 2 [.ref 101] (mk m q w)) (fun v M' => gv d rR7 13 [some (.ref 101), some (.int (iI v1)), some (.int (iI v2)), u3, u4] (v.toList ++ []) M')) else (some (.inl (some (.int (iI v1))), (mk m q w, (0, 0)))) := by
  refine Eq.trans (k_i1eq rfl rfl) ?_
  refine ifc ?_ ?_
  · refine Eq.trans (k_ald0 rfl) ?_
    exact k_cV0 rfl s_101 q_2 rfl rfl rfl (bl rfl)
  · refine Eq.trans (k_ild1 rfl) ?_
    exact k_rtI rfl rfl
theorem b_7_13 {d : Nat} {m : Nat → Nat → Int} {q : Nat → Nat → Option Nat} {w : Option (Nat → Int64)} {u3 u4 : Option Value} {v1 v2 s0 : Int}   : gv d rR7 13 [some (.ref 101), some (.int (iI v1)), some (.int (iI v2)), u3, u4] [.int (iI s0)] (mk m q w) =
    gv d rR7 17 [some (.ref 101), some (.int (iI v1)), some (.int (iI v2)), some (.int (iI s0)), some (.int (iI 0))] [] (mk m q w) := by
  refine Eq.trans (k_ist3 rfl) ?_
  refine Eq.trans (k_con rfl) ?_
  refine Eq.trans (k_ist4 rfl) ?_
  exact rfl
theorem b_7_17 {d : Nat} {m : Nat → Nat → Int} {q : Nat → Nat → Option Nat} {w : Option (Nat → Int64)} {v1 v2 v3 v4 : Int}   : gv d rR7 17 [some (.ref 101), some (.int (iI v1)), some (.int (iI v2)), some (.int (iI v3)), some (.int (iI v4))] [] (mk m q w) =
    if iI (m 101 3) < iI (m 101 2) then (rBd (ev d 3 [.ref 101, .int (iI (m 101 3)), .int (iI 48), .int (iI 57)] (mk m q w)) (fun v M' => gv d rR7 40 [some (.ref 101), some (.int (iI v1)), some (.int (iI v2)), some (.int (iI v3)), some (.int (iI v4))] (v.toList ++ []) M')) else (gv d rR7 82 [some (.ref 101), some (.int (iI v1)), some (.int (iI v2)), some (.int (iI v3)), some (.int (iI v4))] [] (mk m q w)) := by
  refine Eq.trans (k_ald0 rfl) ?_
  refine Eq.trans (k_gtI rfl s_101 rfl (by decide)) ?_
  refine Eq.trans (k_ald0 rfl) ?_
  refine Eq.trans (k_gtI rfl s_101 rfl (by decide)) ?_
  refine Eq.trans (k_i2ge rfl rfl) ?_
  refine ifc ?_ ?_
  · refine Eq.trans (k_ald0 rfl) ?_
    refine Eq.trans (k_ald0 rfl) ?_
    refine Eq.trans (k_gtI rfl s_101 rfl (by decide)) ?_
    refine Eq.trans (k_bip rfl (by decide)) ?_
    refine Eq.trans (k_bip rfl (by decide)) ?_
    exact k_cV3 rfl s_101 q_3 rfl rfl rfl (bl rfl)
  · exact rfl
theorem b_7_40 {d : Nat} {m : Nat → Nat → Int} {q : Nat → Nat → Option Nat} {w : Option (Nat → Int64)} {v1 v2 v3 v4 s0 : Int}   : gv d rR7 40 [some (.ref 101), some (.int (iI v1)), some (.int (iI v2)), some (.int (iI v3)), some (.int (iI v4))] [.int (iI s0)] (mk m q w) =
    if iI s0 = iI 0 then (gv d rR7 82 [some (.ref 101), some (.int (iI v1)), some (.int (iI v2)), some (.int (iI v3)), some (.int (iI v4))] [] (mk m q w)) else (gv d rR7 43 [some (.ref 101), some (.int (iI v1)), some (.int (iI v2)), some (.int (iI v3)), some (.int (iI v4))] [] (mk m q w)) := by
  refine Eq.trans (k_i1eq rfl rfl) ?_
  refine ifc ?_ ?_
  · exact rfl
  · exact rfl
theorem b_7_43 {d : Nat} {m : Nat → Nat → Int} {q : Nat → Nat → Option Nat} {w : Option (Nat → Int64)} {v1 v2 v3 v4 : Int}  (g0 : 0 ≤ (m 101 3)) (g1 : (m 101 3) < 600) (g2 : 9 ≤ d) : gv d rR7 43 [some (.ref 101), some (.int (iI v1)), some (.int (iI v2)), some (.int (iI v3)), some (.int (iI v4))] [] (mk m q w) =
    gv d rR7 17 [some (.ref 101), some (.int (iI v1)), some (.int (iI v2)), some (.int (iI v3)), some (.int (iI (if iI 10000 < iI (((10 * v4) + (m 102 (Int.toNat (m 101 3)))) - 48) then 10000 else (((10 * v4) + (m 102 (Int.toNat (m 101 3)))) - 48))))] [] (mk (wr m 101 3 ((m 101 3) + 1)) q w) := by
  refine Eq.trans (k_bip rfl (by decide)) ?_
  refine Eq.trans (k_ild4 rfl) ?_
  refine Eq.trans (k_mul rfl) ?_
  refine Eq.trans (k_ald0 rfl) ?_
  refine Eq.trans (k_gtR rfl s_101 rfl (by decide)) ?_
  refine Eq.trans (k_ald0 rfl) ?_
  refine Eq.trans (k_gtI rfl s_101 rfl (by decide)) ?_
  refine Eq.trans (k_iald rfl s_102 (bl rfl) g0 g1) ?_
  refine Eq.trans (k_add rfl) ?_
  refine Eq.trans (k_bip rfl (by decide)) ?_
  refine Eq.trans (k_sub rfl) ?_
  refine Eq.trans (k_sip rfl (by decide)) ?_
  refine Eq.trans (k_min rfl g2 (bl rfl)) ?_
  refine Eq.trans (k_ist4 rfl) ?_
  refine Eq.trans (k_ald0 rfl) ?_
  refine Eq.trans (k_dup rfl rfl) ?_
  refine Eq.trans (k_gtI rfl s_101 rfl (by decide)) ?_
  refine Eq.trans (k_con rfl) ?_
  refine Eq.trans (k_add rfl) ?_
  refine Eq.trans (k_ptI rfl s_101 rfl rfl) ?_
  refine Eq.trans (k_go rfl rfl) ?_
  exact rfl
theorem b_7_82 {d : Nat} {m : Nat → Nat → Int} {q : Nat → Nat → Option Nat} {w : Option (Nat → Int64)} {v1 v2 v3 v4 : Int}   : gv d rR7 82 [some (.ref 101), some (.int (iI v1)), some (.int (iI v2)), some (.int (iI v3)), some (.int (iI v4))] [] (mk m q w) =
    if iI (m 101 3) = iI v3 then (rBd (ev d 5 [.ref 101, .int (iI 1), .int (iI v3)] (mk m q w)) (fun v M' => gv d rR7 96 [some (.ref 101), some (.int (iI v1)), some (.int (iI v2)), some (.int (iI v3)), some (.int (iI v4))] (v.toList ++ []) M')) else (rBd (ev d 6 [.int (iI v4), .int (iI v1), .int (iI v2)] (mk m q w)) (fun v M' => gv d rR7 106 [some (.ref 101), some (.int (iI v1)), some (.int (iI v2)), some (.int (iI v3)), some (.int (iI v4))] (v.toList ++ []) M')) := by
  refine Eq.trans (k_ald0 rfl) ?_
  refine Eq.trans (k_gtI rfl s_101 rfl (by decide)) ?_
  refine Eq.trans (k_ild3 rfl) ?_
  refine Eq.trans (k_i2ne rfl rfl) ?_
  refine ifc ?_ ?_
  · refine Eq.trans (k_ald0 rfl) ?_
    refine Eq.trans (k_con rfl) ?_
    refine Eq.trans (k_ild3 rfl) ?_
    exact k_cV2 rfl s_101 q_5 rfl rfl rfl (bl rfl)
  · refine Eq.trans (k_ild4 rfl) ?_
    refine Eq.trans (k_ild1 rfl) ?_
    refine Eq.trans (k_ild2 rfl) ?_
    exact k_cS3 rfl (by decide) q_6 rfl rfl (bl rfl)
theorem b_7_96 {d : Nat} {m : Nat → Nat → Int} {q : Nat → Nat → Option Nat} {w : Option (Nat → Int64)} {u0 u1 u2 u3 : Option Value} {v4 : Int}   : gv d rR7 96 [u0, u1, u2, u3, some (.int (iI v4))] [] (mk m q w) =
    gv d rR7 115 [u0, u1, u2, u3, some (.int (iI v4))] [] (mk m q w) := by
  refine Eq.trans (k_go rfl rfl) ?_
  exact rfl
theorem b_7_106 {d : Nat} {m : Nat → Nat → Int} {q : Nat → Nat → Option Nat} {w : Option (Nat → Int64)} {u1 u2 : Option Value} {v3 v4 s0 : Int}   : gv d rR7 106 [some (.ref 101), u1, u2, some (.int (iI v3)), some (.int (iI v4))] [.int (iI s0)] (mk m q w) =
    if iI s0 = iI 0 then (rBd (ev d 5 [.ref 101, .int (iI 2), .int (iI v3)] (mk m q w)) (fun v M' => gv d rR7 115 [some (.ref 101), u1, u2, some (.int (iI v3)), some (.int (iI v4))] (v.toList ++ []) M')) else (gv d rR7 115 [some (.ref 101), u1, u2, some (.int (iI v3)), some (.int (iI v4))] [] (mk m q w)) := by
  refine Eq.trans (k_i1ne rfl rfl) ?_
  refine ifc ?_ ?_
  · refine Eq.trans (k_ald0 rfl) ?_
    refine Eq.trans (k_con rfl) ?_
    refine Eq.trans (k_ild3 rfl) ?_
    exact k_cV2 rfl s_101 q_5 rfl rfl rfl (bl rfl)
  · exact rfl
theorem b_7_115 {d : Nat} {m : Nat → Nat → Int} {q : Nat → Nat → Option Nat} {w : Option (Nat → Int64)} {u0 u1 u2 u3 : Option Value} {v4 : Int}   : gv d rR7 115 [u0, u1, u2, u3, some (.int (iI v4))] [] (mk m q w) =
    some (.inl (some (.int (iI v4))), (mk m q w, (0, 0))) := by
  refine Eq.trans (k_ild4 rfl) ?_
  exact k_rtI rfl rfl
theorem e_7 {d : Nat} (hd : 1 ≤ d) {a0 a1 a2 : Value} (M : rMem) (h0 : a0.category = 1) (h1 : a1.category = 1) (h2 : a2.category = 1) : ev d 7 [a0, a1, a2] M = gv (d - 1) rR7 0 [some a0, some a1, some a2, none, none] [] M := ev_at hd q_7 rfl (by simp [*]) rfl
/-! FanHouse$Tape.takes(C)Z -/
theorem b_8_0 {d : Nat} {m : Nat → Nat → Int} {q : Nat → Nat → Option Nat} {w : Option (Nat → Int64)} {v1 : Int}   : gv d rR8 0 [some (.ref 101), some (.int (iI v1))] [] (mk m q w) =
    rBd (ev d 1 [.ref 101] (mk m q w)) (fun v M' => gv d rR8 4 [some (.ref 101), some (.int (iI v1))] (v.toList ++ []) M') := by
  refine Eq.trans (k_ald0 rfl) ?_
  exact k_cV0 rfl s_101 q_1 rfl rfl rfl (bl rfl)
theorem b_8_4 {d : Nat} {m : Nat → Nat → Int} {q : Nat → Nat → Option Nat} {w : Option (Nat → Int64)} {v1 s0 : Int}   : gv d rR8 4 [some (.ref 101), some (.int (iI v1))] [.int (iI s0)] (mk m q w) =
    if iI s0 = iI 0 then (rBd (ev d 2 [.ref 101] (mk m q w)) (fun v M' => gv d rR8 12 [some (.ref 101), some (.int (iI v1))] (v.toList ++ [.ref 101]) M')) else (gv d rR8 20 [some (.ref 101), some (.int (iI v1))] [] (mk m q w)) := by
  refine Eq.trans (k_i1ne rfl rfl) ?_
  refine ifc ?_ ?_
  · refine Eq.trans (k_ald0 rfl) ?_
    refine Eq.trans (k_ald0 rfl) ?_
    exact k_cV0 rfl s_101 q_2 rfl rfl rfl (bl rfl)
  · exact rfl
theorem b_8_12 {d : Nat} {m : Nat → Nat → Int} {q : Nat → Nat → Option Nat} {w : Option (Nat → Int64)} {v1 s1 : Int}   : gv d rR8 12 [some (.ref 101), some (.int (iI v1))] [.int (iI s1), .ref 101] (mk m q w) =
    rBd (ev d 3 [.ref 101, .int (iI s1), .int (iI v1), .int (iI v1)] (mk m q w)) (fun v M' => gv d rR8 17 [some (.ref 101), some (.int (iI v1))] (v.toList ++ []) M') := by
  refine Eq.trans (k_ild1 rfl) ?_
  refine Eq.trans (k_ild1 rfl) ?_
  exact k_cV3 rfl s_101 q_3 rfl rfl rfl (bl rfl)
theorem b_8_17 {d : Nat} {m : Nat → Nat → Int} {q : Nat → Nat → Option Nat} {w : Option (Nat → Int64)} {u1 : Option Value} {s0 : Int}   : gv d rR8 17 [some (.ref 101), u1] [.int (iI s0)] (mk m q w) =
    if iI s0 = iI 0 then (gv d rR8 20 [some (.ref 101), u1] [] (mk m q w)) else (some (.inl (some (.int (iI 1))), (mk (wr m 101 3 ((m 101 3) + 1)) q w, (0, 0)))) := by
  refine Eq.trans (k_i1ne rfl rfl) ?_
  refine ifc ?_ ?_
  · exact rfl
  · refine Eq.trans (k_ald0 rfl) ?_
    refine Eq.trans (k_dup rfl rfl) ?_
    refine Eq.trans (k_gtI rfl s_101 rfl (by decide)) ?_
    refine Eq.trans (k_con rfl) ?_
    refine Eq.trans (k_add rfl) ?_
    refine Eq.trans (k_ptI rfl s_101 rfl rfl) ?_
    refine Eq.trans (k_con rfl) ?_
    exact k_rtZ rfl rfl (Or.inr rfl)
theorem b_8_20 {d : Nat} {m : Nat → Nat → Int} {q : Nat → Nat → Option Nat} {w : Option (Nat → Int64)} {u0 u1 : Option Value}   : gv d rR8 20 [u0, u1] [] (mk m q w) =
    some (.inl (some (.int (iI 0))), (mk m q w, (0, 0))) := by
  refine Eq.trans (k_con rfl) ?_
  exact k_rtZ rfl rfl (Or.inl rfl)
theorem e_8 {d : Nat} (hd : 1 ≤ d) {a0 a1 : Value} (M : rMem) (h0 : a0.category = 1) (h1 : a1.category = 1) : ev d 8 [a0, a1] M = gv (d - 1) rR8 0 [some a0, some a1] [] M := ev_at hd q_8 rfl (by simp [*]) rfl
/-! FanHouse$Tape.expect(C)V -/
theorem b_9_0 {d : Nat} {m : Nat → Nat → Int} {q : Nat → Nat → Option Nat} {w : Option (Nat → Int64)} {u2 : Option Value} {v1 : Int}   : gv d rR9 0 [some (.ref 101), some (.int (iI v1)), u2] [] (mk m q w) =
    rBd (ev d 1 [.ref 101] (mk m q w)) (fun v M' => gv d rR9 4 [some (.ref 101), some (.int (iI v1)), u2] (v.toList ++ []) M') := by
  refine Eq.trans (k_ald0 rfl) ?_
  exact k_cV0 rfl s_101 q_1 rfl rfl rfl (bl rfl)
theorem b_9_4 {d : Nat} {m : Nat → Nat → Int} {q : Nat → Nat → Option Nat} {w : Option (Nat → Int64)} {u2 : Option Value} {v1 s0 : Int}   : gv d rR9 4 [some (.ref 101), some (.int (iI v1)), u2] [.int (iI s0)] (mk m q w) =
    if iI s0 = iI 0 then (rBd (ev d 2 [.ref 101] (mk m q w)) (fun v M' => gv d rR9 12 [some (.ref 101), some (.int (iI v1)), u2] (v.toList ++ []) M')) else (some (.inl none, (mk m q w, (0, 0)))) := by
  refine Eq.trans (k_i1eq rfl rfl) ?_
  refine ifc ?_ ?_
  · refine Eq.trans (k_ald0 rfl) ?_
    exact k_cV0 rfl s_101 q_2 rfl rfl rfl (bl rfl)
  · exact k_rtV rfl rfl
theorem b_9_12 {d : Nat} {m : Nat → Nat → Int} {q : Nat → Nat → Option Nat} {w : Option (Nat → Int64)} {u2 : Option Value} {v1 s0 : Int}   : gv d rR9 12 [some (.ref 101), some (.int (iI v1)), u2] [.int (iI s0)] (mk m q w) =
    rBd (ev d 3 [.ref 101, .int (iI s0), .int (iI v1), .int (iI v1)] (mk m q w)) (fun v M' => gv d rR9 20 [some (.ref 101), some (.int (iI v1)), some (.int (iI s0))] (v.toList ++ []) M') := by
  refine Eq.trans (k_ist2 rfl) ?_
  refine Eq.trans (k_ald0 rfl) ?_
  refine Eq.trans (k_ild2 rfl) ?_
  refine Eq.trans (k_ild1 rfl) ?_
  refine Eq.trans (k_ild1 rfl) ?_
  exact k_cV3 rfl s_101 q_3 rfl rfl rfl (bl rfl)
theorem b_9_20 {d : Nat} {m : Nat → Nat → Int} {q : Nat → Nat → Option Nat} {w : Option (Nat → Int64)} {u1 : Option Value} {v2 s0 : Int}   : gv d rR9 20 [some (.ref 101), u1, some (.int (iI v2))] [.int (iI s0)] (mk m q w) =
    if iI s0 = iI 0 then (rBd (ev d 5 [.ref 101, .int (iI 1), .int (iI v2)] (mk m q w)) (fun v M' => gv d rR9 42 [some (.ref 101), u1, some (.int (iI v2))] (v.toList ++ []) M')) else (gv d rR9 42 [some (.ref 101), u1, some (.int (iI v2))] [] (mk (wr m 101 3 ((m 101 3) + 1)) q w)) := by
  refine Eq.trans (k_i1eq rfl rfl) ?_
  refine ifc ?_ ?_
  · refine Eq.trans (k_ald0 rfl) ?_
    refine Eq.trans (k_con rfl) ?_
    refine Eq.trans (k_ild2 rfl) ?_
    exact k_cV2 rfl s_101 q_5 rfl rfl rfl (bl rfl)
  · refine Eq.trans (k_ald0 rfl) ?_
    refine Eq.trans (k_dup rfl rfl) ?_
    refine Eq.trans (k_gtI rfl s_101 rfl (by decide)) ?_
    refine Eq.trans (k_con rfl) ?_
    refine Eq.trans (k_add rfl) ?_
    refine Eq.trans (k_ptI rfl s_101 rfl rfl) ?_
    refine Eq.trans (k_go rfl rfl) ?_
    exact rfl
theorem b_9_42 {d : Nat} {m : Nat → Nat → Int} {q : Nat → Nat → Option Nat} {w : Option (Nat → Int64)} {u0 u1 u2 : Option Value}   : gv d rR9 42 [u0, u1, u2] [] (mk m q w) =
    some (.inl none, (mk m q w, (0, 0))) := by
  exact k_rtV rfl rfl
theorem e_9 {d : Nat} (hd : 1 ≤ d) {a0 a1 : Value} (M : rMem) (h0 : a0.category = 1) (h1 : a1.category = 1) : ev d 9 [a0, a1] M = gv (d - 1) rR9 0 [some a0, some a1, none] [] M := ev_at hd q_9 rfl (by simp [*]) rfl
/-! FanHouse$Book.readFrom(LFanHouse$Tape;)V -/
theorem b_10_0 {d : Nat} {m : Nat → Nat → Int} {q : Nat → Nat → Option Nat} {w : Option (Nat → Int64)} {u2 u3 u4 : Option Value} {x : Nat} (hx : iBook x)  : gv d rR10 0 [some (.ref x), some (.ref 101), u2, u3, u4] [] (mk m q w) =
    gv d rR10 7 [some (.ref x), some (.ref 101), some (.int (iI 0)), u3, u4] [] (mk (wr m x 3 0) q w) := by
  refine Eq.trans (k_ald0 rfl) ?_
  refine Eq.trans (k_con rfl) ?_
  refine Eq.trans (k_ptI rfl (book_0 hx) rfl rfl) ?_
  refine Eq.trans (k_con rfl) ?_
  refine Eq.trans (k_ist2 rfl) ?_
  exact rfl
theorem b_10_7 {d : Nat} {m : Nat → Nat → Int} {q : Nat → Nat → Option Nat} {w : Option (Nat → Int64)} {u3 u4 : Option Value} {v2 : Int} {x : Nat} (hx : iBook x)  : gv d rR10 7 [some (.ref x), some (.ref 101), some (.int (iI v2)), u3, u4] [] (mk m q w) =
    if iI v2 < iI 60 then (rBd (ev d 4 [.ref 101] (mk m q w)) (fun v M' => gv d rR10 17 [some (.ref x), some (.ref 101), some (.int (iI v2)), u3, u4] (v.toList ++ []) M')) else (gv d rR10 114 [some (.ref x), some (.ref 101), some (.int (iI v2)), u3, u4] [] (mk m q w)) := by
  refine Eq.trans (k_ild2 rfl) ?_
  refine Eq.trans (k_bip rfl (by decide)) ?_
  refine Eq.trans (k_i2ge rfl rfl) ?_
  refine ifc ?_ ?_
  · refine Eq.trans (k_ald1 rfl) ?_
    exact k_cV0 rfl s_101 q_4 rfl rfl rfl (bl rfl)
  · exact rfl
theorem b_10_17 {d : Nat} {m : Nat → Nat → Int} {q : Nat → Nat → Option Nat} {w : Option (Nat → Int64)} {u3 u4 : Option Value} {v2 s0 : Int} {x : Nat} (hx : iBook x)  : gv d rR10 17 [some (.ref x), some (.ref 101), some (.int (iI v2)), u3, u4] [.int (iI s0)] (mk m q w) =
    if iI s0 = iI 0 then (gv d rR10 114 [some (.ref x), some (.ref 101), some (.int (iI v2)), u3, u4] [] (mk m q w)) else (rBd (ev d 2 [.ref 101] (mk m q w)) (fun v M' => gv d rR10 24 [some (.ref x), some (.ref 101), some (.int (iI v2)), u3, u4] (v.toList ++ []) M')) := by
  refine Eq.trans (k_i1eq rfl rfl) ?_
  refine ifc ?_ ?_
  · exact rfl
  · refine Eq.trans (k_ald1 rfl) ?_
    exact k_cV0 rfl s_101 q_2 rfl rfl rfl (bl rfl)
theorem b_10_24 {d : Nat} {m : Nat → Nat → Int} {q : Nat → Nat → Option Nat} {w : Option (Nat → Int64)} {u3 u4 : Option Value} {v2 s0 : Int} {x : Nat} (hx : iBook x)  : gv d rR10 24 [some (.ref x), some (.ref 101), some (.int (iI v2)), u3, u4] [.int (iI s0)] (mk m q w) =
    rBd (ev d 7 [.ref 101, .int (iI 0), .int (iI 3)] (mk m q w)) (fun v M' => gv d rR10 31 [some (.ref x), some (.ref 101), some (.int (iI v2)), some (.int (iI s0)), u4] (v.toList ++ []) M') := by
  refine Eq.trans (k_ist3 rfl) ?_
  refine Eq.trans (k_ald1 rfl) ?_
  refine Eq.trans (k_con rfl) ?_
  refine Eq.trans (k_con rfl) ?_
  exact k_cV2 rfl s_101 q_7 rfl rfl rfl (bl rfl)
theorem b_10_31 {d : Nat} {m : Nat → Nat → Int} {q : Nat → Nat → Option Nat} {w : Option (Nat → Int64)} {u4 : Option Value} {v2 v3 s0 : Int} {x : Nat} (hx : iBook x)  : gv d rR10 31 [some (.ref x), some (.ref 101), some (.int (iI v2)), some (.int (iI v3)), u4] [.int (iI s0)] (mk m q w) =
    if iI (m x 3) < iI 7 then (gv d rR10 49 [some (.ref x), some (.ref 101), some (.int (iI v2)), some (.int (iI v3)), some (.int (iI s0))] [] (mk m q w)) else (rBd (ev d 5 [.ref 101, .int (iI 3), .int (iI v3)] (mk m q w)) (fun v M' => gv d rR10 48 [some (.ref x), some (.ref 101), some (.int (iI v2)), some (.int (iI v3)), some (.int (iI s0))] (v.toList ++ []) M')) := by
  refine Eq.trans (k_ist4 rfl) ?_
  refine Eq.trans (k_ald0 rfl) ?_
  refine Eq.trans (k_gtI rfl (book_0 hx) rfl (by decide)) ?_
  refine Eq.trans (k_bip rfl (by decide)) ?_
  refine Eq.trans (k_i2lt rfl rfl) ?_
  refine ifc ?_ ?_
  · exact rfl
  · refine Eq.trans (k_ald1 rfl) ?_
    refine Eq.trans (k_con rfl) ?_
    refine Eq.trans (k_ild3 rfl) ?_
    exact k_cV2 rfl s_101 q_5 rfl rfl rfl (bl rfl)
theorem b_10_48 {d : Nat} {m : Nat → Nat → Int} {q : Nat → Nat → Option Nat} {w : Option (Nat → Int64)} {u0 u1 u2 u3 u4 : Option Value}   : gv d rR10 48 [u0, u1, u2, u3, u4] [] (mk m q w) =
    some (.inl none, (mk m q w, (0, 0))) := by
  exact k_rtV rfl rfl
theorem b_10_49 {d : Nat} {m : Nat → Nat → Int} {q : Nat → Nat → Option Nat} {w : Option (Nat → Int64)} {u3 : Option Value} {v2 v4 : Int} {x : Nat} (hx : iBook x) (g0 : 0 ≤ (m x 3)) (g1 : (m x 3) < 7) : gv d rR10 49 [some (.ref x), some (.ref 101), some (.int (iI v2)), u3, some (.int (iI v4))] [] (mk m q w) =
    rBd (ev d 7 [.ref 101, .int (iI 0), .int (iI 6)] (mk (wr m (x + 1) (Int.toNat (m x 3)) v4) q w)) (fun v M' => gv d rR10 75 [some (.ref x), some (.ref 101), some (.int (iI v2)), u3, some (.int (iI v4))] (v.toList ++ [.int (iI ((wr m (x + 1) (Int.toNat (m x 3)) v4) x 3)), .ref (x + 2)]) M') := by
  refine Eq.trans (k_ald0 rfl) ?_
  refine Eq.trans (k_gtR rfl (book_0 hx) rfl (by decide)) ?_
  refine Eq.trans (k_ald0 rfl) ?_
  refine Eq.trans (k_gtI rfl (book_0 hx) rfl (by decide)) ?_
  refine Eq.trans (k_ild4 rfl) ?_
  refine Eq.trans (k_iast rfl (book_1 hx) (bl rfl) g0 g1) ?_
  refine Eq.trans (k_ald0 rfl) ?_
  refine Eq.trans (k_gtR rfl (book_0 hx) rfl (by decide)) ?_
  refine Eq.trans (k_ald0 rfl) ?_
  refine Eq.trans (k_gtI rfl (book_0 hx) rfl (by decide)) ?_
  refine Eq.trans (k_ald1 rfl) ?_
  refine Eq.trans (k_con rfl) ?_
  refine Eq.trans (k_bip rfl (by decide)) ?_
  exact k_cV2 rfl s_101 q_7 rfl rfl rfl (bl rfl)
theorem b_10_75 {d : Nat} {m : Nat → Nat → Int} {q : Nat → Nat → Option Nat} {w : Option (Nat → Int64)} {u3 u4 : Option Value} {v2 s1 s2 : Int} {x : Nat} (hx : iBook x) (g0 : 0 ≤ s1) (g1 : s1 < 7) : gv d rR10 75 [some (.ref x), some (.ref 101), some (.int (iI v2)), u3, u4] [.int (iI s2), .int (iI s1), .ref (x + 2)] (mk m q w) =
    rBd (ev d 7 [.ref 101, .int (iI 0), .int (iI 15)] (mk (wr m (x + 2) (Int.toNat s1) s2) q w)) (fun v M' => gv d rR10 91 [some (.ref x), some (.ref 101), some (.int (iI v2)), u3, u4] (v.toList ++ [.int (iI ((wr m (x + 2) (Int.toNat s1) s2) x 3)), .ref (x + 3)]) M') := by
  refine Eq.trans (k_iast rfl (book_2 hx) (bl rfl) g0 g1) ?_
  refine Eq.trans (k_ald0 rfl) ?_
  refine Eq.trans (k_gtR rfl (book_0 hx) rfl (by decide)) ?_
  refine Eq.trans (k_ald0 rfl) ?_
  refine Eq.trans (k_gtI rfl (book_0 hx) rfl (by decide)) ?_
  refine Eq.trans (k_ald1 rfl) ?_
  refine Eq.trans (k_con rfl) ?_
  refine Eq.trans (k_bip rfl (by decide)) ?_
  exact k_cV2 rfl s_101 q_7 rfl rfl rfl (bl rfl)
theorem b_10_91 {d : Nat} {m : Nat → Nat → Int} {q : Nat → Nat → Option Nat} {w : Option (Nat → Int64)} {u3 u4 : Option Value} {v2 s1 s2 : Int} {x : Nat} (hx : iBook x) (g0 : 0 ≤ s1) (g1 : s1 < 7) : gv d rR10 91 [some (.ref x), some (.ref 101), some (.int (iI v2)), u3, u4] [.int (iI s2), .int (iI s1), .ref (x + 3)] (mk m q w) =
    rBd (ev d 9 [.ref 101, .int (iI 59)] (mk (wr (wr m (x + 3) (Int.toNat s1) s2) x 3 (((wr m (x + 3) (Int.toNat s1) s2) x 3) + 1)) q w)) (fun v M' => gv d rR10 108 [some (.ref x), some (.ref 101), some (.int (iI v2)), u3, u4] (v.toList ++ []) M') := by
  refine Eq.trans (k_iast rfl (book_3 hx) (bl rfl) g0 g1) ?_
  refine Eq.trans (k_ald0 rfl) ?_
  refine Eq.trans (k_dup rfl rfl) ?_
  refine Eq.trans (k_gtI rfl (book_0 hx) rfl (by decide)) ?_
  refine Eq.trans (k_con rfl) ?_
  refine Eq.trans (k_add rfl) ?_
  refine Eq.trans (k_ptI rfl (book_0 hx) rfl rfl) ?_
  refine Eq.trans (k_ald1 rfl) ?_
  refine Eq.trans (k_bip rfl (by decide)) ?_
  exact k_cV1 rfl s_101 q_9 rfl rfl rfl (bl rfl)
theorem b_10_108 {d : Nat} {m : Nat → Nat → Int} {q : Nat → Nat → Option Nat} {w : Option (Nat → Int64)} {u3 u4 : Option Value} {v2 : Int} {x : Nat} (hx : iBook x)  : gv d rR10 108 [some (.ref x), some (.ref 101), some (.int (iI v2)), u3, u4] [] (mk m q w) =
    gv d rR10 7 [some (.ref x), some (.ref 101), some (.int (iI (v2 + 1))), u3, u4] [] (mk m q w) := by
  refine Eq.trans (k_inc2 rfl) ?_
  refine Eq.trans (k_go rfl rfl) ?_
  exact rfl
theorem b_10_114 {d : Nat} {m : Nat → Nat → Int} {q : Nat → Nat → Option Nat} {w : Option (Nat → Int64)} {u0 u1 u2 u3 u4 : Option Value}   : gv d rR10 114 [u0, u1, u2, u3, u4] [] (mk m q w) =
    some (.inl none, (mk m q w, (0, 0))) := by
  exact k_rtV rfl rfl
theorem e_10 {d : Nat} (hd : 1 ≤ d) {a0 a1 : Value} (M : rMem) (h0 : a0.category = 1) (h1 : a1.category = 1) : ev d 10 [a0, a1] M = gv (d - 1) rR10 0 [some a0, some a1, none, none, none] [] M := ev_at hd q_10 rfl (by simp [*]) rfl
/-! FanHouse$Book.tellsOf(II)Z -/
theorem b_11_0 {d : Nat} {m : Nat → Nat → Int} {q : Nat → Nat → Option Nat} {w : Option (Nat → Int64)} {u3 : Option Value} {v1 v2 : Int} {x : Nat} (hx : iBook x)  : gv d rR11 0 [some (.ref x), some (.int (iI v1)), some (.int (iI v2)), u3] [] (mk m q w) =
    gv d rR11 2 [some (.ref x), some (.int (iI v1)), some (.int (iI v2)), some (.int (iI 0))] [] (mk m q w) := by
  refine Eq.trans (k_con rfl) ?_
  refine Eq.trans (k_ist3 rfl) ?_
  exact rfl
theorem b_11_2 {d : Nat} {m : Nat → Nat → Int} {q : Nat → Nat → Option Nat} {w : Option (Nat → Int64)} {v1 v2 v3 : Int} {x : Nat} (hx : iBook x)  : gv d rR11 2 [some (.ref x), some (.int (iI v1)), some (.int (iI v2)), some (.int (iI v3))] [] (mk m q w) =
    if iI v3 < iI (m x 3) then (gv d rR11 10 [some (.ref x), some (.int (iI v1)), some (.int (iI v2)), some (.int (iI v3))] [] (mk m q w)) else (some (.inl (some (.int (iI 0))), (mk m q w, (0, 0)))) := by
  refine Eq.trans (k_ild3 rfl) ?_
  refine Eq.trans (k_ald0 rfl) ?_
  refine Eq.trans (k_gtI rfl (book_0 hx) rfl (by decide)) ?_
  refine Eq.trans (k_i2ge rfl rfl) ?_
  refine ifc ?_ ?_
  · exact rfl
  · refine Eq.trans (k_con rfl) ?_
    exact k_rtZ rfl rfl (Or.inl rfl)
theorem b_11_10 {d : Nat} {m : Nat → Nat → Int} {q : Nat → Nat → Option Nat} {w : Option (Nat → Int64)} {v1 v2 v3 : Int} {x : Nat} (hx : iBook x) (g0 : 0 ≤ v3) (g1 : v3 < 7) : gv d rR11 10 [some (.ref x), some (.int (iI v1)), some (.int (iI v2)), some (.int (iI v3))] [] (mk m q w) =
    if iI (m (x + 1) (Int.toNat v3)) = iI v1 then (if iI (m (x + 2) (Int.toNat v3)) = iI v2 then (some (.inl (some (.int (iI 1))), (mk m q w, (0, 0)))) else (gv d rR11 32 [some (.ref x), some (.int (iI v1)), some (.int (iI v2)), some (.int (iI v3))] [] (mk m q w))) else (gv d rR11 32 [some (.ref x), some (.int (iI v1)), some (.int (iI v2)), some (.int (iI v3))] [] (mk m q w)) := by
  refine Eq.trans (k_ald0 rfl) ?_
  refine Eq.trans (k_gtR rfl (book_0 hx) rfl (by decide)) ?_
  refine Eq.trans (k_ild3 rfl) ?_
  refine Eq.trans (k_iald rfl (book_1 hx) (bl rfl) g0 g1) ?_
  refine Eq.trans (k_ild1 rfl) ?_
  refine Eq.trans (k_i2ne rfl rfl) ?_
  refine ifc ?_ ?_
  · refine Eq.trans (k_ald0 rfl) ?_
    refine Eq.trans (k_gtR rfl (book_0 hx) rfl (by decide)) ?_
    refine Eq.trans (k_ild3 rfl) ?_
    refine Eq.trans (k_iald rfl (book_2 hx) (bl rfl) g0 g1) ?_
    refine Eq.trans (k_ild2 rfl) ?_
    refine Eq.trans (k_i2ne rfl rfl) ?_
    refine ifc ?_ ?_
    · refine Eq.trans (k_con rfl) ?_
      exact k_rtZ rfl rfl (Or.inr rfl)
    · exact rfl
  · exact rfl
theorem b_11_32 {d : Nat} {m : Nat → Nat → Int} {q : Nat → Nat → Option Nat} {w : Option (Nat → Int64)} {v1 v2 v3 : Int} {x : Nat} (hx : iBook x)  : gv d rR11 32 [some (.ref x), some (.int (iI v1)), some (.int (iI v2)), some (.int (iI v3))] [] (mk m q w) =
    gv d rR11 2 [some (.ref x), some (.int (iI v1)), some (.int (iI v2)), some (.int (iI (v3 + 1)))] [] (mk m q w) := by
  refine Eq.trans (k_inc3 rfl) ?_
  refine Eq.trans (k_go rfl rfl) ?_
  exact rfl
theorem e_11 {d : Nat} (hd : 1 ≤ d) {a0 a1 a2 : Value} (M : rMem) (h0 : a0.category = 1) (h1 : a1.category = 1) (h2 : a2.category = 1) : ev d 11 [a0, a1, a2] M = gv (d - 1) rR11 0 [some a0, some a1, some a2, none] [] M := ev_at hd q_11 rfl (by simp [*]) rfl
/-! FanHouse$Fan.placeIn(II)I -/
theorem b_12_0 {d : Nat} {m : Nat → Nat → Int} {q : Nat → Nat → Option Nat} {w : Option (Nat → Int64)} {v1 v2 : Int} {x : Nat} (hx : iFan x)  : gv d rR12 0 [some (.ref x), some (.int (iI v1)), some (.int (iI v2))] [] (mk m q w) =
    if iI v1 < iI 2 then (gv d rR12 17 [some (.ref x), some (.int (iI v1)), some (.int (iI v2))] [.int (iI v2)] (mk m q w)) else (gv d rR12 17 [some (.ref x), some (.int (iI v1)), some (.int (iI v2))] [.int (iI (((m x 0) - 1) - v2))] (mk m q w)) := by
  refine Eq.trans (k_ild1 rfl) ?_
  refine Eq.trans (k_con rfl) ?_
  refine Eq.trans (k_i2ge rfl rfl) ?_
  refine ifc ?_ ?_
  · refine Eq.trans (k_ild2 rfl) ?_
    refine Eq.trans (k_go rfl rfl) ?_
    exact rfl
  · refine Eq.trans (k_ald0 rfl) ?_
    refine Eq.trans (k_gtI rfl (fan_0 hx) rfl (by decide)) ?_
    refine Eq.trans (k_con rfl) ?_
    refine Eq.trans (k_sub rfl) ?_
    refine Eq.trans (k_ild2 rfl) ?_
    refine Eq.trans (k_sub rfl) ?_
    exact rfl
theorem b_12_17 {d : Nat} {m : Nat → Nat → Int} {q : Nat → Nat → Option Nat} {w : Option (Nat → Int64)} {u0 u1 u2 : Option Value} {s0 : Int}   : gv d rR12 17 [u0, u1, u2] [.int (iI s0)] (mk m q w) =
    some (.inl (some (.int (iI s0))), (mk m q w, (0, 0))) := by
  exact k_rtI rfl rfl
theorem e_12 {d : Nat} (hd : 1 ≤ d) {a0 a1 a2 : Value} (M : rMem) (h0 : a0.category = 1) (h1 : a1.category = 1) (h2 : a2.category = 1) : ev d 12 [a0, a1, a2] M = gv (d - 1) rR12 0 [some a0, some a1, some a2] [] M := ev_at hd q_12 rfl (by simp [*]) rfl
/-! FanHouse$Fan.isPlace(I)Z -/
theorem b_13_0 {d : Nat} {m : Nat → Nat → Int} {q : Nat → Nat → Option Nat} {w : Option (Nat → Int64)} {v1 : Int} {x : Nat} (hx : iFan x)  : gv d rR13 0 [some (.ref x), some (.int (iI v1))] [] (mk m q w) =
    rBd (ev d 6 [.int (iI v1), .int (iI 0), .int (iI ((m x 0) - 1))] (mk m q w)) (fun v M' => gv d rR13 11 [some (.ref x), some (.int (iI v1))] (v.toList ++ []) M') := by
  refine Eq.trans (k_ild1 rfl) ?_
  refine Eq.trans (k_con rfl) ?_
  refine Eq.trans (k_ald0 rfl) ?_
  refine Eq.trans (k_gtI rfl (fan_0 hx) rfl (by decide)) ?_
  refine Eq.trans (k_con rfl) ?_
  refine Eq.trans (k_sub rfl) ?_
  exact k_cS3 rfl (by decide) q_6 rfl rfl (bl rfl)
theorem b_13_11 {d : Nat} {m : Nat → Nat → Int} {q : Nat → Nat → Option Nat} {w : Option (Nat → Int64)} {u0 u1 : Option Value} {s0 : Int}  (g0 : iI s0 = iI 0 ∨ iI s0 = iI 1) : gv d rR13 11 [u0, u1] [.int (iI s0)] (mk m q w) =
    some (.inl (some (.int (iI s0))), (mk m q w, (0, 0))) := by
  exact k_rtZ rfl rfl g0
theorem e_13 {d : Nat} (hd : 1 ≤ d) {a0 a1 : Value} (M : rMem) (h0 : a0.category = 1) (h1 : a1.category = 1) : ev d 13 [a0, a1] M = gv (d - 1) rR13 0 [some a0, some a1] [] M := ev_at hd q_13 rfl (by simp [*]) rfl
/-! FanHouse$Fan.isOver(I)Z -/
theorem b_14_0 {d : Nat} {m : Nat → Nat → Int} {q : Nat → Nat → Option Nat} {w : Option (Nat → Int64)} {v1 : Int} {x : Nat} (hx : iFan x)  : gv d rR14 0 [some (.ref x), some (.int (iI v1))] [] (mk m q w) =
    if iI (zAnd (zShr (m x 6) v1) 1) = iI 1 then (gv d rR14 17 [some (.ref x), some (.int (iI v1))] [.int (iI 1)] (mk m q w)) else (gv d rR14 17 [some (.ref x), some (.int (iI v1))] [.int (iI 0)] (mk m q w)) := by
  refine Eq.trans (k_ald0 rfl) ?_
  refine Eq.trans (k_gtI rfl (fan_0 hx) rfl (by decide)) ?_
  refine Eq.trans (k_ild1 rfl) ?_
  refine Eq.trans (k_shr rfl) ?_
  refine Eq.trans (k_con rfl) ?_
  refine Eq.trans (k_and rfl) ?_
  refine Eq.trans (k_con rfl) ?_
  refine Eq.trans (k_i2ne rfl rfl) ?_
  refine ifc ?_ ?_
  · refine Eq.trans (k_con rfl) ?_
    refine Eq.trans (k_go rfl rfl) ?_
    exact rfl
  · refine Eq.trans (k_con rfl) ?_
    exact rfl
theorem b_14_17 {d : Nat} {m : Nat → Nat → Int} {q : Nat → Nat → Option Nat} {w : Option (Nat → Int64)} {u0 u1 : Option Value} {s0 : Int}  (g0 : iI s0 = iI 0 ∨ iI s0 = iI 1) : gv d rR14 17 [u0, u1] [.int (iI s0)] (mk m q w) =
    some (.inl (some (.int (iI s0))), (mk m q w, (0, 0))) := by
  exact k_rtZ rfl rfl g0
theorem e_14 {d : Nat} (hd : 1 ≤ d) {a0 a1 : Value} (M : rMem) (h0 : a0.category = 1) (h1 : a1.category = 1) : ev d 14 [a0, a1] M = gv (d - 1) rR14 0 [some a0, some a1] [] M := ev_at hd q_14 rfl (by simp [*]) rfl
/-! FanHouse$Fan.toldHalf(II)I -/
theorem b_15_0 {d : Nat} {m : Nat → Nat → Int} {q : Nat → Nat → Option Nat} {w : Option (Nat → Int64)} {v1 v2 : Int} {x : Nat} (hx : iFan x)  : gv d rR15 0 [some (.ref x), some (.int (iI v1)), some (.int (iI v2))] [] (mk m q w) =
    rBd (ev d 14 [.ref x, .int (iI v1)] (mk m q w)) (fun v M' => gv d rR15 5 [some (.ref x), some (.int (iI v1)), some (.int (iI v2))] (v.toList ++ []) M') := by
  refine Eq.trans (k_ald0 rfl) ?_
  refine Eq.trans (k_ild1 rfl) ?_
  exact k_cV1 rfl (fan_0 hx) q_14 rfl rfl rfl (bl rfl)
theorem b_15_5 {d : Nat} {m : Nat → Nat → Int} {q : Nat → Nat → Option Nat} {w : Option (Nat → Int64)} {u0 u1 : Option Value} {v2 s0 : Int}   : gv d rR15 5 [u0, u1, some (.int (iI v2))] [.int (iI s0)] (mk m q w) =
    if iI s0 = iI 0 then (gv d rR15 15 [u0, u1, some (.int (iI v2))] [.int (iI v2)] (mk m q w)) else (gv d rR15 15 [u0, u1, some (.int (iI v2))] [.int (iI (3 - v2))] (mk m q w)) := by
  refine Eq.trans (k_i1eq rfl rfl) ?_
  refine ifc ?_ ?_
  · refine Eq.trans (k_ild2 rfl) ?_
    exact rfl
  · refine Eq.trans (k_con rfl) ?_
    refine Eq.trans (k_ild2 rfl) ?_
    refine Eq.trans (k_sub rfl) ?_
    refine Eq.trans (k_go rfl rfl) ?_
    exact rfl
theorem b_15_15 {d : Nat} {m : Nat → Nat → Int} {q : Nat → Nat → Option Nat} {w : Option (Nat → Int64)} {u0 u1 u2 : Option Value} {s0 : Int}   : gv d rR15 15 [u0, u1, u2] [.int (iI s0)] (mk m q w) =
    some (.inl (some (.int (iI s0))), (mk m q w, (0, 0))) := by
  exact k_rtI rfl rfl
theorem e_15 {d : Nat} (hd : 1 ≤ d) {a0 a1 a2 : Value} (M : rMem) (h0 : a0.category = 1) (h1 : a1.category = 1) (h2 : a2.category = 1) : ev d 15 [a0, a1, a2] M = gv (d - 1) rR15 0 [some a0, some a1, some a2] [] M := ev_at hd q_15 rfl (by simp [*]) rfl
/-! FanHouse$Fan.isHalf(II)Z -/
theorem b_16_0 {d : Nat} {m : Nat → Nat → Int} {q : Nat → Nat → Option Nat} {w : Option (Nat → Int64)} {v0 v1 : Int}   : gv d rR16 0 [some (.int (iI v0)), some (.int (iI v1))] [] (mk m q w) =
    if iI v0 < iI 0 then (gv d rR16 23 [some (.int (iI v0)), some (.int (iI v1))] [] (mk m q w)) else (if iI v0 < iI 7 then (if iI v1 < iI 0 then (gv d rR16 23 [some (.int (iI v0)), some (.int (iI v1))] [] (mk m q w)) else (if iI v1 < iI 4 then (gv d rR16 24 [some (.int (iI v0)), some (.int (iI v1))] [.int (iI 1)] (mk m q w)) else (gv d rR16 23 [some (.int (iI v0)), some (.int (iI v1))] [] (mk m q w)))) else (gv d rR16 23 [some (.int (iI v0)), some (.int (iI v1))] [] (mk m q w))) := by
  refine Eq.trans (k_ild0 rfl) ?_
  refine Eq.trans (k_i1lt rfl rfl) ?_
  refine ifc ?_ ?_
  · exact rfl
  · refine Eq.trans (k_ild0 rfl) ?_
    refine Eq.trans (k_bip rfl (by decide)) ?_
    refine Eq.trans (k_i2ge rfl rfl) ?_
    refine ifc ?_ ?_
    · refine Eq.trans (k_ild1 rfl) ?_
      refine Eq.trans (k_i1lt rfl rfl) ?_
      refine ifc ?_ ?_
      · exact rfl
      · refine Eq.trans (k_ild1 rfl) ?_
        refine Eq.trans (k_con rfl) ?_
        refine Eq.trans (k_i2ge rfl rfl) ?_
        refine ifc ?_ ?_
        · refine Eq.trans (k_con rfl) ?_
          refine Eq.trans (k_go rfl rfl) ?_
          exact rfl
        · exact rfl
    · exact rfl
theorem b_16_23 {d : Nat} {m : Nat → Nat → Int} {q : Nat → Nat → Option Nat} {w : Option (Nat → Int64)} {u0 u1 : Option Value}   : gv d rR16 23 [u0, u1] [] (mk m q w) =
    gv d rR16 24 [u0, u1] [.int (iI 0)] (mk m q w) := by
  refine Eq.trans (k_con rfl) ?_
  exact rfl
theorem b_16_24 {d : Nat} {m : Nat → Nat → Int} {q : Nat → Nat → Option Nat} {w : Option (Nat → Int64)} {u0 u1 : Option Value} {s0 : Int}  (g0 : iI s0 = iI 0 ∨ iI s0 = iI 1) : gv d rR16 24 [u0, u1] [.int (iI s0)] (mk m q w) =
    some (.inl (some (.int (iI s0))), (mk m q w, (0, 0))) := by
  exact k_rtZ rfl rfl g0
theorem e_16 {d : Nat} (hd : 1 ≤ d) {a0 a1 : Value} (M : rMem) (h0 : a0.category = 1) (h1 : a1.category = 1) : ev d 16 [a0, a1] M = gv (d - 1) rR16 0 [some a0, some a1] [] M := ev_at hd q_16 rfl (by simp [*]) rfl
/-! FanHouse$Fan.toldMark(II)I -/
theorem b_17_0 {d : Nat} {m : Nat → Nat → Int} {q : Nat → Nat → Option Nat} {w : Option (Nat → Int64)} {v1 v2 : Int} {x : Nat} (hx : iFan x)  : gv d rR17 0 [some (.ref x), some (.int (iI v1)), some (.int (iI v2))] [] (mk m q w) =
    rBd (ev d 16 [.int (iI v1), .int (iI v2)] (mk m q w)) (fun v M' => gv d rR17 5 [some (.ref x), some (.int (iI v1)), some (.int (iI v2))] (v.toList ++ []) M') := by
  refine Eq.trans (k_ild1 rfl) ?_
  refine Eq.trans (k_ild2 rfl) ?_
  exact k_cS2 rfl (by decide) q_16 rfl rfl (bl rfl)
theorem b_17_5 {d : Nat} {m : Nat → Nat → Int} {q : Nat → Nat → Option Nat} {w : Option (Nat → Int64)} {v1 v2 s0 : Int} {x : Nat} (hx : iFan x)  : gv d rR17 5 [some (.ref x), some (.int (iI v1)), some (.int (iI v2))] [.int (iI s0)] (mk m q w) =
    if iI s0 = iI 0 then (gv d rR17 22 [some (.ref x), some (.int (iI v1)), some (.int (iI v2))] [.int (iI (-1))] (mk m q w)) else (gv d rR17 8 [some (.ref x), some (.int (iI v1)), some (.int (iI v2))] [] (mk m q w)) := by
  refine Eq.trans (k_i1eq rfl rfl) ?_
  refine ifc ?_ ?_
  · refine Eq.trans (k_con rfl) ?_
    exact rfl
  · exact rfl
theorem b_17_8 {d : Nat} {m : Nat → Nat → Int} {q : Nat → Nat → Option Nat} {w : Option (Nat → Int64)} {v1 v2 : Int} {x : Nat} (hx : iFan x) (g0 : 0 ≤ ((4 * v1) + v2)) (g1 : ((4 * v1) + v2) < 28) : gv d rR17 8 [some (.ref x), some (.int (iI v1)), some (.int (iI v2))] [] (mk m q w) =
    gv d rR17 22 [some (.ref x), some (.int (iI v1)), some (.int (iI v2))] [.int (iI (m (x + 2) (Int.toNat ((4 * v1) + v2))))] (mk m q w) := by
  refine Eq.trans (k_ald0 rfl) ?_
  refine Eq.trans (k_gtR rfl (fan_0 hx) rfl (by decide)) ?_
  refine Eq.trans (k_con rfl) ?_
  refine Eq.trans (k_ild1 rfl) ?_
  refine Eq.trans (k_mul rfl) ?_
  refine Eq.trans (k_ild2 rfl) ?_
  refine Eq.trans (k_add rfl) ?_
  refine Eq.trans (k_iald rfl (fan_2 hx) (bl rfl) g0 g1) ?_
  refine Eq.trans (k_go rfl rfl) ?_
  exact rfl
theorem b_17_22 {d : Nat} {m : Nat → Nat → Int} {q : Nat → Nat → Option Nat} {w : Option (Nat → Int64)} {u0 u1 u2 : Option Value} {s0 : Int}   : gv d rR17 22 [u0, u1, u2] [.int (iI s0)] (mk m q w) =
    some (.inl (some (.int (iI s0))), (mk m q w, (0, 0))) := by
  exact k_rtI rfl rfl
theorem e_17 {d : Nat} (hd : 1 ≤ d) {a0 a1 a2 : Value} (M : rMem) (h0 : a0.category = 1) (h1 : a1.category = 1) (h2 : a2.category = 1) : ev d 17 [a0, a1, a2] M = gv (d - 1) rR17 0 [some a0, some a1, some a2] [] M := ev_at hd q_17 rfl (by simp [*]) rfl
/-! FanHouse$Fan.lyingMark(II)I -/
theorem b_18_0 {d : Nat} {m : Nat → Nat → Int} {q : Nat → Nat → Option Nat} {w : Option (Nat → Int64)} {v1 v2 : Int} {x : Nat} (hx : iFan x)  : gv d rR18 0 [some (.ref x), some (.int (iI v1)), some (.int (iI v2))] [] (mk m q w) =
    rBd (ev d 15 [.ref x, .int (iI v1), .int (iI v2)] (mk m q w)) (fun v M' => gv d rR18 8 [some (.ref x), some (.int (iI v1)), some (.int (iI v2))] (v.toList ++ [.int (iI v1), .ref x]) M') := by
  refine Eq.trans (k_ald0 rfl) ?_
  refine Eq.trans (k_ild1 rfl) ?_
  refine Eq.trans (k_ald0 rfl) ?_
  refine Eq.trans (k_ild1 rfl) ?_
  refine Eq.trans (k_ild2 rfl) ?_
  exact k_cV2 rfl (fan_0 hx) q_15 rfl rfl rfl (bl rfl)
theorem b_18_8 {d : Nat} {m : Nat → Nat → Int} {q : Nat → Nat → Option Nat} {w : Option (Nat → Int64)} {u0 u1 u2 : Option Value} {s1 s2 : Int} {x : Nat} (hx : iFan x)  : gv d rR18 8 [u0, u1, u2] [.int (iI s2), .int (iI s1), .ref x] (mk m q w) =
    rBd (ev d 17 [.ref x, .int (iI s1), .int (iI s2)] (mk m q w)) (fun v M' => gv d rR18 11 [u0, u1, u2] (v.toList ++ []) M') := by
  exact k_cV2 rfl (fan_0 hx) q_17 rfl rfl rfl (bl rfl)
theorem b_18_11 {d : Nat} {m : Nat → Nat → Int} {q : Nat → Nat → Option Nat} {w : Option (Nat → Int64)} {u0 u1 u2 : Option Value} {s0 : Int}   : gv d rR18 11 [u0, u1, u2] [.int (iI s0)] (mk m q w) =
    some (.inl (some (.int (iI s0))), (mk m q w, (0, 0))) := by
  exact k_rtI rfl rfl
theorem e_18 {d : Nat} (hd : 1 ≤ d) {a0 a1 a2 : Value} (M : rMem) (h0 : a0.category = 1) (h1 : a1.category = 1) (h2 : a2.category = 1) : ev d 18 [a0, a1, a2] M = gv (d - 1) rR18 0 [some a0, some a1, some a2] [] M := ev_at hd q_18 rfl (by simp [*]) rfl
/-! FanHouse$Fan.markIn(II)I -/
theorem b_19_0 {d : Nat} {m : Nat → Nat → Int} {q : Nat → Nat → Option Nat} {w : Option (Nat → Int64)} {u3 : Option Value} {v1 v2 : Int} {x : Nat} (hx : iFan x)  : gv d rR19 0 [some (.ref x), some (.int (iI v1)), some (.int (iI v2)), u3] [] (mk m q w) =
    rBd (ev d 12 [.ref x, .int (iI v1), .int (iI v2)] (mk m q w)) (fun v M' => gv d rR19 6 [some (.ref x), some (.int (iI v1)), some (.int (iI v2)), u3] (v.toList ++ []) M') := by
  refine Eq.trans (k_ald0 rfl) ?_
  refine Eq.trans (k_ild1 rfl) ?_
  refine Eq.trans (k_ild2 rfl) ?_
  exact k_cV2 rfl (fan_0 hx) q_12 rfl rfl rfl (bl rfl)
theorem b_19_6 {d : Nat} {m : Nat → Nat → Int} {q : Nat → Nat → Option Nat} {w : Option (Nat → Int64)} {u2 u3 : Option Value} {v1 s0 : Int} {x : Nat} (hx : iFan x)  : gv d rR19 6 [some (.ref x), some (.int (iI v1)), u2, u3] [.int (iI s0)] (mk m q w) =
    rBd (ev d 13 [.ref x, .int (iI s0)] (mk m q w)) (fun v M' => gv d rR19 12 [some (.ref x), some (.int (iI v1)), u2, some (.int (iI s0))] (v.toList ++ []) M') := by
  refine Eq.trans (k_ist3 rfl) ?_
  refine Eq.trans (k_ald0 rfl) ?_
  refine Eq.trans (k_ild3 rfl) ?_
  exact k_cV1 rfl (fan_0 hx) q_13 rfl rfl rfl (bl rfl)
theorem b_19_12 {d : Nat} {m : Nat → Nat → Int} {q : Nat → Nat → Option Nat} {w : Option (Nat → Int64)} {u2 : Option Value} {v1 v3 s0 : Int} {x : Nat} (hx : iFan x)  : gv d rR19 12 [some (.ref x), some (.int (iI v1)), u2, some (.int (iI v3))] [.int (iI s0)] (mk m q w) =
    if iI s0 = iI 0 then (gv d rR19 30 [some (.ref x), some (.int (iI v1)), u2, some (.int (iI v3))] [.int (iI (-1))] (mk m q w)) else (gv d rR19 15 [some (.ref x), some (.int (iI v1)), u2, some (.int (iI v3))] [] (mk m q w)) := by
  refine Eq.trans (k_i1eq rfl rfl) ?_
  refine ifc ?_ ?_
  · refine Eq.trans (k_con rfl) ?_
    exact rfl
  · exact rfl
theorem b_19_15 {d : Nat} {m : Nat → Nat → Int} {q : Nat → Nat → Option Nat} {w : Option (Nat → Int64)} {u2 : Option Value} {v1 v3 : Int} {x : Nat} (hx : iFan x) (g0 : 0 ≤ v3) (g1 : v3 < 7) : gv d rR19 15 [some (.ref x), some (.int (iI v1)), u2, some (.int (iI v3))] [] (mk m q w) =
    rBd (ev d 18 [.ref x, .int (iI (m (x + 1) (Int.toNat v3))), .int (iI v1)] (mk m q w)) (fun v M' => gv d rR19 26 [some (.ref x), some (.int (iI v1)), u2, some (.int (iI v3))] (v.toList ++ []) M') := by
  refine Eq.trans (k_ald0 rfl) ?_
  refine Eq.trans (k_ald0 rfl) ?_
  refine Eq.trans (k_gtR rfl (fan_0 hx) rfl (by decide)) ?_
  refine Eq.trans (k_ild3 rfl) ?_
  refine Eq.trans (k_iald rfl (fan_1 hx) (bl rfl) g0 g1) ?_
  refine Eq.trans (k_ild1 rfl) ?_
  exact k_cV2 rfl (fan_0 hx) q_18 rfl rfl rfl (bl rfl)
theorem b_19_26 {d : Nat} {m : Nat → Nat → Int} {q : Nat → Nat → Option Nat} {w : Option (Nat → Int64)} {u0 u1 u2 u3 : Option Value} {s0 : Int}   : gv d rR19 26 [u0, u1, u2, u3] [.int (iI s0)] (mk m q w) =
    gv d rR19 30 [u0, u1, u2, u3] [.int (iI s0)] (mk m q w) := by
  refine Eq.trans (k_go rfl rfl) ?_
  exact rfl
theorem b_19_30 {d : Nat} {m : Nat → Nat → Int} {q : Nat → Nat → Option Nat} {w : Option (Nat → Int64)} {u0 u1 u2 u3 : Option Value} {s0 : Int}   : gv d rR19 30 [u0, u1, u2, u3] [.int (iI s0)] (mk m q w) =
    some (.inl (some (.int (iI s0))), (mk m q w, (0, 0))) := by
  exact k_rtI rfl rfl
theorem e_19 {d : Nat} (hd : 1 ≤ d) {a0 a1 a2 : Value} (M : rMem) (h0 : a0.category = 1) (h1 : a1.category = 1) (h2 : a2.category = 1) : ev d 19 [a0, a1, a2] M = gv (d - 1) rR19 0 [some a0, some a1, some a2, none] [] M := ev_at hd q_19 rfl (by simp [*]) rfl
/-! FanHouse$Book.isRightFor(LFanHouse$Fan;)Z -/
theorem b_20_0 {d : Nat} {m : Nat → Nat → Int} {q : Nat → Nat → Option Nat} {w : Option (Nat → Int64)} {u2 : Option Value} {p1 : Nat} {x : Nat} (hp1 : iFan p1) (hx : iBook x)  : gv d rR20 0 [some (.ref x), some (.ref p1), u2] [] (mk m q w) =
    gv d rR20 2 [some (.ref x), some (.ref p1), some (.int (iI 0))] [] (mk m q w) := by
  refine Eq.trans (k_con rfl) ?_
  refine Eq.trans (k_ist2 rfl) ?_
  exact rfl
theorem b_20_2 {d : Nat} {m : Nat → Nat → Int} {q : Nat → Nat → Option Nat} {w : Option (Nat → Int64)} {v2 : Int} {p1 : Nat} {x : Nat} (hp1 : iFan p1) (hx : iBook x)  : gv d rR20 2 [some (.ref x), some (.ref p1), some (.int (iI v2))] [] (mk m q w) =
    if iI v2 < iI (m x 3) then (gv d rR20 10 [some (.ref x), some (.ref p1), some (.int (iI v2))] [] (mk m q w)) else (some (.inl (some (.int (iI 1))), (mk m q w, (0, 0)))) := by
  refine Eq.trans (k_ild2 rfl) ?_
  refine Eq.trans (k_ald0 rfl) ?_
  refine Eq.trans (k_gtI rfl (book_0 hx) rfl (by decide)) ?_
  refine Eq.trans (k_i2ge rfl rfl) ?_
  refine ifc ?_ ?_
  · exact rfl
  · refine Eq.trans (k_con rfl) ?_
    exact k_rtZ rfl rfl (Or.inr rfl)
theorem b_20_10 {d : Nat} {m : Nat → Nat → Int} {q : Nat → Nat → Option Nat} {w : Option (Nat → Int64)} {v2 : Int} {p1 : Nat} {x : Nat} (hp1 : iFan p1) (hx : iBook x) (g0 : 0 ≤ v2) (g1 : v2 < 7) : gv d rR20 10 [some (.ref x), some (.ref p1), some (.int (iI v2))] [] (mk m q w) =
    rBd (ev d 19 [.ref p1, .int (iI (m (x + 1) (Int.toNat v2))), .int (iI (m (x + 2) (Int.toNat v2)))] (mk m q w)) (fun v M' => gv d rR20 26 [some (.ref x), some (.ref p1), some (.int (iI v2))] (v.toList ++ []) M') := by
  refine Eq.trans (k_ald1 rfl) ?_
  refine Eq.trans (k_ald0 rfl) ?_
  refine Eq.trans (k_gtR rfl (book_0 hx) rfl (by decide)) ?_
  refine Eq.trans (k_ild2 rfl) ?_
  refine Eq.trans (k_iald rfl (book_1 hx) (bl rfl) g0 g1) ?_
  refine Eq.trans (k_ald0 rfl) ?_
  refine Eq.trans (k_gtR rfl (book_0 hx) rfl (by decide)) ?_
  refine Eq.trans (k_ild2 rfl) ?_
  refine Eq.trans (k_iald rfl (book_2 hx) (bl rfl) g0 g1) ?_
  exact k_cV2 rfl (fan_0 hp1) q_19 rfl rfl rfl (bl rfl)
theorem b_20_26 {d : Nat} {m : Nat → Nat → Int} {q : Nat → Nat → Option Nat} {w : Option (Nat → Int64)} {v2 s0 : Int} {p1 : Nat} {x : Nat} (hp1 : iFan p1) (hx : iBook x) (g0 : 0 ≤ v2) (g1 : v2 < 7) : gv d rR20 26 [some (.ref x), some (.ref p1), some (.int (iI v2))] [.int (iI s0)] (mk m q w) =
    if iI s0 = iI (m (x + 3) (Int.toNat v2)) then (gv d rR20 2 [some (.ref x), some (.ref p1), some (.int (iI (v2 + 1)))] [] (mk m q w)) else (some (.inl (some (.int (iI 0))), (mk m q w, (0, 0)))) := by
  refine Eq.trans (k_ald0 rfl) ?_
  refine Eq.trans (k_gtR rfl (book_0 hx) rfl (by decide)) ?_
  refine Eq.trans (k_ild2 rfl) ?_
  refine Eq.trans (k_iald rfl (book_3 hx) (bl rfl) g0 g1) ?_
  refine Eq.trans (k_i2eq rfl rfl) ?_
  refine ifc ?_ ?_
  · refine Eq.trans (k_inc2 rfl) ?_
    refine Eq.trans (k_go rfl rfl) ?_
    exact rfl
  · refine Eq.trans (k_con rfl) ?_
    exact k_rtZ rfl rfl (Or.inl rfl)
theorem e_20 {d : Nat} (hd : 1 ≤ d) {a0 a1 : Value} (M : rMem) (h0 : a0.category = 1) (h1 : a1.category = 1) : ev d 20 [a0, a1] M = gv (d - 1) rR20 0 [some a0, some a1, none] [] M := ev_at hd q_20 rfl (by simp [*]) rfl
/-! FanHouse$Fan.become(LFanHouse$Fan;)V -/
theorem b_22_0 {d : Nat} {m : Nat → Nat → Int} {q : Nat → Nat → Option Nat} {w : Option (Nat → Int64)} {p1 : Nat} {x : Nat} (hp1 : iFan p1) (hx : iFan x) (g0 : 9 ≤ d) : gv d rR22 0 [some (.ref x), some (.ref p1)] [] (mk m q w) =
    some (.inl none, (mk (row (row (wr (wr (wr (wr (wr (wr (wr (wr (wr m x 0 (m p1 0)) x 1 ((wr m x 0 (m p1 0)) p1 1)) x 2 ((wr (wr m x 0 (m p1 0)) x 1 ((wr m x 0 (m p1 0)) p1 1)) p1 2)) x 3 ((wr (wr (wr m x 0 (m p1 0)) x 1 ((wr m x 0 (m p1 0)) p1 1)) x 2 ((wr (wr m x 0 (m p1 0)) x 1 ((wr m x 0 (m p1 0)) p1 1)) p1 2)) p1 3)) x 4 ((wr (wr (wr (wr m x 0 (m p1 0)) x 1 ((wr m x 0 (m p1 0)) p1 1)) x 2 ((wr (wr m x 0 (m p1 0)) x 1 ((wr m x 0 (m p1 0)) p1 1)) p1 2)) x 3 ((wr (wr (wr m x 0 (m p1 0)) x 1 ((wr m x 0 (m p1 0)) p1 1)) x 2 ((wr (wr m x 0 (m p1 0)) x 1 ((wr m x 0 (m p1 0)) p1 1)) p1 2)) p1 3)) p1 4)) x 5 ((wr (wr (wr (wr (wr m x 0 (m p1 0)) x 1 ((wr m x 0 (m p1 0)) p1 1)) x 2 ((wr (wr m x 0 (m p1 0)) x 1 ((wr m x 0 (m p1 0)) p1 1)) p1 2)) x 3 ((wr (wr (wr m x 0 (m p1 0)) x 1 ((wr m x 0 (m p1 0)) p1 1)) x 2 ((wr (wr m x 0 (m p1 0)) x 1 ((wr m x 0 (m p1 0)) p1 1)) p1 2)) p1 3)) x 4 ((wr (wr (wr (wr m x 0 (m p1 0)) x 1 ((wr m x 0 (m p1 0)) p1 1)) x 2 ((wr (wr m x 0 (m p1 0)) x 1 ((wr m x 0 (m p1 0)) p1 1)) p1 2)) x 3 ((wr (wr (wr m x 0 (m p1 0)) x 1 ((wr m x 0 (m p1 0)) p1 1)) x 2 ((wr (wr m x 0 (m p1 0)) x 1 ((wr m x 0 (m p1 0)) p1 1)) p1 2)) p1 3)) p1 4)) p1 5)) x 6 ((wr (wr (wr (wr (wr (wr m x 0 (m p1 0)) x 1 ((wr m x 0 (m p1 0)) p1 1)) x 2 ((wr (wr m x 0 (m p1 0)) x 1 ((wr m x 0 (m p1 0)) p1 1)) p1 2)) x 3 ((wr (wr (wr m x 0 (m p1 0)) x 1 ((wr m x 0 (m p1 0)) p1 1)) x 2 ((wr (wr m x 0 (m p1 0)) x 1 ((wr m x 0 (m p1 0)) p1 1)) p1 2)) p1 3)) x 4 ((wr (wr (wr (wr m x 0 (m p1 0)) x 1 ((wr m x 0 (m p1 0)) p1 1)) x 2 ((wr (wr m x 0 (m p1 0)) x 1 ((wr m x 0 (m p1 0)) p1 1)) p1 2)) x 3 ((wr (wr (wr m x 0 (m p1 0)) x 1 ((wr m x 0 (m p1 0)) p1 1)) x 2 ((wr (wr m x 0 (m p1 0)) x 1 ((wr m x 0 (m p1 0)) p1 1)) p1 2)) p1 3)) p1 4)) x 5 ((wr (wr (wr (wr (wr m x 0 (m p1 0)) x 1 ((wr m x 0 (m p1 0)) p1 1)) x 2 ((wr (wr m x 0 (m p1 0)) x 1 ((wr m x 0 (m p1 0)) p1 1)) p1 2)) x 3 ((wr (wr (wr m x 0 (m p1 0)) x 1 ((wr m x 0 (m p1 0)) p1 1)) x 2 ((wr (wr m x 0 (m p1 0)) x 1 ((wr m x 0 (m p1 0)) p1 1)) p1 2)) p1 3)) x 4 ((wr (wr (wr (wr m x 0 (m p1 0)) x 1 ((wr m x 0 (m p1 0)) p1 1)) x 2 ((wr (wr m x 0 (m p1 0)) x 1 ((wr m x 0 (m p1 0)) p1 1)) p1 2)) x 3 ((wr (wr (wr m x 0 (m p1 0)) x 1 ((wr m x 0 (m p1 0)) p1 1)) x 2 ((wr (wr m x 0 (m p1 0)) x 1 ((wr m x 0 (m p1 0)) p1 1)) p1 2)) p1 3)) p1 4)) p1 5)) p1 6)) x 7 ((wr (wr (wr (wr (wr (wr (wr m x 0 (m p1 0)) x 1 ((wr m x 0 (m p1 0)) p1 1)) x 2 ((wr (wr m x 0 (m p1 0)) x 1 ((wr m x 0 (m p1 0)) p1 1)) p1 2)) x 3 ((wr (wr (wr m x 0 (m p1 0)) x 1 ((wr m x 0 (m p1 0)) p1 1)) x 2 ((wr (wr m x 0 (m p1 0)) x 1 ((wr m x 0 (m p1 0)) p1 1)) p1 2)) p1 3)) x 4 ((wr (wr (wr (wr m x 0 (m p1 0)) x 1 ((wr m x 0 (m p1 0)) p1 1)) x 2 ((wr (wr m x 0 (m p1 0)) x 1 ((wr m x 0 (m p1 0)) p1 1)) p1 2)) x 3 ((wr (wr (wr m x 0 (m p1 0)) x 1 ((wr m x 0 (m p1 0)) p1 1)) x 2 ((wr (wr m x 0 (m p1 0)) x 1 ((wr m x 0 (m p1 0)) p1 1)) p1 2)) p1 3)) p1 4)) x 5 ((wr (wr (wr (wr (wr m x 0 (m p1 0)) x 1 ((wr m x 0 (m p1 0)) p1 1)) x 2 ((wr (wr m x 0 (m p1 0)) x 1 ((wr m x 0 (m p1 0)) p1 1)) p1 2)) x 3 ((wr (wr (wr m x 0 (m p1 0)) x 1 ((wr m x 0 (m p1 0)) p1 1)) x 2 ((wr (wr m x 0 (m p1 0)) x 1 ((wr m x 0 (m p1 0)) p1 1)) p1 2)) p1 3)) x 4 ((wr (wr (wr (wr m x 0 (m p1 0)) x 1 ((wr m x 0 (m p1 0)) p1 1)) x 2 ((wr (wr m x 0 (m p1 0)) x 1 ((wr m x 0 (m p1 0)) p1 1)) p1 2)) x 3 ((wr (wr (wr m x 0 (m p1 0)) x 1 ((wr m x 0 (m p1 0)) p1 1)) x 2 ((wr (wr m x 0 (m p1 0)) x 1 ((wr m x 0 (m p1 0)) p1 1)) p1 2)) p1 3)) p1 4)) p1 5)) x 6 ((wr (wr (wr (wr (wr (wr m x 0 (m p1 0)) x 1 ((wr m x 0 (m p1 0)) p1 1)) x 2 ((wr (wr m x 0 (m p1 0)) x 1 ((wr m x 0 (m p1 0)) p1 1)) p1 2)) x 3 ((wr (wr (wr m x 0 (m p1 0)) x 1 ((wr m x 0 (m p1 0)) p1 1)) x 2 ((wr (wr m x 0 (m p1 0)) x 1 ((wr m x 0 (m p1 0)) p1 1)) p1 2)) p1 3)) x 4 ((wr (wr (wr (wr m x 0 (m p1 0)) x 1 ((wr m x 0 (m p1 0)) p1 1)) x 2 ((wr (wr m x 0 (m p1 0)) x 1 ((wr m x 0 (m p1 0)) p1 1)) p1 2)) x 3 ((wr (wr (wr m x 0 (m p1 0)) x 1 ((wr m x 0 (m p1 0)) p1 1)) x 2 ((wr (wr m x 0 (m p1 0)) x 1 ((wr m x 0 (m p1 0)) p1 1)) p1 2)) p1 3)) p1 4)) x 5 ((wr (wr (wr (wr (wr m x 0 (m p1 0)) x 1 ((wr m x 0 (m p1 0)) p1 1)) x 2 ((wr (wr m x 0 (m p1 0)) x 1 ((wr m x 0 (m p1 0)) p1 1)) p1 2)) x 3 ((wr (wr (wr m x 0 (m p1 0)) x 1 ((wr m x 0 (m p1 0)) p1 1)) x 2 ((wr (wr m x 0 (m p1 0)) x 1 ((wr m x 0 (m p1 0)) p1 1)) p1 2)) p1 3)) x 4 ((wr (wr (wr (wr m x 0 (m p1 0)) x 1 ((wr m x 0 (m p1 0)) p1 1)) x 2 ((wr (wr m x 0 (m p1 0)) x 1 ((wr m x 0 (m p1 0)) p1 1)) p1 2)) x 3 ((wr (wr (wr m x 0 (m p1 0)) x 1 ((wr m x 0 (m p1 0)) p1 1)) x 2 ((wr (wr m x 0 (m p1 0)) x 1 ((wr m x 0 (m p1 0)) p1 1)) p1 2)) p1 3)) p1 4)) p1 5)) p1 6)) p1 7)) x 8 ((wr (wr (wr (wr (wr (wr (wr (wr m x 0 (m p1 0)) x 1 ((wr m x 0 (m p1 0)) p1 1)) x 2 ((wr (wr m x 0 (m p1 0)) x 1 ((wr m x 0 (m p1 0)) p1 1)) p1 2)) x 3 ((wr (wr (wr m x 0 (m p1 0)) x 1 ((wr m x 0 (m p1 0)) p1 1)) x 2 ((wr (wr m x 0 (m p1 0)) x 1 ((wr m x 0 (m p1 0)) p1 1)) p1 2)) p1 3)) x 4 ((wr (wr (wr (wr m x 0 (m p1 0)) x 1 ((wr m x 0 (m p1 0)) p1 1)) x 2 ((wr (wr m x 0 (m p1 0)) x 1 ((wr m x 0 (m p1 0)) p1 1)) p1 2)) x 3 ((wr (wr (wr m x 0 (m p1 0)) x 1 ((wr m x 0 (m p1 0)) p1 1)) x 2 ((wr (wr m x 0 (m p1 0)) x 1 ((wr m x 0 (m p1 0)) p1 1)) p1 2)) p1 3)) p1 4)) x 5 ((wr (wr (wr (wr (wr m x 0 (m p1 0)) x 1 ((wr m x 0 (m p1 0)) p1 1)) x 2 ((wr (wr m x 0 (m p1 0)) x 1 ((wr m x 0 (m p1 0)) p1 1)) p1 2)) x 3 ((wr (wr (wr m x 0 (m p1 0)) x 1 ((wr m x 0 (m p1 0)) p1 1)) x 2 ((wr (wr m x 0 (m p1 0)) x 1 ((wr m x 0 (m p1 0)) p1 1)) p1 2)) p1 3)) x 4 ((wr (wr (wr (wr m x 0 (m p1 0)) x 1 ((wr m x 0 (m p1 0)) p1 1)) x 2 ((wr (wr m x 0 (m p1 0)) x 1 ((wr m x 0 (m p1 0)) p1 1)) p1 2)) x 3 ((wr (wr (wr m x 0 (m p1 0)) x 1 ((wr m x 0 (m p1 0)) p1 1)) x 2 ((wr (wr m x 0 (m p1 0)) x 1 ((wr m x 0 (m p1 0)) p1 1)) p1 2)) p1 3)) p1 4)) p1 5)) x 6 ((wr (wr (wr (wr (wr (wr m x 0 (m p1 0)) x 1 ((wr m x 0 (m p1 0)) p1 1)) x 2 ((wr (wr m x 0 (m p1 0)) x 1 ((wr m x 0 (m p1 0)) p1 1)) p1 2)) x 3 ((wr (wr (wr m x 0 (m p1 0)) x 1 ((wr m x 0 (m p1 0)) p1 1)) x 2 ((wr (wr m x 0 (m p1 0)) x 1 ((wr m x 0 (m p1 0)) p1 1)) p1 2)) p1 3)) x 4 ((wr (wr (wr (wr m x 0 (m p1 0)) x 1 ((wr m x 0 (m p1 0)) p1 1)) x 2 ((wr (wr m x 0 (m p1 0)) x 1 ((wr m x 0 (m p1 0)) p1 1)) p1 2)) x 3 ((wr (wr (wr m x 0 (m p1 0)) x 1 ((wr m x 0 (m p1 0)) p1 1)) x 2 ((wr (wr m x 0 (m p1 0)) x 1 ((wr m x 0 (m p1 0)) p1 1)) p1 2)) p1 3)) p1 4)) x 5 ((wr (wr (wr (wr (wr m x 0 (m p1 0)) x 1 ((wr m x 0 (m p1 0)) p1 1)) x 2 ((wr (wr m x 0 (m p1 0)) x 1 ((wr m x 0 (m p1 0)) p1 1)) p1 2)) x 3 ((wr (wr (wr m x 0 (m p1 0)) x 1 ((wr m x 0 (m p1 0)) p1 1)) x 2 ((wr (wr m x 0 (m p1 0)) x 1 ((wr m x 0 (m p1 0)) p1 1)) p1 2)) p1 3)) x 4 ((wr (wr (wr (wr m x 0 (m p1 0)) x 1 ((wr m x 0 (m p1 0)) p1 1)) x 2 ((wr (wr m x 0 (m p1 0)) x 1 ((wr m x 0 (m p1 0)) p1 1)) p1 2)) x 3 ((wr (wr (wr m x 0 (m p1 0)) x 1 ((wr m x 0 (m p1 0)) p1 1)) x 2 ((wr (wr m x 0 (m p1 0)) x 1 ((wr m x 0 (m p1 0)) p1 1)) p1 2)) p1 3)) p1 4)) p1 5)) p1 6)) x 7 ((wr (wr (wr (wr (wr (wr (wr m x 0 (m p1 0)) x 1 ((wr m x 0 (m p1 0)) p1 1)) x 2 ((wr (wr m x 0 (m p1 0)) x 1 ((wr m x 0 (m p1 0)) p1 1)) p1 2)) x 3 ((wr (wr (wr m x 0 (m p1 0)) x 1 ((wr m x 0 (m p1 0)) p1 1)) x 2 ((wr (wr m x 0 (m p1 0)) x 1 ((wr m x 0 (m p1 0)) p1 1)) p1 2)) p1 3)) x 4 ((wr (wr (wr (wr m x 0 (m p1 0)) x 1 ((wr m x 0 (m p1 0)) p1 1)) x 2 ((wr (wr m x 0 (m p1 0)) x 1 ((wr m x 0 (m p1 0)) p1 1)) p1 2)) x 3 ((wr (wr (wr m x 0 (m p1 0)) x 1 ((wr m x 0 (m p1 0)) p1 1)) x 2 ((wr (wr m x 0 (m p1 0)) x 1 ((wr m x 0 (m p1 0)) p1 1)) p1 2)) p1 3)) p1 4)) x 5 ((wr (wr (wr (wr (wr m x 0 (m p1 0)) x 1 ((wr m x 0 (m p1 0)) p1 1)) x 2 ((wr (wr m x 0 (m p1 0)) x 1 ((wr m x 0 (m p1 0)) p1 1)) p1 2)) x 3 ((wr (wr (wr m x 0 (m p1 0)) x 1 ((wr m x 0 (m p1 0)) p1 1)) x 2 ((wr (wr m x 0 (m p1 0)) x 1 ((wr m x 0 (m p1 0)) p1 1)) p1 2)) p1 3)) x 4 ((wr (wr (wr (wr m x 0 (m p1 0)) x 1 ((wr m x 0 (m p1 0)) p1 1)) x 2 ((wr (wr m x 0 (m p1 0)) x 1 ((wr m x 0 (m p1 0)) p1 1)) p1 2)) x 3 ((wr (wr (wr m x 0 (m p1 0)) x 1 ((wr m x 0 (m p1 0)) p1 1)) x 2 ((wr (wr m x 0 (m p1 0)) x 1 ((wr m x 0 (m p1 0)) p1 1)) p1 2)) p1 3)) p1 4)) p1 5)) x 6 ((wr (wr (wr (wr (wr (wr m x 0 (m p1 0)) x 1 ((wr m x 0 (m p1 0)) p1 1)) x 2 ((wr (wr m x 0 (m p1 0)) x 1 ((wr m x 0 (m p1 0)) p1 1)) p1 2)) x 3 ((wr (wr (wr m x 0 (m p1 0)) x 1 ((wr m x 0 (m p1 0)) p1 1)) x 2 ((wr (wr m x 0 (m p1 0)) x 1 ((wr m x 0 (m p1 0)) p1 1)) p1 2)) p1 3)) x 4 ((wr (wr (wr (wr m x 0 (m p1 0)) x 1 ((wr m x 0 (m p1 0)) p1 1)) x 2 ((wr (wr m x 0 (m p1 0)) x 1 ((wr m x 0 (m p1 0)) p1 1)) p1 2)) x 3 ((wr (wr (wr m x 0 (m p1 0)) x 1 ((wr m x 0 (m p1 0)) p1 1)) x 2 ((wr (wr m x 0 (m p1 0)) x 1 ((wr m x 0 (m p1 0)) p1 1)) p1 2)) p1 3)) p1 4)) x 5 ((wr (wr (wr (wr (wr m x 0 (m p1 0)) x 1 ((wr m x 0 (m p1 0)) p1 1)) x 2 ((wr (wr m x 0 (m p1 0)) x 1 ((wr m x 0 (m p1 0)) p1 1)) p1 2)) x 3 ((wr (wr (wr m x 0 (m p1 0)) x 1 ((wr m x 0 (m p1 0)) p1 1)) x 2 ((wr (wr m x 0 (m p1 0)) x 1 ((wr m x 0 (m p1 0)) p1 1)) p1 2)) p1 3)) x 4 ((wr (wr (wr (wr m x 0 (m p1 0)) x 1 ((wr m x 0 (m p1 0)) p1 1)) x 2 ((wr (wr m x 0 (m p1 0)) x 1 ((wr m x 0 (m p1 0)) p1 1)) p1 2)) x 3 ((wr (wr (wr m x 0 (m p1 0)) x 1 ((wr m x 0 (m p1 0)) p1 1)) x 2 ((wr (wr m x 0 (m p1 0)) x 1 ((wr m x 0 (m p1 0)) p1 1)) p1 2)) p1 3)) p1 4)) p1 5)) p1 6)) p1 7)) p1 8)) (x + 1) (fun j => if (Int.toNat 0) ≤ j ∧ j < (Int.toNat 0) + (Int.toNat (((7 : Nat) : Int))) then (wr (wr (wr (wr (wr (wr (wr (wr (wr m x 0 (m p1 0)) x 1 ((wr m x 0 (m p1 0)) p1 1)) x 2 ((wr (wr m x 0 (m p1 0)) x 1 ((wr m x 0 (m p1 0)) p1 1)) p1 2)) x 3 ((wr (wr (wr m x 0 (m p1 0)) x 1 ((wr m x 0 (m p1 0)) p1 1)) x 2 ((wr (wr m x 0 (m p1 0)) x 1 ((wr m x 0 (m p1 0)) p1 1)) p1 2)) p1 3)) x 4 ((wr (wr (wr (wr m x 0 (m p1 0)) x 1 ((wr m x 0 (m p1 0)) p1 1)) x 2 ((wr (wr m x 0 (m p1 0)) x 1 ((wr m x 0 (m p1 0)) p1 1)) p1 2)) x 3 ((wr (wr (wr m x 0 (m p1 0)) x 1 ((wr m x 0 (m p1 0)) p1 1)) x 2 ((wr (wr m x 0 (m p1 0)) x 1 ((wr m x 0 (m p1 0)) p1 1)) p1 2)) p1 3)) p1 4)) x 5 ((wr (wr (wr (wr (wr m x 0 (m p1 0)) x 1 ((wr m x 0 (m p1 0)) p1 1)) x 2 ((wr (wr m x 0 (m p1 0)) x 1 ((wr m x 0 (m p1 0)) p1 1)) p1 2)) x 3 ((wr (wr (wr m x 0 (m p1 0)) x 1 ((wr m x 0 (m p1 0)) p1 1)) x 2 ((wr (wr m x 0 (m p1 0)) x 1 ((wr m x 0 (m p1 0)) p1 1)) p1 2)) p1 3)) x 4 ((wr (wr (wr (wr m x 0 (m p1 0)) x 1 ((wr m x 0 (m p1 0)) p1 1)) x 2 ((wr (wr m x 0 (m p1 0)) x 1 ((wr m x 0 (m p1 0)) p1 1)) p1 2)) x 3 ((wr (wr (wr m x 0 (m p1 0)) x 1 ((wr m x 0 (m p1 0)) p1 1)) x 2 ((wr (wr m x 0 (m p1 0)) x 1 ((wr m x 0 (m p1 0)) p1 1)) p1 2)) p1 3)) p1 4)) p1 5)) x 6 ((wr (wr (wr (wr (wr (wr m x 0 (m p1 0)) x 1 ((wr m x 0 (m p1 0)) p1 1)) x 2 ((wr (wr m x 0 (m p1 0)) x 1 ((wr m x 0 (m p1 0)) p1 1)) p1 2)) x 3 ((wr (wr (wr m x 0 (m p1 0)) x 1 ((wr m x 0 (m p1 0)) p1 1)) x 2 ((wr (wr m x 0 (m p1 0)) x 1 ((wr m x 0 (m p1 0)) p1 1)) p1 2)) p1 3)) x 4 ((wr (wr (wr (wr m x 0 (m p1 0)) x 1 ((wr m x 0 (m p1 0)) p1 1)) x 2 ((wr (wr m x 0 (m p1 0)) x 1 ((wr m x 0 (m p1 0)) p1 1)) p1 2)) x 3 ((wr (wr (wr m x 0 (m p1 0)) x 1 ((wr m x 0 (m p1 0)) p1 1)) x 2 ((wr (wr m x 0 (m p1 0)) x 1 ((wr m x 0 (m p1 0)) p1 1)) p1 2)) p1 3)) p1 4)) x 5 ((wr (wr (wr (wr (wr m x 0 (m p1 0)) x 1 ((wr m x 0 (m p1 0)) p1 1)) x 2 ((wr (wr m x 0 (m p1 0)) x 1 ((wr m x 0 (m p1 0)) p1 1)) p1 2)) x 3 ((wr (wr (wr m x 0 (m p1 0)) x 1 ((wr m x 0 (m p1 0)) p1 1)) x 2 ((wr (wr m x 0 (m p1 0)) x 1 ((wr m x 0 (m p1 0)) p1 1)) p1 2)) p1 3)) x 4 ((wr (wr (wr (wr m x 0 (m p1 0)) x 1 ((wr m x 0 (m p1 0)) p1 1)) x 2 ((wr (wr m x 0 (m p1 0)) x 1 ((wr m x 0 (m p1 0)) p1 1)) p1 2)) x 3 ((wr (wr (wr m x 0 (m p1 0)) x 1 ((wr m x 0 (m p1 0)) p1 1)) x 2 ((wr (wr m x 0 (m p1 0)) x 1 ((wr m x 0 (m p1 0)) p1 1)) p1 2)) p1 3)) p1 4)) p1 5)) p1 6)) x 7 ((wr (wr (wr (wr (wr (wr (wr m x 0 (m p1 0)) x 1 ((wr m x 0 (m p1 0)) p1 1)) x 2 ((wr (wr m x 0 (m p1 0)) x 1 ((wr m x 0 (m p1 0)) p1 1)) p1 2)) x 3 ((wr (wr (wr m x 0 (m p1 0)) x 1 ((wr m x 0 (m p1 0)) p1 1)) x 2 ((wr (wr m x 0 (m p1 0)) x 1 ((wr m x 0 (m p1 0)) p1 1)) p1 2)) p1 3)) x 4 ((wr (wr (wr (wr m x 0 (m p1 0)) x 1 ((wr m x 0 (m p1 0)) p1 1)) x 2 ((wr (wr m x 0 (m p1 0)) x 1 ((wr m x 0 (m p1 0)) p1 1)) p1 2)) x 3 ((wr (wr (wr m x 0 (m p1 0)) x 1 ((wr m x 0 (m p1 0)) p1 1)) x 2 ((wr (wr m x 0 (m p1 0)) x 1 ((wr m x 0 (m p1 0)) p1 1)) p1 2)) p1 3)) p1 4)) x 5 ((wr (wr (wr (wr (wr m x 0 (m p1 0)) x 1 ((wr m x 0 (m p1 0)) p1 1)) x 2 ((wr (wr m x 0 (m p1 0)) x 1 ((wr m x 0 (m p1 0)) p1 1)) p1 2)) x 3 ((wr (wr (wr m x 0 (m p1 0)) x 1 ((wr m x 0 (m p1 0)) p1 1)) x 2 ((wr (wr m x 0 (m p1 0)) x 1 ((wr m x 0 (m p1 0)) p1 1)) p1 2)) p1 3)) x 4 ((wr (wr (wr (wr m x 0 (m p1 0)) x 1 ((wr m x 0 (m p1 0)) p1 1)) x 2 ((wr (wr m x 0 (m p1 0)) x 1 ((wr m x 0 (m p1 0)) p1 1)) p1 2)) x 3 ((wr (wr (wr m x 0 (m p1 0)) x 1 ((wr m x 0 (m p1 0)) p1 1)) x 2 ((wr (wr m x 0 (m p1 0)) x 1 ((wr m x 0 (m p1 0)) p1 1)) p1 2)) p1 3)) p1 4)) p1 5)) x 6 ((wr (wr (wr (wr (wr (wr m x 0 (m p1 0)) x 1 ((wr m x 0 (m p1 0)) p1 1)) x 2 ((wr (wr m x 0 (m p1 0)) x 1 ((wr m x 0 (m p1 0)) p1 1)) p1 2)) x 3 ((wr (wr (wr m x 0 (m p1 0)) x 1 ((wr m x 0 (m p1 0)) p1 1)) x 2 ((wr (wr m x 0 (m p1 0)) x 1 ((wr m x 0 (m p1 0)) p1 1)) p1 2)) p1 3)) x 4 ((wr (wr (wr (wr m x 0 (m p1 0)) x 1 ((wr m x 0 (m p1 0)) p1 1)) x 2 ((wr (wr m x 0 (m p1 0)) x 1 ((wr m x 0 (m p1 0)) p1 1)) p1 2)) x 3 ((wr (wr (wr m x 0 (m p1 0)) x 1 ((wr m x 0 (m p1 0)) p1 1)) x 2 ((wr (wr m x 0 (m p1 0)) x 1 ((wr m x 0 (m p1 0)) p1 1)) p1 2)) p1 3)) p1 4)) x 5 ((wr (wr (wr (wr (wr m x 0 (m p1 0)) x 1 ((wr m x 0 (m p1 0)) p1 1)) x 2 ((wr (wr m x 0 (m p1 0)) x 1 ((wr m x 0 (m p1 0)) p1 1)) p1 2)) x 3 ((wr (wr (wr m x 0 (m p1 0)) x 1 ((wr m x 0 (m p1 0)) p1 1)) x 2 ((wr (wr m x 0 (m p1 0)) x 1 ((wr m x 0 (m p1 0)) p1 1)) p1 2)) p1 3)) x 4 ((wr (wr (wr (wr m x 0 (m p1 0)) x 1 ((wr m x 0 (m p1 0)) p1 1)) x 2 ((wr (wr m x 0 (m p1 0)) x 1 ((wr m x 0 (m p1 0)) p1 1)) p1 2)) x 3 ((wr (wr (wr m x 0 (m p1 0)) x 1 ((wr m x 0 (m p1 0)) p1 1)) x 2 ((wr (wr m x 0 (m p1 0)) x 1 ((wr m x 0 (m p1 0)) p1 1)) p1 2)) p1 3)) p1 4)) p1 5)) p1 6)) p1 7)) x 8 ((wr (wr (wr (wr (wr (wr (wr (wr m x 0 (m p1 0)) x 1 ((wr m x 0 (m p1 0)) p1 1)) x 2 ((wr (wr m x 0 (m p1 0)) x 1 ((wr m x 0 (m p1 0)) p1 1)) p1 2)) x 3 ((wr (wr (wr m x 0 (m p1 0)) x 1 ((wr m x 0 (m p1 0)) p1 1)) x 2 ((wr (wr m x 0 (m p1 0)) x 1 ((wr m x 0 (m p1 0)) p1 1)) p1 2)) p1 3)) x 4 ((wr (wr (wr (wr m x 0 (m p1 0)) x 1 ((wr m x 0 (m p1 0)) p1 1)) x 2 ((wr (wr m x 0 (m p1 0)) x 1 ((wr m x 0 (m p1 0)) p1 1)) p1 2)) x 3 ((wr (wr (wr m x 0 (m p1 0)) x 1 ((wr m x 0 (m p1 0)) p1 1)) x 2 ((wr (wr m x 0 (m p1 0)) x 1 ((wr m x 0 (m p1 0)) p1 1)) p1 2)) p1 3)) p1 4)) x 5 ((wr (wr (wr (wr (wr m x 0 (m p1 0)) x 1 ((wr m x 0 (m p1 0)) p1 1)) x 2 ((wr (wr m x 0 (m p1 0)) x 1 ((wr m x 0 (m p1 0)) p1 1)) p1 2)) x 3 ((wr (wr (wr m x 0 (m p1 0)) x 1 ((wr m x 0 (m p1 0)) p1 1)) x 2 ((wr (wr m x 0 (m p1 0)) x 1 ((wr m x 0 (m p1 0)) p1 1)) p1 2)) p1 3)) x 4 ((wr (wr (wr (wr m x 0 (m p1 0)) x 1 ((wr m x 0 (m p1 0)) p1 1)) x 2 ((wr (wr m x 0 (m p1 0)) x 1 ((wr m x 0 (m p1 0)) p1 1)) p1 2)) x 3 ((wr (wr (wr m x 0 (m p1 0)) x 1 ((wr m x 0 (m p1 0)) p1 1)) x 2 ((wr (wr m x 0 (m p1 0)) x 1 ((wr m x 0 (m p1 0)) p1 1)) p1 2)) p1 3)) p1 4)) p1 5)) x 6 ((wr (wr (wr (wr (wr (wr m x 0 (m p1 0)) x 1 ((wr m x 0 (m p1 0)) p1 1)) x 2 ((wr (wr m x 0 (m p1 0)) x 1 ((wr m x 0 (m p1 0)) p1 1)) p1 2)) x 3 ((wr (wr (wr m x 0 (m p1 0)) x 1 ((wr m x 0 (m p1 0)) p1 1)) x 2 ((wr (wr m x 0 (m p1 0)) x 1 ((wr m x 0 (m p1 0)) p1 1)) p1 2)) p1 3)) x 4 ((wr (wr (wr (wr m x 0 (m p1 0)) x 1 ((wr m x 0 (m p1 0)) p1 1)) x 2 ((wr (wr m x 0 (m p1 0)) x 1 ((wr m x 0 (m p1 0)) p1 1)) p1 2)) x 3 ((wr (wr (wr m x 0 (m p1 0)) x 1 ((wr m x 0 (m p1 0)) p1 1)) x 2 ((wr (wr m x 0 (m p1 0)) x 1 ((wr m x 0 (m p1 0)) p1 1)) p1 2)) p1 3)) p1 4)) x 5 ((wr (wr (wr (wr (wr m x 0 (m p1 0)) x 1 ((wr m x 0 (m p1 0)) p1 1)) x 2 ((wr (wr m x 0 (m p1 0)) x 1 ((wr m x 0 (m p1 0)) p1 1)) p1 2)) x 3 ((wr (wr (wr m x 0 (m p1 0)) x 1 ((wr m x 0 (m p1 0)) p1 1)) x 2 ((wr (wr m x 0 (m p1 0)) x 1 ((wr m x 0 (m p1 0)) p1 1)) p1 2)) p1 3)) x 4 ((wr (wr (wr (wr m x 0 (m p1 0)) x 1 ((wr m x 0 (m p1 0)) p1 1)) x 2 ((wr (wr m x 0 (m p1 0)) x 1 ((wr m x 0 (m p1 0)) p1 1)) p1 2)) x 3 ((wr (wr (wr m x 0 (m p1 0)) x 1 ((wr m x 0 (m p1 0)) p1 1)) x 2 ((wr (wr m x 0 (m p1 0)) x 1 ((wr m x 0 (m p1 0)) p1 1)) p1 2)) p1 3)) p1 4)) p1 5)) p1 6)) x 7 ((wr (wr (wr (wr (wr (wr (wr m x 0 (m p1 0)) x 1 ((wr m x 0 (m p1 0)) p1 1)) x 2 ((wr (wr m x 0 (m p1 0)) x 1 ((wr m x 0 (m p1 0)) p1 1)) p1 2)) x 3 ((wr (wr (wr m x 0 (m p1 0)) x 1 ((wr m x 0 (m p1 0)) p1 1)) x 2 ((wr (wr m x 0 (m p1 0)) x 1 ((wr m x 0 (m p1 0)) p1 1)) p1 2)) p1 3)) x 4 ((wr (wr (wr (wr m x 0 (m p1 0)) x 1 ((wr m x 0 (m p1 0)) p1 1)) x 2 ((wr (wr m x 0 (m p1 0)) x 1 ((wr m x 0 (m p1 0)) p1 1)) p1 2)) x 3 ((wr (wr (wr m x 0 (m p1 0)) x 1 ((wr m x 0 (m p1 0)) p1 1)) x 2 ((wr (wr m x 0 (m p1 0)) x 1 ((wr m x 0 (m p1 0)) p1 1)) p1 2)) p1 3)) p1 4)) x 5 ((wr (wr (wr (wr (wr m x 0 (m p1 0)) x 1 ((wr m x 0 (m p1 0)) p1 1)) x 2 ((wr (wr m x 0 (m p1 0)) x 1 ((wr m x 0 (m p1 0)) p1 1)) p1 2)) x 3 ((wr (wr (wr m x 0 (m p1 0)) x 1 ((wr m x 0 (m p1 0)) p1 1)) x 2 ((wr (wr m x 0 (m p1 0)) x 1 ((wr m x 0 (m p1 0)) p1 1)) p1 2)) p1 3)) x 4 ((wr (wr (wr (wr m x 0 (m p1 0)) x 1 ((wr m x 0 (m p1 0)) p1 1)) x 2 ((wr (wr m x 0 (m p1 0)) x 1 ((wr m x 0 (m p1 0)) p1 1)) p1 2)) x 3 ((wr (wr (wr m x 0 (m p1 0)) x 1 ((wr m x 0 (m p1 0)) p1 1)) x 2 ((wr (wr m x 0 (m p1 0)) x 1 ((wr m x 0 (m p1 0)) p1 1)) p1 2)) p1 3)) p1 4)) p1 5)) x 6 ((wr (wr (wr (wr (wr (wr m x 0 (m p1 0)) x 1 ((wr m x 0 (m p1 0)) p1 1)) x 2 ((wr (wr m x 0 (m p1 0)) x 1 ((wr m x 0 (m p1 0)) p1 1)) p1 2)) x 3 ((wr (wr (wr m x 0 (m p1 0)) x 1 ((wr m x 0 (m p1 0)) p1 1)) x 2 ((wr (wr m x 0 (m p1 0)) x 1 ((wr m x 0 (m p1 0)) p1 1)) p1 2)) p1 3)) x 4 ((wr (wr (wr (wr m x 0 (m p1 0)) x 1 ((wr m x 0 (m p1 0)) p1 1)) x 2 ((wr (wr m x 0 (m p1 0)) x 1 ((wr m x 0 (m p1 0)) p1 1)) p1 2)) x 3 ((wr (wr (wr m x 0 (m p1 0)) x 1 ((wr m x 0 (m p1 0)) p1 1)) x 2 ((wr (wr m x 0 (m p1 0)) x 1 ((wr m x 0 (m p1 0)) p1 1)) p1 2)) p1 3)) p1 4)) x 5 ((wr (wr (wr (wr (wr m x 0 (m p1 0)) x 1 ((wr m x 0 (m p1 0)) p1 1)) x 2 ((wr (wr m x 0 (m p1 0)) x 1 ((wr m x 0 (m p1 0)) p1 1)) p1 2)) x 3 ((wr (wr (wr m x 0 (m p1 0)) x 1 ((wr m x 0 (m p1 0)) p1 1)) x 2 ((wr (wr m x 0 (m p1 0)) x 1 ((wr m x 0 (m p1 0)) p1 1)) p1 2)) p1 3)) x 4 ((wr (wr (wr (wr m x 0 (m p1 0)) x 1 ((wr m x 0 (m p1 0)) p1 1)) x 2 ((wr (wr m x 0 (m p1 0)) x 1 ((wr m x 0 (m p1 0)) p1 1)) p1 2)) x 3 ((wr (wr (wr m x 0 (m p1 0)) x 1 ((wr m x 0 (m p1 0)) p1 1)) x 2 ((wr (wr m x 0 (m p1 0)) x 1 ((wr m x 0 (m p1 0)) p1 1)) p1 2)) p1 3)) p1 4)) p1 5)) p1 6)) p1 7)) p1 8)) (p1 + 1) ((Int.toNat 0) + (j - (Int.toNat 0))) else (wr (wr (wr (wr (wr (wr (wr (wr (wr m x 0 (m p1 0)) x 1 ((wr m x 0 (m p1 0)) p1 1)) x 2 ((wr (wr m x 0 (m p1 0)) x 1 ((wr m x 0 (m p1 0)) p1 1)) p1 2)) x 3 ((wr (wr (wr m x 0 (m p1 0)) x 1 ((wr m x 0 (m p1 0)) p1 1)) x 2 ((wr (wr m x 0 (m p1 0)) x 1 ((wr m x 0 (m p1 0)) p1 1)) p1 2)) p1 3)) x 4 ((wr (wr (wr (wr m x 0 (m p1 0)) x 1 ((wr m x 0 (m p1 0)) p1 1)) x 2 ((wr (wr m x 0 (m p1 0)) x 1 ((wr m x 0 (m p1 0)) p1 1)) p1 2)) x 3 ((wr (wr (wr m x 0 (m p1 0)) x 1 ((wr m x 0 (m p1 0)) p1 1)) x 2 ((wr (wr m x 0 (m p1 0)) x 1 ((wr m x 0 (m p1 0)) p1 1)) p1 2)) p1 3)) p1 4)) x 5 ((wr (wr (wr (wr (wr m x 0 (m p1 0)) x 1 ((wr m x 0 (m p1 0)) p1 1)) x 2 ((wr (wr m x 0 (m p1 0)) x 1 ((wr m x 0 (m p1 0)) p1 1)) p1 2)) x 3 ((wr (wr (wr m x 0 (m p1 0)) x 1 ((wr m x 0 (m p1 0)) p1 1)) x 2 ((wr (wr m x 0 (m p1 0)) x 1 ((wr m x 0 (m p1 0)) p1 1)) p1 2)) p1 3)) x 4 ((wr (wr (wr (wr m x 0 (m p1 0)) x 1 ((wr m x 0 (m p1 0)) p1 1)) x 2 ((wr (wr m x 0 (m p1 0)) x 1 ((wr m x 0 (m p1 0)) p1 1)) p1 2)) x 3 ((wr (wr (wr m x 0 (m p1 0)) x 1 ((wr m x 0 (m p1 0)) p1 1)) x 2 ((wr (wr m x 0 (m p1 0)) x 1 ((wr m x 0 (m p1 0)) p1 1)) p1 2)) p1 3)) p1 4)) p1 5)) x 6 ((wr (wr (wr (wr (wr (wr m x 0 (m p1 0)) x 1 ((wr m x 0 (m p1 0)) p1 1)) x 2 ((wr (wr m x 0 (m p1 0)) x 1 ((wr m x 0 (m p1 0)) p1 1)) p1 2)) x 3 ((wr (wr (wr m x 0 (m p1 0)) x 1 ((wr m x 0 (m p1 0)) p1 1)) x 2 ((wr (wr m x 0 (m p1 0)) x 1 ((wr m x 0 (m p1 0)) p1 1)) p1 2)) p1 3)) x 4 ((wr (wr (wr (wr m x 0 (m p1 0)) x 1 ((wr m x 0 (m p1 0)) p1 1)) x 2 ((wr (wr m x 0 (m p1 0)) x 1 ((wr m x 0 (m p1 0)) p1 1)) p1 2)) x 3 ((wr (wr (wr m x 0 (m p1 0)) x 1 ((wr m x 0 (m p1 0)) p1 1)) x 2 ((wr (wr m x 0 (m p1 0)) x 1 ((wr m x 0 (m p1 0)) p1 1)) p1 2)) p1 3)) p1 4)) x 5 ((wr (wr (wr (wr (wr m x 0 (m p1 0)) x 1 ((wr m x 0 (m p1 0)) p1 1)) x 2 ((wr (wr m x 0 (m p1 0)) x 1 ((wr m x 0 (m p1 0)) p1 1)) p1 2)) x 3 ((wr (wr (wr m x 0 (m p1 0)) x 1 ((wr m x 0 (m p1 0)) p1 1)) x 2 ((wr (wr m x 0 (m p1 0)) x 1 ((wr m x 0 (m p1 0)) p1 1)) p1 2)) p1 3)) x 4 ((wr (wr (wr (wr m x 0 (m p1 0)) x 1 ((wr m x 0 (m p1 0)) p1 1)) x 2 ((wr (wr m x 0 (m p1 0)) x 1 ((wr m x 0 (m p1 0)) p1 1)) p1 2)) x 3 ((wr (wr (wr m x 0 (m p1 0)) x 1 ((wr m x 0 (m p1 0)) p1 1)) x 2 ((wr (wr m x 0 (m p1 0)) x 1 ((wr m x 0 (m p1 0)) p1 1)) p1 2)) p1 3)) p1 4)) p1 5)) p1 6)) x 7 ((wr (wr (wr (wr (wr (wr (wr m x 0 (m p1 0)) x 1 ((wr m x 0 (m p1 0)) p1 1)) x 2 ((wr (wr m x 0 (m p1 0)) x 1 ((wr m x 0 (m p1 0)) p1 1)) p1 2)) x 3 ((wr (wr (wr m x 0 (m p1 0)) x 1 ((wr m x 0 (m p1 0)) p1 1)) x 2 ((wr (wr m x 0 (m p1 0)) x 1 ((wr m x 0 (m p1 0)) p1 1)) p1 2)) p1 3)) x 4 ((wr (wr (wr (wr m x 0 (m p1 0)) x 1 ((wr m x 0 (m p1 0)) p1 1)) x 2 ((wr (wr m x 0 (m p1 0)) x 1 ((wr m x 0 (m p1 0)) p1 1)) p1 2)) x 3 ((wr (wr (wr m x 0 (m p1 0)) x 1 ((wr m x 0 (m p1 0)) p1 1)) x 2 ((wr (wr m x 0 (m p1 0)) x 1 ((wr m x 0 (m p1 0)) p1 1)) p1 2)) p1 3)) p1 4)) x 5 ((wr (wr (wr (wr (wr m x 0 (m p1 0)) x 1 ((wr m x 0 (m p1 0)) p1 1)) x 2 ((wr (wr m x 0 (m p1 0)) x 1 ((wr m x 0 (m p1 0)) p1 1)) p1 2)) x 3 ((wr (wr (wr m x 0 (m p1 0)) x 1 ((wr m x 0 (m p1 0)) p1 1)) x 2 ((wr (wr m x 0 (m p1 0)) x 1 ((wr m x 0 (m p1 0)) p1 1)) p1 2)) p1 3)) x 4 ((wr (wr (wr (wr m x 0 (m p1 0)) x 1 ((wr m x 0 (m p1 0)) p1 1)) x 2 ((wr (wr m x 0 (m p1 0)) x 1 ((wr m x 0 (m p1 0)) p1 1)) p1 2)) x 3 ((wr (wr (wr m x 0 (m p1 0)) x 1 ((wr m x 0 (m p1 0)) p1 1)) x 2 ((wr (wr m x 0 (m p1 0)) x 1 ((wr m x 0 (m p1 0)) p1 1)) p1 2)) p1 3)) p1 4)) p1 5)) x 6 ((wr (wr (wr (wr (wr (wr m x 0 (m p1 0)) x 1 ((wr m x 0 (m p1 0)) p1 1)) x 2 ((wr (wr m x 0 (m p1 0)) x 1 ((wr m x 0 (m p1 0)) p1 1)) p1 2)) x 3 ((wr (wr (wr m x 0 (m p1 0)) x 1 ((wr m x 0 (m p1 0)) p1 1)) x 2 ((wr (wr m x 0 (m p1 0)) x 1 ((wr m x 0 (m p1 0)) p1 1)) p1 2)) p1 3)) x 4 ((wr (wr (wr (wr m x 0 (m p1 0)) x 1 ((wr m x 0 (m p1 0)) p1 1)) x 2 ((wr (wr m x 0 (m p1 0)) x 1 ((wr m x 0 (m p1 0)) p1 1)) p1 2)) x 3 ((wr (wr (wr m x 0 (m p1 0)) x 1 ((wr m x 0 (m p1 0)) p1 1)) x 2 ((wr (wr m x 0 (m p1 0)) x 1 ((wr m x 0 (m p1 0)) p1 1)) p1 2)) p1 3)) p1 4)) x 5 ((wr (wr (wr (wr (wr m x 0 (m p1 0)) x 1 ((wr m x 0 (m p1 0)) p1 1)) x 2 ((wr (wr m x 0 (m p1 0)) x 1 ((wr m x 0 (m p1 0)) p1 1)) p1 2)) x 3 ((wr (wr (wr m x 0 (m p1 0)) x 1 ((wr m x 0 (m p1 0)) p1 1)) x 2 ((wr (wr m x 0 (m p1 0)) x 1 ((wr m x 0 (m p1 0)) p1 1)) p1 2)) p1 3)) x 4 ((wr (wr (wr (wr m x 0 (m p1 0)) x 1 ((wr m x 0 (m p1 0)) p1 1)) x 2 ((wr (wr m x 0 (m p1 0)) x 1 ((wr m x 0 (m p1 0)) p1 1)) p1 2)) x 3 ((wr (wr (wr m x 0 (m p1 0)) x 1 ((wr m x 0 (m p1 0)) p1 1)) x 2 ((wr (wr m x 0 (m p1 0)) x 1 ((wr m x 0 (m p1 0)) p1 1)) p1 2)) p1 3)) p1 4)) p1 5)) p1 6)) p1 7)) x 8 ((wr (wr (wr (wr (wr (wr (wr (wr m x 0 (m p1 0)) x 1 ((wr m x 0 (m p1 0)) p1 1)) x 2 ((wr (wr m x 0 (m p1 0)) x 1 ((wr m x 0 (m p1 0)) p1 1)) p1 2)) x 3 ((wr (wr (wr m x 0 (m p1 0)) x 1 ((wr m x 0 (m p1 0)) p1 1)) x 2 ((wr (wr m x 0 (m p1 0)) x 1 ((wr m x 0 (m p1 0)) p1 1)) p1 2)) p1 3)) x 4 ((wr (wr (wr (wr m x 0 (m p1 0)) x 1 ((wr m x 0 (m p1 0)) p1 1)) x 2 ((wr (wr m x 0 (m p1 0)) x 1 ((wr m x 0 (m p1 0)) p1 1)) p1 2)) x 3 ((wr (wr (wr m x 0 (m p1 0)) x 1 ((wr m x 0 (m p1 0)) p1 1)) x 2 ((wr (wr m x 0 (m p1 0)) x 1 ((wr m x 0 (m p1 0)) p1 1)) p1 2)) p1 3)) p1 4)) x 5 ((wr (wr (wr (wr (wr m x 0 (m p1 0)) x 1 ((wr m x 0 (m p1 0)) p1 1)) x 2 ((wr (wr m x 0 (m p1 0)) x 1 ((wr m x 0 (m p1 0)) p1 1)) p1 2)) x 3 ((wr (wr (wr m x 0 (m p1 0)) x 1 ((wr m x 0 (m p1 0)) p1 1)) x 2 ((wr (wr m x 0 (m p1 0)) x 1 ((wr m x 0 (m p1 0)) p1 1)) p1 2)) p1 3)) x 4 ((wr (wr (wr (wr m x 0 (m p1 0)) x 1 ((wr m x 0 (m p1 0)) p1 1)) x 2 ((wr (wr m x 0 (m p1 0)) x 1 ((wr m x 0 (m p1 0)) p1 1)) p1 2)) x 3 ((wr (wr (wr m x 0 (m p1 0)) x 1 ((wr m x 0 (m p1 0)) p1 1)) x 2 ((wr (wr m x 0 (m p1 0)) x 1 ((wr m x 0 (m p1 0)) p1 1)) p1 2)) p1 3)) p1 4)) p1 5)) x 6 ((wr (wr (wr (wr (wr (wr m x 0 (m p1 0)) x 1 ((wr m x 0 (m p1 0)) p1 1)) x 2 ((wr (wr m x 0 (m p1 0)) x 1 ((wr m x 0 (m p1 0)) p1 1)) p1 2)) x 3 ((wr (wr (wr m x 0 (m p1 0)) x 1 ((wr m x 0 (m p1 0)) p1 1)) x 2 ((wr (wr m x 0 (m p1 0)) x 1 ((wr m x 0 (m p1 0)) p1 1)) p1 2)) p1 3)) x 4 ((wr (wr (wr (wr m x 0 (m p1 0)) x 1 ((wr m x 0 (m p1 0)) p1 1)) x 2 ((wr (wr m x 0 (m p1 0)) x 1 ((wr m x 0 (m p1 0)) p1 1)) p1 2)) x 3 ((wr (wr (wr m x 0 (m p1 0)) x 1 ((wr m x 0 (m p1 0)) p1 1)) x 2 ((wr (wr m x 0 (m p1 0)) x 1 ((wr m x 0 (m p1 0)) p1 1)) p1 2)) p1 3)) p1 4)) x 5 ((wr (wr (wr (wr (wr m x 0 (m p1 0)) x 1 ((wr m x 0 (m p1 0)) p1 1)) x 2 ((wr (wr m x 0 (m p1 0)) x 1 ((wr m x 0 (m p1 0)) p1 1)) p1 2)) x 3 ((wr (wr (wr m x 0 (m p1 0)) x 1 ((wr m x 0 (m p1 0)) p1 1)) x 2 ((wr (wr m x 0 (m p1 0)) x 1 ((wr m x 0 (m p1 0)) p1 1)) p1 2)) p1 3)) x 4 ((wr (wr (wr (wr m x 0 (m p1 0)) x 1 ((wr m x 0 (m p1 0)) p1 1)) x 2 ((wr (wr m x 0 (m p1 0)) x 1 ((wr m x 0 (m p1 0)) p1 1)) p1 2)) x 3 ((wr (wr (wr m x 0 (m p1 0)) x 1 ((wr m x 0 (m p1 0)) p1 1)) x 2 ((wr (wr m x 0 (m p1 0)) x 1 ((wr m x 0 (m p1 0)) p1 1)) p1 2)) p1 3)) p1 4)) p1 5)) p1 6)) x 7 ((wr (wr (wr (wr (wr (wr (wr m x 0 (m p1 0)) x 1 ((wr m x 0 (m p1 0)) p1 1)) x 2 ((wr (wr m x 0 (m p1 0)) x 1 ((wr m x 0 (m p1 0)) p1 1)) p1 2)) x 3 ((wr (wr (wr m x 0 (m p1 0)) x 1 ((wr m x 0 (m p1 0)) p1 1)) x 2 ((wr (wr m x 0 (m p1 0)) x 1 ((wr m x 0 (m p1 0)) p1 1)) p1 2)) p1 3)) x 4 ((wr (wr (wr (wr m x 0 (m p1 0)) x 1 ((wr m x 0 (m p1 0)) p1 1)) x 2 ((wr (wr m x 0 (m p1 0)) x 1 ((wr m x 0 (m p1 0)) p1 1)) p1 2)) x 3 ((wr (wr (wr m x 0 (m p1 0)) x 1 ((wr m x 0 (m p1 0)) p1 1)) x 2 ((wr (wr m x 0 (m p1 0)) x 1 ((wr m x 0 (m p1 0)) p1 1)) p1 2)) p1 3)) p1 4)) x 5 ((wr (wr (wr (wr (wr m x 0 (m p1 0)) x 1 ((wr m x 0 (m p1 0)) p1 1)) x 2 ((wr (wr m x 0 (m p1 0)) x 1 ((wr m x 0 (m p1 0)) p1 1)) p1 2)) x 3 ((wr (wr (wr m x 0 (m p1 0)) x 1 ((wr m x 0 (m p1 0)) p1 1)) x 2 ((wr (wr m x 0 (m p1 0)) x 1 ((wr m x 0 (m p1 0)) p1 1)) p1 2)) p1 3)) x 4 ((wr (wr (wr (wr m x 0 (m p1 0)) x 1 ((wr m x 0 (m p1 0)) p1 1)) x 2 ((wr (wr m x 0 (m p1 0)) x 1 ((wr m x 0 (m p1 0)) p1 1)) p1 2)) x 3 ((wr (wr (wr m x 0 (m p1 0)) x 1 ((wr m x 0 (m p1 0)) p1 1)) x 2 ((wr (wr m x 0 (m p1 0)) x 1 ((wr m x 0 (m p1 0)) p1 1)) p1 2)) p1 3)) p1 4)) p1 5)) x 6 ((wr (wr (wr (wr (wr (wr m x 0 (m p1 0)) x 1 ((wr m x 0 (m p1 0)) p1 1)) x 2 ((wr (wr m x 0 (m p1 0)) x 1 ((wr m x 0 (m p1 0)) p1 1)) p1 2)) x 3 ((wr (wr (wr m x 0 (m p1 0)) x 1 ((wr m x 0 (m p1 0)) p1 1)) x 2 ((wr (wr m x 0 (m p1 0)) x 1 ((wr m x 0 (m p1 0)) p1 1)) p1 2)) p1 3)) x 4 ((wr (wr (wr (wr m x 0 (m p1 0)) x 1 ((wr m x 0 (m p1 0)) p1 1)) x 2 ((wr (wr m x 0 (m p1 0)) x 1 ((wr m x 0 (m p1 0)) p1 1)) p1 2)) x 3 ((wr (wr (wr m x 0 (m p1 0)) x 1 ((wr m x 0 (m p1 0)) p1 1)) x 2 ((wr (wr m x 0 (m p1 0)) x 1 ((wr m x 0 (m p1 0)) p1 1)) p1 2)) p1 3)) p1 4)) x 5 ((wr (wr (wr (wr (wr m x 0 (m p1 0)) x 1 ((wr m x 0 (m p1 0)) p1 1)) x 2 ((wr (wr m x 0 (m p1 0)) x 1 ((wr m x 0 (m p1 0)) p1 1)) p1 2)) x 3 ((wr (wr (wr m x 0 (m p1 0)) x 1 ((wr m x 0 (m p1 0)) p1 1)) x 2 ((wr (wr m x 0 (m p1 0)) x 1 ((wr m x 0 (m p1 0)) p1 1)) p1 2)) p1 3)) x 4 ((wr (wr (wr (wr m x 0 (m p1 0)) x 1 ((wr m x 0 (m p1 0)) p1 1)) x 2 ((wr (wr m x 0 (m p1 0)) x 1 ((wr m x 0 (m p1 0)) p1 1)) p1 2)) x 3 ((wr (wr (wr m x 0 (m p1 0)) x 1 ((wr m x 0 (m p1 0)) p1 1)) x 2 ((wr (wr m x 0 (m p1 0)) x 1 ((wr m x 0 (m p1 0)) p1 1)) p1 2)) p1 3)) p1 4)) p1 5)) p1 6)) p1 7)) p1 8)) (x + 1) j)) (x + 2) (fun j => if (Int.toNat 0) ≤ j ∧ j < (Int.toNat 0) + (Int.toNat (((28 : Nat) : Int))) then (row (wr (wr (wr (wr (wr (wr (wr (wr (wr m x 0 (m p1 0)) x 1 ((wr m x 0 (m p1 0)) p1 1)) x 2 ((wr (wr m x 0 (m p1 0)) x 1 ((wr m x 0 (m p1 0)) p1 1)) p1 2)) x 3 ((wr (wr (wr m x 0 (m p1 0)) x 1 ((wr m x 0 (m p1 0)) p1 1)) x 2 ((wr (wr m x 0 (m p1 0)) x 1 ((wr m x 0 (m p1 0)) p1 1)) p1 2)) p1 3)) x 4 ((wr (wr (wr (wr m x 0 (m p1 0)) x 1 ((wr m x 0 (m p1 0)) p1 1)) x 2 ((wr (wr m x 0 (m p1 0)) x 1 ((wr m x 0 (m p1 0)) p1 1)) p1 2)) x 3 ((wr (wr (wr m x 0 (m p1 0)) x 1 ((wr m x 0 (m p1 0)) p1 1)) x 2 ((wr (wr m x 0 (m p1 0)) x 1 ((wr m x 0 (m p1 0)) p1 1)) p1 2)) p1 3)) p1 4)) x 5 ((wr (wr (wr (wr (wr m x 0 (m p1 0)) x 1 ((wr m x 0 (m p1 0)) p1 1)) x 2 ((wr (wr m x 0 (m p1 0)) x 1 ((wr m x 0 (m p1 0)) p1 1)) p1 2)) x 3 ((wr (wr (wr m x 0 (m p1 0)) x 1 ((wr m x 0 (m p1 0)) p1 1)) x 2 ((wr (wr m x 0 (m p1 0)) x 1 ((wr m x 0 (m p1 0)) p1 1)) p1 2)) p1 3)) x 4 ((wr (wr (wr (wr m x 0 (m p1 0)) x 1 ((wr m x 0 (m p1 0)) p1 1)) x 2 ((wr (wr m x 0 (m p1 0)) x 1 ((wr m x 0 (m p1 0)) p1 1)) p1 2)) x 3 ((wr (wr (wr m x 0 (m p1 0)) x 1 ((wr m x 0 (m p1 0)) p1 1)) x 2 ((wr (wr m x 0 (m p1 0)) x 1 ((wr m x 0 (m p1 0)) p1 1)) p1 2)) p1 3)) p1 4)) p1 5)) x 6 ((wr (wr (wr (wr (wr (wr m x 0 (m p1 0)) x 1 ((wr m x 0 (m p1 0)) p1 1)) x 2 ((wr (wr m x 0 (m p1 0)) x 1 ((wr m x 0 (m p1 0)) p1 1)) p1 2)) x 3 ((wr (wr (wr m x 0 (m p1 0)) x 1 ((wr m x 0 (m p1 0)) p1 1)) x 2 ((wr (wr m x 0 (m p1 0)) x 1 ((wr m x 0 (m p1 0)) p1 1)) p1 2)) p1 3)) x 4 ((wr (wr (wr (wr m x 0 (m p1 0)) x 1 ((wr m x 0 (m p1 0)) p1 1)) x 2 ((wr (wr m x 0 (m p1 0)) x 1 ((wr m x 0 (m p1 0)) p1 1)) p1 2)) x 3 ((wr (wr (wr m x 0 (m p1 0)) x 1 ((wr m x 0 (m p1 0)) p1 1)) x 2 ((wr (wr m x 0 (m p1 0)) x 1 ((wr m x 0 (m p1 0)) p1 1)) p1 2)) p1 3)) p1 4)) x 5 ((wr (wr (wr (wr (wr m x 0 (m p1 0)) x 1 ((wr m x 0 (m p1 0)) p1 1)) x 2 ((wr (wr m x 0 (m p1 0)) x 1 ((wr m x 0 (m p1 0)) p1 1)) p1 2)) x 3 ((wr (wr (wr m x 0 (m p1 0)) x 1 ((wr m x 0 (m p1 0)) p1 1)) x 2 ((wr (wr m x 0 (m p1 0)) x 1 ((wr m x 0 (m p1 0)) p1 1)) p1 2)) p1 3)) x 4 ((wr (wr (wr (wr m x 0 (m p1 0)) x 1 ((wr m x 0 (m p1 0)) p1 1)) x 2 ((wr (wr m x 0 (m p1 0)) x 1 ((wr m x 0 (m p1 0)) p1 1)) p1 2)) x 3 ((wr (wr (wr m x 0 (m p1 0)) x 1 ((wr m x 0 (m p1 0)) p1 1)) x 2 ((wr (wr m x 0 (m p1 0)) x 1 ((wr m x 0 (m p1 0)) p1 1)) p1 2)) p1 3)) p1 4)) p1 5)) p1 6)) x 7 ((wr (wr (wr (wr (wr (wr (wr m x 0 (m p1 0)) x 1 ((wr m x 0 (m p1 0)) p1 1)) x 2 ((wr (wr m x 0 (m p1 0)) x 1 ((wr m x 0 (m p1 0)) p1 1)) p1 2)) x 3 ((wr (wr (wr m x 0 (m p1 0)) x 1 ((wr m x 0 (m p1 0)) p1 1)) x 2 ((wr (wr m x 0 (m p1 0)) x 1 ((wr m x 0 (m p1 0)) p1 1)) p1 2)) p1 3)) x 4 ((wr (wr (wr (wr m x 0 (m p1 0)) x 1 ((wr m x 0 (m p1 0)) p1 1)) x 2 ((wr (wr m x 0 (m p1 0)) x 1 ((wr m x 0 (m p1 0)) p1 1)) p1 2)) x 3 ((wr (wr (wr m x 0 (m p1 0)) x 1 ((wr m x 0 (m p1 0)) p1 1)) x 2 ((wr (wr m x 0 (m p1 0)) x 1 ((wr m x 0 (m p1 0)) p1 1)) p1 2)) p1 3)) p1 4)) x 5 ((wr (wr (wr (wr (wr m x 0 (m p1 0)) x 1 ((wr m x 0 (m p1 0)) p1 1)) x 2 ((wr (wr m x 0 (m p1 0)) x 1 ((wr m x 0 (m p1 0)) p1 1)) p1 2)) x 3 ((wr (wr (wr m x 0 (m p1 0)) x 1 ((wr m x 0 (m p1 0)) p1 1)) x 2 ((wr (wr m x 0 (m p1 0)) x 1 ((wr m x 0 (m p1 0)) p1 1)) p1 2)) p1 3)) x 4 ((wr (wr (wr (wr m x 0 (m p1 0)) x 1 ((wr m x 0 (m p1 0)) p1 1)) x 2 ((wr (wr m x 0 (m p1 0)) x 1 ((wr m x 0 (m p1 0)) p1 1)) p1 2)) x 3 ((wr (wr (wr m x 0 (m p1 0)) x 1 ((wr m x 0 (m p1 0)) p1 1)) x 2 ((wr (wr m x 0 (m p1 0)) x 1 ((wr m x 0 (m p1 0)) p1 1)) p1 2)) p1 3)) p1 4)) p1 5)) x 6 ((wr (wr (wr (wr (wr (wr m x 0 (m p1 0)) x 1 ((wr m x 0 (m p1 0)) p1 1)) x 2 ((wr (wr m x 0 (m p1 0)) x 1 ((wr m x 0 (m p1 0)) p1 1)) p1 2)) x 3 ((wr (wr (wr m x 0 (m p1 0)) x 1 ((wr m x 0 (m p1 0)) p1 1)) x 2 ((wr (wr m x 0 (m p1 0)) x 1 ((wr m x 0 (m p1 0)) p1 1)) p1 2)) p1 3)) x 4 ((wr (wr (wr (wr m x 0 (m p1 0)) x 1 ((wr m x 0 (m p1 0)) p1 1)) x 2 ((wr (wr m x 0 (m p1 0)) x 1 ((wr m x 0 (m p1 0)) p1 1)) p1 2)) x 3 ((wr (wr (wr m x 0 (m p1 0)) x 1 ((wr m x 0 (m p1 0)) p1 1)) x 2 ((wr (wr m x 0 (m p1 0)) x 1 ((wr m x 0 (m p1 0)) p1 1)) p1 2)) p1 3)) p1 4)) x 5 ((wr (wr (wr (wr (wr m x 0 (m p1 0)) x 1 ((wr m x 0 (m p1 0)) p1 1)) x 2 ((wr (wr m x 0 (m p1 0)) x 1 ((wr m x 0 (m p1 0)) p1 1)) p1 2)) x 3 ((wr (wr (wr m x 0 (m p1 0)) x 1 ((wr m x 0 (m p1 0)) p1 1)) x 2 ((wr (wr m x 0 (m p1 0)) x 1 ((wr m x 0 (m p1 0)) p1 1)) p1 2)) p1 3)) x 4 ((wr (wr (wr (wr m x 0 (m p1 0)) x 1 ((wr m x 0 (m p1 0)) p1 1)) x 2 ((wr (wr m x 0 (m p1 0)) x 1 ((wr m x 0 (m p1 0)) p1 1)) p1 2)) x 3 ((wr (wr (wr m x 0 (m p1 0)) x 1 ((wr m x 0 (m p1 0)) p1 1)) x 2 ((wr (wr m x 0 (m p1 0)) x 1 ((wr m x 0 (m p1 0)) p1 1)) p1 2)) p1 3)) p1 4)) p1 5)) p1 6)) p1 7)) x 8 ((wr (wr (wr (wr (wr (wr (wr (wr m x 0 (m p1 0)) x 1 ((wr m x 0 (m p1 0)) p1 1)) x 2 ((wr (wr m x 0 (m p1 0)) x 1 ((wr m x 0 (m p1 0)) p1 1)) p1 2)) x 3 ((wr (wr (wr m x 0 (m p1 0)) x 1 ((wr m x 0 (m p1 0)) p1 1)) x 2 ((wr (wr m x 0 (m p1 0)) x 1 ((wr m x 0 (m p1 0)) p1 1)) p1 2)) p1 3)) x 4 ((wr (wr (wr (wr m x 0 (m p1 0)) x 1 ((wr m x 0 (m p1 0)) p1 1)) x 2 ((wr (wr m x 0 (m p1 0)) x 1 ((wr m x 0 (m p1 0)) p1 1)) p1 2)) x 3 ((wr (wr (wr m x 0 (m p1 0)) x 1 ((wr m x 0 (m p1 0)) p1 1)) x 2 ((wr (wr m x 0 (m p1 0)) x 1 ((wr m x 0 (m p1 0)) p1 1)) p1 2)) p1 3)) p1 4)) x 5 ((wr (wr (wr (wr (wr m x 0 (m p1 0)) x 1 ((wr m x 0 (m p1 0)) p1 1)) x 2 ((wr (wr m x 0 (m p1 0)) x 1 ((wr m x 0 (m p1 0)) p1 1)) p1 2)) x 3 ((wr (wr (wr m x 0 (m p1 0)) x 1 ((wr m x 0 (m p1 0)) p1 1)) x 2 ((wr (wr m x 0 (m p1 0)) x 1 ((wr m x 0 (m p1 0)) p1 1)) p1 2)) p1 3)) x 4 ((wr (wr (wr (wr m x 0 (m p1 0)) x 1 ((wr m x 0 (m p1 0)) p1 1)) x 2 ((wr (wr m x 0 (m p1 0)) x 1 ((wr m x 0 (m p1 0)) p1 1)) p1 2)) x 3 ((wr (wr (wr m x 0 (m p1 0)) x 1 ((wr m x 0 (m p1 0)) p1 1)) x 2 ((wr (wr m x 0 (m p1 0)) x 1 ((wr m x 0 (m p1 0)) p1 1)) p1 2)) p1 3)) p1 4)) p1 5)) x 6 ((wr (wr (wr (wr (wr (wr m x 0 (m p1 0)) x 1 ((wr m x 0 (m p1 0)) p1 1)) x 2 ((wr (wr m x 0 (m p1 0)) x 1 ((wr m x 0 (m p1 0)) p1 1)) p1 2)) x 3 ((wr (wr (wr m x 0 (m p1 0)) x 1 ((wr m x 0 (m p1 0)) p1 1)) x 2 ((wr (wr m x 0 (m p1 0)) x 1 ((wr m x 0 (m p1 0)) p1 1)) p1 2)) p1 3)) x 4 ((wr (wr (wr (wr m x 0 (m p1 0)) x 1 ((wr m x 0 (m p1 0)) p1 1)) x 2 ((wr (wr m x 0 (m p1 0)) x 1 ((wr m x 0 (m p1 0)) p1 1)) p1 2)) x 3 ((wr (wr (wr m x 0 (m p1 0)) x 1 ((wr m x 0 (m p1 0)) p1 1)) x 2 ((wr (wr m x 0 (m p1 0)) x 1 ((wr m x 0 (m p1 0)) p1 1)) p1 2)) p1 3)) p1 4)) x 5 ((wr (wr (wr (wr (wr m x 0 (m p1 0)) x 1 ((wr m x 0 (m p1 0)) p1 1)) x 2 ((wr (wr m x 0 (m p1 0)) x 1 ((wr m x 0 (m p1 0)) p1 1)) p1 2)) x 3 ((wr (wr (wr m x 0 (m p1 0)) x 1 ((wr m x 0 (m p1 0)) p1 1)) x 2 ((wr (wr m x 0 (m p1 0)) x 1 ((wr m x 0 (m p1 0)) p1 1)) p1 2)) p1 3)) x 4 ((wr (wr (wr (wr m x 0 (m p1 0)) x 1 ((wr m x 0 (m p1 0)) p1 1)) x 2 ((wr (wr m x 0 (m p1 0)) x 1 ((wr m x 0 (m p1 0)) p1 1)) p1 2)) x 3 ((wr (wr (wr m x 0 (m p1 0)) x 1 ((wr m x 0 (m p1 0)) p1 1)) x 2 ((wr (wr m x 0 (m p1 0)) x 1 ((wr m x 0 (m p1 0)) p1 1)) p1 2)) p1 3)) p1 4)) p1 5)) p1 6)) x 7 ((wr (wr (wr (wr (wr (wr (wr m x 0 (m p1 0)) x 1 ((wr m x 0 (m p1 0)) p1 1)) x 2 ((wr (wr m x 0 (m p1 0)) x 1 ((wr m x 0 (m p1 0)) p1 1)) p1 2)) x 3 ((wr (wr (wr m x 0 (m p1 0)) x 1 ((wr m x 0 (m p1 0)) p1 1)) x 2 ((wr (wr m x 0 (m p1 0)) x 1 ((wr m x 0 (m p1 0)) p1 1)) p1 2)) p1 3)) x 4 ((wr (wr (wr (wr m x 0 (m p1 0)) x 1 ((wr m x 0 (m p1 0)) p1 1)) x 2 ((wr (wr m x 0 (m p1 0)) x 1 ((wr m x 0 (m p1 0)) p1 1)) p1 2)) x 3 ((wr (wr (wr m x 0 (m p1 0)) x 1 ((wr m x 0 (m p1 0)) p1 1)) x 2 ((wr (wr m x 0 (m p1 0)) x 1 ((wr m x 0 (m p1 0)) p1 1)) p1 2)) p1 3)) p1 4)) x 5 ((wr (wr (wr (wr (wr m x 0 (m p1 0)) x 1 ((wr m x 0 (m p1 0)) p1 1)) x 2 ((wr (wr m x 0 (m p1 0)) x 1 ((wr m x 0 (m p1 0)) p1 1)) p1 2)) x 3 ((wr (wr (wr m x 0 (m p1 0)) x 1 ((wr m x 0 (m p1 0)) p1 1)) x 2 ((wr (wr m x 0 (m p1 0)) x 1 ((wr m x 0 (m p1 0)) p1 1)) p1 2)) p1 3)) x 4 ((wr (wr (wr (wr m x 0 (m p1 0)) x 1 ((wr m x 0 (m p1 0)) p1 1)) x 2 ((wr (wr m x 0 (m p1 0)) x 1 ((wr m x 0 (m p1 0)) p1 1)) p1 2)) x 3 ((wr (wr (wr m x 0 (m p1 0)) x 1 ((wr m x 0 (m p1 0)) p1 1)) x 2 ((wr (wr m x 0 (m p1 0)) x 1 ((wr m x 0 (m p1 0)) p1 1)) p1 2)) p1 3)) p1 4)) p1 5)) x 6 ((wr (wr (wr (wr (wr (wr m x 0 (m p1 0)) x 1 ((wr m x 0 (m p1 0)) p1 1)) x 2 ((wr (wr m x 0 (m p1 0)) x 1 ((wr m x 0 (m p1 0)) p1 1)) p1 2)) x 3 ((wr (wr (wr m x 0 (m p1 0)) x 1 ((wr m x 0 (m p1 0)) p1 1)) x 2 ((wr (wr m x 0 (m p1 0)) x 1 ((wr m x 0 (m p1 0)) p1 1)) p1 2)) p1 3)) x 4 ((wr (wr (wr (wr m x 0 (m p1 0)) x 1 ((wr m x 0 (m p1 0)) p1 1)) x 2 ((wr (wr m x 0 (m p1 0)) x 1 ((wr m x 0 (m p1 0)) p1 1)) p1 2)) x 3 ((wr (wr (wr m x 0 (m p1 0)) x 1 ((wr m x 0 (m p1 0)) p1 1)) x 2 ((wr (wr m x 0 (m p1 0)) x 1 ((wr m x 0 (m p1 0)) p1 1)) p1 2)) p1 3)) p1 4)) x 5 ((wr (wr (wr (wr (wr m x 0 (m p1 0)) x 1 ((wr m x 0 (m p1 0)) p1 1)) x 2 ((wr (wr m x 0 (m p1 0)) x 1 ((wr m x 0 (m p1 0)) p1 1)) p1 2)) x 3 ((wr (wr (wr m x 0 (m p1 0)) x 1 ((wr m x 0 (m p1 0)) p1 1)) x 2 ((wr (wr m x 0 (m p1 0)) x 1 ((wr m x 0 (m p1 0)) p1 1)) p1 2)) p1 3)) x 4 ((wr (wr (wr (wr m x 0 (m p1 0)) x 1 ((wr m x 0 (m p1 0)) p1 1)) x 2 ((wr (wr m x 0 (m p1 0)) x 1 ((wr m x 0 (m p1 0)) p1 1)) p1 2)) x 3 ((wr (wr (wr m x 0 (m p1 0)) x 1 ((wr m x 0 (m p1 0)) p1 1)) x 2 ((wr (wr m x 0 (m p1 0)) x 1 ((wr m x 0 (m p1 0)) p1 1)) p1 2)) p1 3)) p1 4)) p1 5)) p1 6)) p1 7)) p1 8)) (x + 1) (fun j => if (Int.toNat 0) ≤ j ∧ j < (Int.toNat 0) + (Int.toNat (((7 : Nat) : Int))) then (wr (wr (wr (wr (wr (wr (wr (wr (wr m x 0 (m p1 0)) x 1 ((wr m x 0 (m p1 0)) p1 1)) x 2 ((wr (wr m x 0 (m p1 0)) x 1 ((wr m x 0 (m p1 0)) p1 1)) p1 2)) x 3 ((wr (wr (wr m x 0 (m p1 0)) x 1 ((wr m x 0 (m p1 0)) p1 1)) x 2 ((wr (wr m x 0 (m p1 0)) x 1 ((wr m x 0 (m p1 0)) p1 1)) p1 2)) p1 3)) x 4 ((wr (wr (wr (wr m x 0 (m p1 0)) x 1 ((wr m x 0 (m p1 0)) p1 1)) x 2 ((wr (wr m x 0 (m p1 0)) x 1 ((wr m x 0 (m p1 0)) p1 1)) p1 2)) x 3 ((wr (wr (wr m x 0 (m p1 0)) x 1 ((wr m x 0 (m p1 0)) p1 1)) x 2 ((wr (wr m x 0 (m p1 0)) x 1 ((wr m x 0 (m p1 0)) p1 1)) p1 2)) p1 3)) p1 4)) x 5 ((wr (wr (wr (wr (wr m x 0 (m p1 0)) x 1 ((wr m x 0 (m p1 0)) p1 1)) x 2 ((wr (wr m x 0 (m p1 0)) x 1 ((wr m x 0 (m p1 0)) p1 1)) p1 2)) x 3 ((wr (wr (wr m x 0 (m p1 0)) x 1 ((wr m x 0 (m p1 0)) p1 1)) x 2 ((wr (wr m x 0 (m p1 0)) x 1 ((wr m x 0 (m p1 0)) p1 1)) p1 2)) p1 3)) x 4 ((wr (wr (wr (wr m x 0 (m p1 0)) x 1 ((wr m x 0 (m p1 0)) p1 1)) x 2 ((wr (wr m x 0 (m p1 0)) x 1 ((wr m x 0 (m p1 0)) p1 1)) p1 2)) x 3 ((wr (wr (wr m x 0 (m p1 0)) x 1 ((wr m x 0 (m p1 0)) p1 1)) x 2 ((wr (wr m x 0 (m p1 0)) x 1 ((wr m x 0 (m p1 0)) p1 1)) p1 2)) p1 3)) p1 4)) p1 5)) x 6 ((wr (wr (wr (wr (wr (wr m x 0 (m p1 0)) x 1 ((wr m x 0 (m p1 0)) p1 1)) x 2 ((wr (wr m x 0 (m p1 0)) x 1 ((wr m x 0 (m p1 0)) p1 1)) p1 2)) x 3 ((wr (wr (wr m x 0 (m p1 0)) x 1 ((wr m x 0 (m p1 0)) p1 1)) x 2 ((wr (wr m x 0 (m p1 0)) x 1 ((wr m x 0 (m p1 0)) p1 1)) p1 2)) p1 3)) x 4 ((wr (wr (wr (wr m x 0 (m p1 0)) x 1 ((wr m x 0 (m p1 0)) p1 1)) x 2 ((wr (wr m x 0 (m p1 0)) x 1 ((wr m x 0 (m p1 0)) p1 1)) p1 2)) x 3 ((wr (wr (wr m x 0 (m p1 0)) x 1 ((wr m x 0 (m p1 0)) p1 1)) x 2 ((wr (wr m x 0 (m p1 0)) x 1 ((wr m x 0 (m p1 0)) p1 1)) p1 2)) p1 3)) p1 4)) x 5 ((wr (wr (wr (wr (wr m x 0 (m p1 0)) x 1 ((wr m x 0 (m p1 0)) p1 1)) x 2 ((wr (wr m x 0 (m p1 0)) x 1 ((wr m x 0 (m p1 0)) p1 1)) p1 2)) x 3 ((wr (wr (wr m x 0 (m p1 0)) x 1 ((wr m x 0 (m p1 0)) p1 1)) x 2 ((wr (wr m x 0 (m p1 0)) x 1 ((wr m x 0 (m p1 0)) p1 1)) p1 2)) p1 3)) x 4 ((wr (wr (wr (wr m x 0 (m p1 0)) x 1 ((wr m x 0 (m p1 0)) p1 1)) x 2 ((wr (wr m x 0 (m p1 0)) x 1 ((wr m x 0 (m p1 0)) p1 1)) p1 2)) x 3 ((wr (wr (wr m x 0 (m p1 0)) x 1 ((wr m x 0 (m p1 0)) p1 1)) x 2 ((wr (wr m x 0 (m p1 0)) x 1 ((wr m x 0 (m p1 0)) p1 1)) p1 2)) p1 3)) p1 4)) p1 5)) p1 6)) x 7 ((wr (wr (wr (wr (wr (wr (wr m x 0 (m p1 0)) x 1 ((wr m x 0 (m p1 0)) p1 1)) x 2 ((wr (wr m x 0 (m p1 0)) x 1 ((wr m x 0 (m p1 0)) p1 1)) p1 2)) x 3 ((wr (wr (wr m x 0 (m p1 0)) x 1 ((wr m x 0 (m p1 0)) p1 1)) x 2 ((wr (wr m x 0 (m p1 0)) x 1 ((wr m x 0 (m p1 0)) p1 1)) p1 2)) p1 3)) x 4 ((wr (wr (wr (wr m x 0 (m p1 0)) x 1 ((wr m x 0 (m p1 0)) p1 1)) x 2 ((wr (wr m x 0 (m p1 0)) x 1 ((wr m x 0 (m p1 0)) p1 1)) p1 2)) x 3 ((wr (wr (wr m x 0 (m p1 0)) x 1 ((wr m x 0 (m p1 0)) p1 1)) x 2 ((wr (wr m x 0 (m p1 0)) x 1 ((wr m x 0 (m p1 0)) p1 1)) p1 2)) p1 3)) p1 4)) x 5 ((wr (wr (wr (wr (wr m x 0 (m p1 0)) x 1 ((wr m x 0 (m p1 0)) p1 1)) x 2 ((wr (wr m x 0 (m p1 0)) x 1 ((wr m x 0 (m p1 0)) p1 1)) p1 2)) x 3 ((wr (wr (wr m x 0 (m p1 0)) x 1 ((wr m x 0 (m p1 0)) p1 1)) x 2 ((wr (wr m x 0 (m p1 0)) x 1 ((wr m x 0 (m p1 0)) p1 1)) p1 2)) p1 3)) x 4 ((wr (wr (wr (wr m x 0 (m p1 0)) x 1 ((wr m x 0 (m p1 0)) p1 1)) x 2 ((wr (wr m x 0 (m p1 0)) x 1 ((wr m x 0 (m p1 0)) p1 1)) p1 2)) x 3 ((wr (wr (wr m x 0 (m p1 0)) x 1 ((wr m x 0 (m p1 0)) p1 1)) x 2 ((wr (wr m x 0 (m p1 0)) x 1 ((wr m x 0 (m p1 0)) p1 1)) p1 2)) p1 3)) p1 4)) p1 5)) x 6 ((wr (wr (wr (wr (wr (wr m x 0 (m p1 0)) x 1 ((wr m x 0 (m p1 0)) p1 1)) x 2 ((wr (wr m x 0 (m p1 0)) x 1 ((wr m x 0 (m p1 0)) p1 1)) p1 2)) x 3 ((wr (wr (wr m x 0 (m p1 0)) x 1 ((wr m x 0 (m p1 0)) p1 1)) x 2 ((wr (wr m x 0 (m p1 0)) x 1 ((wr m x 0 (m p1 0)) p1 1)) p1 2)) p1 3)) x 4 ((wr (wr (wr (wr m x 0 (m p1 0)) x 1 ((wr m x 0 (m p1 0)) p1 1)) x 2 ((wr (wr m x 0 (m p1 0)) x 1 ((wr m x 0 (m p1 0)) p1 1)) p1 2)) x 3 ((wr (wr (wr m x 0 (m p1 0)) x 1 ((wr m x 0 (m p1 0)) p1 1)) x 2 ((wr (wr m x 0 (m p1 0)) x 1 ((wr m x 0 (m p1 0)) p1 1)) p1 2)) p1 3)) p1 4)) x 5 ((wr (wr (wr (wr (wr m x 0 (m p1 0)) x 1 ((wr m x 0 (m p1 0)) p1 1)) x 2 ((wr (wr m x 0 (m p1 0)) x 1 ((wr m x 0 (m p1 0)) p1 1)) p1 2)) x 3 ((wr (wr (wr m x 0 (m p1 0)) x 1 ((wr m x 0 (m p1 0)) p1 1)) x 2 ((wr (wr m x 0 (m p1 0)) x 1 ((wr m x 0 (m p1 0)) p1 1)) p1 2)) p1 3)) x 4 ((wr (wr (wr (wr m x 0 (m p1 0)) x 1 ((wr m x 0 (m p1 0)) p1 1)) x 2 ((wr (wr m x 0 (m p1 0)) x 1 ((wr m x 0 (m p1 0)) p1 1)) p1 2)) x 3 ((wr (wr (wr m x 0 (m p1 0)) x 1 ((wr m x 0 (m p1 0)) p1 1)) x 2 ((wr (wr m x 0 (m p1 0)) x 1 ((wr m x 0 (m p1 0)) p1 1)) p1 2)) p1 3)) p1 4)) p1 5)) p1 6)) p1 7)) x 8 ((wr (wr (wr (wr (wr (wr (wr (wr m x 0 (m p1 0)) x 1 ((wr m x 0 (m p1 0)) p1 1)) x 2 ((wr (wr m x 0 (m p1 0)) x 1 ((wr m x 0 (m p1 0)) p1 1)) p1 2)) x 3 ((wr (wr (wr m x 0 (m p1 0)) x 1 ((wr m x 0 (m p1 0)) p1 1)) x 2 ((wr (wr m x 0 (m p1 0)) x 1 ((wr m x 0 (m p1 0)) p1 1)) p1 2)) p1 3)) x 4 ((wr (wr (wr (wr m x 0 (m p1 0)) x 1 ((wr m x 0 (m p1 0)) p1 1)) x 2 ((wr (wr m x 0 (m p1 0)) x 1 ((wr m x 0 (m p1 0)) p1 1)) p1 2)) x 3 ((wr (wr (wr m x 0 (m p1 0)) x 1 ((wr m x 0 (m p1 0)) p1 1)) x 2 ((wr (wr m x 0 (m p1 0)) x 1 ((wr m x 0 (m p1 0)) p1 1)) p1 2)) p1 3)) p1 4)) x 5 ((wr (wr (wr (wr (wr m x 0 (m p1 0)) x 1 ((wr m x 0 (m p1 0)) p1 1)) x 2 ((wr (wr m x 0 (m p1 0)) x 1 ((wr m x 0 (m p1 0)) p1 1)) p1 2)) x 3 ((wr (wr (wr m x 0 (m p1 0)) x 1 ((wr m x 0 (m p1 0)) p1 1)) x 2 ((wr (wr m x 0 (m p1 0)) x 1 ((wr m x 0 (m p1 0)) p1 1)) p1 2)) p1 3)) x 4 ((wr (wr (wr (wr m x 0 (m p1 0)) x 1 ((wr m x 0 (m p1 0)) p1 1)) x 2 ((wr (wr m x 0 (m p1 0)) x 1 ((wr m x 0 (m p1 0)) p1 1)) p1 2)) x 3 ((wr (wr (wr m x 0 (m p1 0)) x 1 ((wr m x 0 (m p1 0)) p1 1)) x 2 ((wr (wr m x 0 (m p1 0)) x 1 ((wr m x 0 (m p1 0)) p1 1)) p1 2)) p1 3)) p1 4)) p1 5)) x 6 ((wr (wr (wr (wr (wr (wr m x 0 (m p1 0)) x 1 ((wr m x 0 (m p1 0)) p1 1)) x 2 ((wr (wr m x 0 (m p1 0)) x 1 ((wr m x 0 (m p1 0)) p1 1)) p1 2)) x 3 ((wr (wr (wr m x 0 (m p1 0)) x 1 ((wr m x 0 (m p1 0)) p1 1)) x 2 ((wr (wr m x 0 (m p1 0)) x 1 ((wr m x 0 (m p1 0)) p1 1)) p1 2)) p1 3)) x 4 ((wr (wr (wr (wr m x 0 (m p1 0)) x 1 ((wr m x 0 (m p1 0)) p1 1)) x 2 ((wr (wr m x 0 (m p1 0)) x 1 ((wr m x 0 (m p1 0)) p1 1)) p1 2)) x 3 ((wr (wr (wr m x 0 (m p1 0)) x 1 ((wr m x 0 (m p1 0)) p1 1)) x 2 ((wr (wr m x 0 (m p1 0)) x 1 ((wr m x 0 (m p1 0)) p1 1)) p1 2)) p1 3)) p1 4)) x 5 ((wr (wr (wr (wr (wr m x 0 (m p1 0)) x 1 ((wr m x 0 (m p1 0)) p1 1)) x 2 ((wr (wr m x 0 (m p1 0)) x 1 ((wr m x 0 (m p1 0)) p1 1)) p1 2)) x 3 ((wr (wr (wr m x 0 (m p1 0)) x 1 ((wr m x 0 (m p1 0)) p1 1)) x 2 ((wr (wr m x 0 (m p1 0)) x 1 ((wr m x 0 (m p1 0)) p1 1)) p1 2)) p1 3)) x 4 ((wr (wr (wr (wr m x 0 (m p1 0)) x 1 ((wr m x 0 (m p1 0)) p1 1)) x 2 ((wr (wr m x 0 (m p1 0)) x 1 ((wr m x 0 (m p1 0)) p1 1)) p1 2)) x 3 ((wr (wr (wr m x 0 (m p1 0)) x 1 ((wr m x 0 (m p1 0)) p1 1)) x 2 ((wr (wr m x 0 (m p1 0)) x 1 ((wr m x 0 (m p1 0)) p1 1)) p1 2)) p1 3)) p1 4)) p1 5)) p1 6)) x 7 ((wr (wr (wr (wr (wr (wr (wr m x 0 (m p1 0)) x 1 ((wr m x 0 (m p1 0)) p1 1)) x 2 ((wr (wr m x 0 (m p1 0)) x 1 ((wr m x 0 (m p1 0)) p1 1)) p1 2)) x 3 ((wr (wr (wr m x 0 (m p1 0)) x 1 ((wr m x 0 (m p1 0)) p1 1)) x 2 ((wr (wr m x 0 (m p1 0)) x 1 ((wr m x 0 (m p1 0)) p1 1)) p1 2)) p1 3)) x 4 ((wr (wr (wr (wr m x 0 (m p1 0)) x 1 ((wr m x 0 (m p1 0)) p1 1)) x 2 ((wr (wr m x 0 (m p1 0)) x 1 ((wr m x 0 (m p1 0)) p1 1)) p1 2)) x 3 ((wr (wr (wr m x 0 (m p1 0)) x 1 ((wr m x 0 (m p1 0)) p1 1)) x 2 ((wr (wr m x 0 (m p1 0)) x 1 ((wr m x 0 (m p1 0)) p1 1)) p1 2)) p1 3)) p1 4)) x 5 ((wr (wr (wr (wr (wr m x 0 (m p1 0)) x 1 ((wr m x 0 (m p1 0)) p1 1)) x 2 ((wr (wr m x 0 (m p1 0)) x 1 ((wr m x 0 (m p1 0)) p1 1)) p1 2)) x 3 ((wr (wr (wr m x 0 (m p1 0)) x 1 ((wr m x 0 (m p1 0)) p1 1)) x 2 ((wr (wr m x 0 (m p1 0)) x 1 ((wr m x 0 (m p1 0)) p1 1)) p1 2)) p1 3)) x 4 ((wr (wr (wr (wr m x 0 (m p1 0)) x 1 ((wr m x 0 (m p1 0)) p1 1)) x 2 ((wr (wr m x 0 (m p1 0)) x 1 ((wr m x 0 (m p1 0)) p1 1)) p1 2)) x 3 ((wr (wr (wr m x 0 (m p1 0)) x 1 ((wr m x 0 (m p1 0)) p1 1)) x 2 ((wr (wr m x 0 (m p1 0)) x 1 ((wr m x 0 (m p1 0)) p1 1)) p1 2)) p1 3)) p1 4)) p1 5)) x 6 ((wr (wr (wr (wr (wr (wr m x 0 (m p1 0)) x 1 ((wr m x 0 (m p1 0)) p1 1)) x 2 ((wr (wr m x 0 (m p1 0)) x 1 ((wr m x 0 (m p1 0)) p1 1)) p1 2)) x 3 ((wr (wr (wr m x 0 (m p1 0)) x 1 ((wr m x 0 (m p1 0)) p1 1)) x 2 ((wr (wr m x 0 (m p1 0)) x 1 ((wr m x 0 (m p1 0)) p1 1)) p1 2)) p1 3)) x 4 ((wr (wr (wr (wr m x 0 (m p1 0)) x 1 ((wr m x 0 (m p1 0)) p1 1)) x 2 ((wr (wr m x 0 (m p1 0)) x 1 ((wr m x 0 (m p1 0)) p1 1)) p1 2)) x 3 ((wr (wr (wr m x 0 (m p1 0)) x 1 ((wr m x 0 (m p1 0)) p1 1)) x 2 ((wr (wr m x 0 (m p1 0)) x 1 ((wr m x 0 (m p1 0)) p1 1)) p1 2)) p1 3)) p1 4)) x 5 ((wr (wr (wr (wr (wr m x 0 (m p1 0)) x 1 ((wr m x 0 (m p1 0)) p1 1)) x 2 ((wr (wr m x 0 (m p1 0)) x 1 ((wr m x 0 (m p1 0)) p1 1)) p1 2)) x 3 ((wr (wr (wr m x 0 (m p1 0)) x 1 ((wr m x 0 (m p1 0)) p1 1)) x 2 ((wr (wr m x 0 (m p1 0)) x 1 ((wr m x 0 (m p1 0)) p1 1)) p1 2)) p1 3)) x 4 ((wr (wr (wr (wr m x 0 (m p1 0)) x 1 ((wr m x 0 (m p1 0)) p1 1)) x 2 ((wr (wr m x 0 (m p1 0)) x 1 ((wr m x 0 (m p1 0)) p1 1)) p1 2)) x 3 ((wr (wr (wr m x 0 (m p1 0)) x 1 ((wr m x 0 (m p1 0)) p1 1)) x 2 ((wr (wr m x 0 (m p1 0)) x 1 ((wr m x 0 (m p1 0)) p1 1)) p1 2)) p1 3)) p1 4)) p1 5)) p1 6)) p1 7)) p1 8)) (p1 + 1) ((Int.toNat 0) + (j - (Int.toNat 0))) else (wr (wr (wr (wr (wr (wr (wr (wr (wr m x 0 (m p1 0)) x 1 ((wr m x 0 (m p1 0)) p1 1)) x 2 ((wr (wr m x 0 (m p1 0)) x 1 ((wr m x 0 (m p1 0)) p1 1)) p1 2)) x 3 ((wr (wr (wr m x 0 (m p1 0)) x 1 ((wr m x 0 (m p1 0)) p1 1)) x 2 ((wr (wr m x 0 (m p1 0)) x 1 ((wr m x 0 (m p1 0)) p1 1)) p1 2)) p1 3)) x 4 ((wr (wr (wr (wr m x 0 (m p1 0)) x 1 ((wr m x 0 (m p1 0)) p1 1)) x 2 ((wr (wr m x 0 (m p1 0)) x 1 ((wr m x 0 (m p1 0)) p1 1)) p1 2)) x 3 ((wr (wr (wr m x 0 (m p1 0)) x 1 ((wr m x 0 (m p1 0)) p1 1)) x 2 ((wr (wr m x 0 (m p1 0)) x 1 ((wr m x 0 (m p1 0)) p1 1)) p1 2)) p1 3)) p1 4)) x 5 ((wr (wr (wr (wr (wr m x 0 (m p1 0)) x 1 ((wr m x 0 (m p1 0)) p1 1)) x 2 ((wr (wr m x 0 (m p1 0)) x 1 ((wr m x 0 (m p1 0)) p1 1)) p1 2)) x 3 ((wr (wr (wr m x 0 (m p1 0)) x 1 ((wr m x 0 (m p1 0)) p1 1)) x 2 ((wr (wr m x 0 (m p1 0)) x 1 ((wr m x 0 (m p1 0)) p1 1)) p1 2)) p1 3)) x 4 ((wr (wr (wr (wr m x 0 (m p1 0)) x 1 ((wr m x 0 (m p1 0)) p1 1)) x 2 ((wr (wr m x 0 (m p1 0)) x 1 ((wr m x 0 (m p1 0)) p1 1)) p1 2)) x 3 ((wr (wr (wr m x 0 (m p1 0)) x 1 ((wr m x 0 (m p1 0)) p1 1)) x 2 ((wr (wr m x 0 (m p1 0)) x 1 ((wr m x 0 (m p1 0)) p1 1)) p1 2)) p1 3)) p1 4)) p1 5)) x 6 ((wr (wr (wr (wr (wr (wr m x 0 (m p1 0)) x 1 ((wr m x 0 (m p1 0)) p1 1)) x 2 ((wr (wr m x 0 (m p1 0)) x 1 ((wr m x 0 (m p1 0)) p1 1)) p1 2)) x 3 ((wr (wr (wr m x 0 (m p1 0)) x 1 ((wr m x 0 (m p1 0)) p1 1)) x 2 ((wr (wr m x 0 (m p1 0)) x 1 ((wr m x 0 (m p1 0)) p1 1)) p1 2)) p1 3)) x 4 ((wr (wr (wr (wr m x 0 (m p1 0)) x 1 ((wr m x 0 (m p1 0)) p1 1)) x 2 ((wr (wr m x 0 (m p1 0)) x 1 ((wr m x 0 (m p1 0)) p1 1)) p1 2)) x 3 ((wr (wr (wr m x 0 (m p1 0)) x 1 ((wr m x 0 (m p1 0)) p1 1)) x 2 ((wr (wr m x 0 (m p1 0)) x 1 ((wr m x 0 (m p1 0)) p1 1)) p1 2)) p1 3)) p1 4)) x 5 ((wr (wr (wr (wr (wr m x 0 (m p1 0)) x 1 ((wr m x 0 (m p1 0)) p1 1)) x 2 ((wr (wr m x 0 (m p1 0)) x 1 ((wr m x 0 (m p1 0)) p1 1)) p1 2)) x 3 ((wr (wr (wr m x 0 (m p1 0)) x 1 ((wr m x 0 (m p1 0)) p1 1)) x 2 ((wr (wr m x 0 (m p1 0)) x 1 ((wr m x 0 (m p1 0)) p1 1)) p1 2)) p1 3)) x 4 ((wr (wr (wr (wr m x 0 (m p1 0)) x 1 ((wr m x 0 (m p1 0)) p1 1)) x 2 ((wr (wr m x 0 (m p1 0)) x 1 ((wr m x 0 (m p1 0)) p1 1)) p1 2)) x 3 ((wr (wr (wr m x 0 (m p1 0)) x 1 ((wr m x 0 (m p1 0)) p1 1)) x 2 ((wr (wr m x 0 (m p1 0)) x 1 ((wr m x 0 (m p1 0)) p1 1)) p1 2)) p1 3)) p1 4)) p1 5)) p1 6)) x 7 ((wr (wr (wr (wr (wr (wr (wr m x 0 (m p1 0)) x 1 ((wr m x 0 (m p1 0)) p1 1)) x 2 ((wr (wr m x 0 (m p1 0)) x 1 ((wr m x 0 (m p1 0)) p1 1)) p1 2)) x 3 ((wr (wr (wr m x 0 (m p1 0)) x 1 ((wr m x 0 (m p1 0)) p1 1)) x 2 ((wr (wr m x 0 (m p1 0)) x 1 ((wr m x 0 (m p1 0)) p1 1)) p1 2)) p1 3)) x 4 ((wr (wr (wr (wr m x 0 (m p1 0)) x 1 ((wr m x 0 (m p1 0)) p1 1)) x 2 ((wr (wr m x 0 (m p1 0)) x 1 ((wr m x 0 (m p1 0)) p1 1)) p1 2)) x 3 ((wr (wr (wr m x 0 (m p1 0)) x 1 ((wr m x 0 (m p1 0)) p1 1)) x 2 ((wr (wr m x 0 (m p1 0)) x 1 ((wr m x 0 (m p1 0)) p1 1)) p1 2)) p1 3)) p1 4)) x 5 ((wr (wr (wr (wr (wr m x 0 (m p1 0)) x 1 ((wr m x 0 (m p1 0)) p1 1)) x 2 ((wr (wr m x 0 (m p1 0)) x 1 ((wr m x 0 (m p1 0)) p1 1)) p1 2)) x 3 ((wr (wr (wr m x 0 (m p1 0)) x 1 ((wr m x 0 (m p1 0)) p1 1)) x 2 ((wr (wr m x 0 (m p1 0)) x 1 ((wr m x 0 (m p1 0)) p1 1)) p1 2)) p1 3)) x 4 ((wr (wr (wr (wr m x 0 (m p1 0)) x 1 ((wr m x 0 (m p1 0)) p1 1)) x 2 ((wr (wr m x 0 (m p1 0)) x 1 ((wr m x 0 (m p1 0)) p1 1)) p1 2)) x 3 ((wr (wr (wr m x 0 (m p1 0)) x 1 ((wr m x 0 (m p1 0)) p1 1)) x 2 ((wr (wr m x 0 (m p1 0)) x 1 ((wr m x 0 (m p1 0)) p1 1)) p1 2)) p1 3)) p1 4)) p1 5)) x 6 ((wr (wr (wr (wr (wr (wr m x 0 (m p1 0)) x 1 ((wr m x 0 (m p1 0)) p1 1)) x 2 ((wr (wr m x 0 (m p1 0)) x 1 ((wr m x 0 (m p1 0)) p1 1)) p1 2)) x 3 ((wr (wr (wr m x 0 (m p1 0)) x 1 ((wr m x 0 (m p1 0)) p1 1)) x 2 ((wr (wr m x 0 (m p1 0)) x 1 ((wr m x 0 (m p1 0)) p1 1)) p1 2)) p1 3)) x 4 ((wr (wr (wr (wr m x 0 (m p1 0)) x 1 ((wr m x 0 (m p1 0)) p1 1)) x 2 ((wr (wr m x 0 (m p1 0)) x 1 ((wr m x 0 (m p1 0)) p1 1)) p1 2)) x 3 ((wr (wr (wr m x 0 (m p1 0)) x 1 ((wr m x 0 (m p1 0)) p1 1)) x 2 ((wr (wr m x 0 (m p1 0)) x 1 ((wr m x 0 (m p1 0)) p1 1)) p1 2)) p1 3)) p1 4)) x 5 ((wr (wr (wr (wr (wr m x 0 (m p1 0)) x 1 ((wr m x 0 (m p1 0)) p1 1)) x 2 ((wr (wr m x 0 (m p1 0)) x 1 ((wr m x 0 (m p1 0)) p1 1)) p1 2)) x 3 ((wr (wr (wr m x 0 (m p1 0)) x 1 ((wr m x 0 (m p1 0)) p1 1)) x 2 ((wr (wr m x 0 (m p1 0)) x 1 ((wr m x 0 (m p1 0)) p1 1)) p1 2)) p1 3)) x 4 ((wr (wr (wr (wr m x 0 (m p1 0)) x 1 ((wr m x 0 (m p1 0)) p1 1)) x 2 ((wr (wr m x 0 (m p1 0)) x 1 ((wr m x 0 (m p1 0)) p1 1)) p1 2)) x 3 ((wr (wr (wr m x 0 (m p1 0)) x 1 ((wr m x 0 (m p1 0)) p1 1)) x 2 ((wr (wr m x 0 (m p1 0)) x 1 ((wr m x 0 (m p1 0)) p1 1)) p1 2)) p1 3)) p1 4)) p1 5)) p1 6)) p1 7)) x 8 ((wr (wr (wr (wr (wr (wr (wr (wr m x 0 (m p1 0)) x 1 ((wr m x 0 (m p1 0)) p1 1)) x 2 ((wr (wr m x 0 (m p1 0)) x 1 ((wr m x 0 (m p1 0)) p1 1)) p1 2)) x 3 ((wr (wr (wr m x 0 (m p1 0)) x 1 ((wr m x 0 (m p1 0)) p1 1)) x 2 ((wr (wr m x 0 (m p1 0)) x 1 ((wr m x 0 (m p1 0)) p1 1)) p1 2)) p1 3)) x 4 ((wr (wr (wr (wr m x 0 (m p1 0)) x 1 ((wr m x 0 (m p1 0)) p1 1)) x 2 ((wr (wr m x 0 (m p1 0)) x 1 ((wr m x 0 (m p1 0)) p1 1)) p1 2)) x 3 ((wr (wr (wr m x 0 (m p1 0)) x 1 ((wr m x 0 (m p1 0)) p1 1)) x 2 ((wr (wr m x 0 (m p1 0)) x 1 ((wr m x 0 (m p1 0)) p1 1)) p1 2)) p1 3)) p1 4)) x 5 ((wr (wr (wr (wr (wr m x 0 (m p1 0)) x 1 ((wr m x 0 (m p1 0)) p1 1)) x 2 ((wr (wr m x 0 (m p1 0)) x 1 ((wr m x 0 (m p1 0)) p1 1)) p1 2)) x 3 ((wr (wr (wr m x 0 (m p1 0)) x 1 ((wr m x 0 (m p1 0)) p1 1)) x 2 ((wr (wr m x 0 (m p1 0)) x 1 ((wr m x 0 (m p1 0)) p1 1)) p1 2)) p1 3)) x 4 ((wr (wr (wr (wr m x 0 (m p1 0)) x 1 ((wr m x 0 (m p1 0)) p1 1)) x 2 ((wr (wr m x 0 (m p1 0)) x 1 ((wr m x 0 (m p1 0)) p1 1)) p1 2)) x 3 ((wr (wr (wr m x 0 (m p1 0)) x 1 ((wr m x 0 (m p1 0)) p1 1)) x 2 ((wr (wr m x 0 (m p1 0)) x 1 ((wr m x 0 (m p1 0)) p1 1)) p1 2)) p1 3)) p1 4)) p1 5)) x 6 ((wr (wr (wr (wr (wr (wr m x 0 (m p1 0)) x 1 ((wr m x 0 (m p1 0)) p1 1)) x 2 ((wr (wr m x 0 (m p1 0)) x 1 ((wr m x 0 (m p1 0)) p1 1)) p1 2)) x 3 ((wr (wr (wr m x 0 (m p1 0)) x 1 ((wr m x 0 (m p1 0)) p1 1)) x 2 ((wr (wr m x 0 (m p1 0)) x 1 ((wr m x 0 (m p1 0)) p1 1)) p1 2)) p1 3)) x 4 ((wr (wr (wr (wr m x 0 (m p1 0)) x 1 ((wr m x 0 (m p1 0)) p1 1)) x 2 ((wr (wr m x 0 (m p1 0)) x 1 ((wr m x 0 (m p1 0)) p1 1)) p1 2)) x 3 ((wr (wr (wr m x 0 (m p1 0)) x 1 ((wr m x 0 (m p1 0)) p1 1)) x 2 ((wr (wr m x 0 (m p1 0)) x 1 ((wr m x 0 (m p1 0)) p1 1)) p1 2)) p1 3)) p1 4)) x 5 ((wr (wr (wr (wr (wr m x 0 (m p1 0)) x 1 ((wr m x 0 (m p1 0)) p1 1)) x 2 ((wr (wr m x 0 (m p1 0)) x 1 ((wr m x 0 (m p1 0)) p1 1)) p1 2)) x 3 ((wr (wr (wr m x 0 (m p1 0)) x 1 ((wr m x 0 (m p1 0)) p1 1)) x 2 ((wr (wr m x 0 (m p1 0)) x 1 ((wr m x 0 (m p1 0)) p1 1)) p1 2)) p1 3)) x 4 ((wr (wr (wr (wr m x 0 (m p1 0)) x 1 ((wr m x 0 (m p1 0)) p1 1)) x 2 ((wr (wr m x 0 (m p1 0)) x 1 ((wr m x 0 (m p1 0)) p1 1)) p1 2)) x 3 ((wr (wr (wr m x 0 (m p1 0)) x 1 ((wr m x 0 (m p1 0)) p1 1)) x 2 ((wr (wr m x 0 (m p1 0)) x 1 ((wr m x 0 (m p1 0)) p1 1)) p1 2)) p1 3)) p1 4)) p1 5)) p1 6)) x 7 ((wr (wr (wr (wr (wr (wr (wr m x 0 (m p1 0)) x 1 ((wr m x 0 (m p1 0)) p1 1)) x 2 ((wr (wr m x 0 (m p1 0)) x 1 ((wr m x 0 (m p1 0)) p1 1)) p1 2)) x 3 ((wr (wr (wr m x 0 (m p1 0)) x 1 ((wr m x 0 (m p1 0)) p1 1)) x 2 ((wr (wr m x 0 (m p1 0)) x 1 ((wr m x 0 (m p1 0)) p1 1)) p1 2)) p1 3)) x 4 ((wr (wr (wr (wr m x 0 (m p1 0)) x 1 ((wr m x 0 (m p1 0)) p1 1)) x 2 ((wr (wr m x 0 (m p1 0)) x 1 ((wr m x 0 (m p1 0)) p1 1)) p1 2)) x 3 ((wr (wr (wr m x 0 (m p1 0)) x 1 ((wr m x 0 (m p1 0)) p1 1)) x 2 ((wr (wr m x 0 (m p1 0)) x 1 ((wr m x 0 (m p1 0)) p1 1)) p1 2)) p1 3)) p1 4)) x 5 ((wr (wr (wr (wr (wr m x 0 (m p1 0)) x 1 ((wr m x 0 (m p1 0)) p1 1)) x 2 ((wr (wr m x 0 (m p1 0)) x 1 ((wr m x 0 (m p1 0)) p1 1)) p1 2)) x 3 ((wr (wr (wr m x 0 (m p1 0)) x 1 ((wr m x 0 (m p1 0)) p1 1)) x 2 ((wr (wr m x 0 (m p1 0)) x 1 ((wr m x 0 (m p1 0)) p1 1)) p1 2)) p1 3)) x 4 ((wr (wr (wr (wr m x 0 (m p1 0)) x 1 ((wr m x 0 (m p1 0)) p1 1)) x 2 ((wr (wr m x 0 (m p1 0)) x 1 ((wr m x 0 (m p1 0)) p1 1)) p1 2)) x 3 ((wr (wr (wr m x 0 (m p1 0)) x 1 ((wr m x 0 (m p1 0)) p1 1)) x 2 ((wr (wr m x 0 (m p1 0)) x 1 ((wr m x 0 (m p1 0)) p1 1)) p1 2)) p1 3)) p1 4)) p1 5)) x 6 ((wr (wr (wr (wr (wr (wr m x 0 (m p1 0)) x 1 ((wr m x 0 (m p1 0)) p1 1)) x 2 ((wr (wr m x 0 (m p1 0)) x 1 ((wr m x 0 (m p1 0)) p1 1)) p1 2)) x 3 ((wr (wr (wr m x 0 (m p1 0)) x 1 ((wr m x 0 (m p1 0)) p1 1)) x 2 ((wr (wr m x 0 (m p1 0)) x 1 ((wr m x 0 (m p1 0)) p1 1)) p1 2)) p1 3)) x 4 ((wr (wr (wr (wr m x 0 (m p1 0)) x 1 ((wr m x 0 (m p1 0)) p1 1)) x 2 ((wr (wr m x 0 (m p1 0)) x 1 ((wr m x 0 (m p1 0)) p1 1)) p1 2)) x 3 ((wr (wr (wr m x 0 (m p1 0)) x 1 ((wr m x 0 (m p1 0)) p1 1)) x 2 ((wr (wr m x 0 (m p1 0)) x 1 ((wr m x 0 (m p1 0)) p1 1)) p1 2)) p1 3)) p1 4)) x 5 ((wr (wr (wr (wr (wr m x 0 (m p1 0)) x 1 ((wr m x 0 (m p1 0)) p1 1)) x 2 ((wr (wr m x 0 (m p1 0)) x 1 ((wr m x 0 (m p1 0)) p1 1)) p1 2)) x 3 ((wr (wr (wr m x 0 (m p1 0)) x 1 ((wr m x 0 (m p1 0)) p1 1)) x 2 ((wr (wr m x 0 (m p1 0)) x 1 ((wr m x 0 (m p1 0)) p1 1)) p1 2)) p1 3)) x 4 ((wr (wr (wr (wr m x 0 (m p1 0)) x 1 ((wr m x 0 (m p1 0)) p1 1)) x 2 ((wr (wr m x 0 (m p1 0)) x 1 ((wr m x 0 (m p1 0)) p1 1)) p1 2)) x 3 ((wr (wr (wr m x 0 (m p1 0)) x 1 ((wr m x 0 (m p1 0)) p1 1)) x 2 ((wr (wr m x 0 (m p1 0)) x 1 ((wr m x 0 (m p1 0)) p1 1)) p1 2)) p1 3)) p1 4)) p1 5)) p1 6)) p1 7)) p1 8)) (x + 1) j)) (p1 + 2) ((Int.toNat 0) + (j - (Int.toNat 0))) else (row (wr (wr (wr (wr (wr (wr (wr (wr (wr m x 0 (m p1 0)) x 1 ((wr m x 0 (m p1 0)) p1 1)) x 2 ((wr (wr m x 0 (m p1 0)) x 1 ((wr m x 0 (m p1 0)) p1 1)) p1 2)) x 3 ((wr (wr (wr m x 0 (m p1 0)) x 1 ((wr m x 0 (m p1 0)) p1 1)) x 2 ((wr (wr m x 0 (m p1 0)) x 1 ((wr m x 0 (m p1 0)) p1 1)) p1 2)) p1 3)) x 4 ((wr (wr (wr (wr m x 0 (m p1 0)) x 1 ((wr m x 0 (m p1 0)) p1 1)) x 2 ((wr (wr m x 0 (m p1 0)) x 1 ((wr m x 0 (m p1 0)) p1 1)) p1 2)) x 3 ((wr (wr (wr m x 0 (m p1 0)) x 1 ((wr m x 0 (m p1 0)) p1 1)) x 2 ((wr (wr m x 0 (m p1 0)) x 1 ((wr m x 0 (m p1 0)) p1 1)) p1 2)) p1 3)) p1 4)) x 5 ((wr (wr (wr (wr (wr m x 0 (m p1 0)) x 1 ((wr m x 0 (m p1 0)) p1 1)) x 2 ((wr (wr m x 0 (m p1 0)) x 1 ((wr m x 0 (m p1 0)) p1 1)) p1 2)) x 3 ((wr (wr (wr m x 0 (m p1 0)) x 1 ((wr m x 0 (m p1 0)) p1 1)) x 2 ((wr (wr m x 0 (m p1 0)) x 1 ((wr m x 0 (m p1 0)) p1 1)) p1 2)) p1 3)) x 4 ((wr (wr (wr (wr m x 0 (m p1 0)) x 1 ((wr m x 0 (m p1 0)) p1 1)) x 2 ((wr (wr m x 0 (m p1 0)) x 1 ((wr m x 0 (m p1 0)) p1 1)) p1 2)) x 3 ((wr (wr (wr m x 0 (m p1 0)) x 1 ((wr m x 0 (m p1 0)) p1 1)) x 2 ((wr (wr m x 0 (m p1 0)) x 1 ((wr m x 0 (m p1 0)) p1 1)) p1 2)) p1 3)) p1 4)) p1 5)) x 6 ((wr (wr (wr (wr (wr (wr m x 0 (m p1 0)) x 1 ((wr m x 0 (m p1 0)) p1 1)) x 2 ((wr (wr m x 0 (m p1 0)) x 1 ((wr m x 0 (m p1 0)) p1 1)) p1 2)) x 3 ((wr (wr (wr m x 0 (m p1 0)) x 1 ((wr m x 0 (m p1 0)) p1 1)) x 2 ((wr (wr m x 0 (m p1 0)) x 1 ((wr m x 0 (m p1 0)) p1 1)) p1 2)) p1 3)) x 4 ((wr (wr (wr (wr m x 0 (m p1 0)) x 1 ((wr m x 0 (m p1 0)) p1 1)) x 2 ((wr (wr m x 0 (m p1 0)) x 1 ((wr m x 0 (m p1 0)) p1 1)) p1 2)) x 3 ((wr (wr (wr m x 0 (m p1 0)) x 1 ((wr m x 0 (m p1 0)) p1 1)) x 2 ((wr (wr m x 0 (m p1 0)) x 1 ((wr m x 0 (m p1 0)) p1 1)) p1 2)) p1 3)) p1 4)) x 5 ((wr (wr (wr (wr (wr m x 0 (m p1 0)) x 1 ((wr m x 0 (m p1 0)) p1 1)) x 2 ((wr (wr m x 0 (m p1 0)) x 1 ((wr m x 0 (m p1 0)) p1 1)) p1 2)) x 3 ((wr (wr (wr m x 0 (m p1 0)) x 1 ((wr m x 0 (m p1 0)) p1 1)) x 2 ((wr (wr m x 0 (m p1 0)) x 1 ((wr m x 0 (m p1 0)) p1 1)) p1 2)) p1 3)) x 4 ((wr (wr (wr (wr m x 0 (m p1 0)) x 1 ((wr m x 0 (m p1 0)) p1 1)) x 2 ((wr (wr m x 0 (m p1 0)) x 1 ((wr m x 0 (m p1 0)) p1 1)) p1 2)) x 3 ((wr (wr (wr m x 0 (m p1 0)) x 1 ((wr m x 0 (m p1 0)) p1 1)) x 2 ((wr (wr m x 0 (m p1 0)) x 1 ((wr m x 0 (m p1 0)) p1 1)) p1 2)) p1 3)) p1 4)) p1 5)) p1 6)) x 7 ((wr (wr (wr (wr (wr (wr (wr m x 0 (m p1 0)) x 1 ((wr m x 0 (m p1 0)) p1 1)) x 2 ((wr (wr m x 0 (m p1 0)) x 1 ((wr m x 0 (m p1 0)) p1 1)) p1 2)) x 3 ((wr (wr (wr m x 0 (m p1 0)) x 1 ((wr m x 0 (m p1 0)) p1 1)) x 2 ((wr (wr m x 0 (m p1 0)) x 1 ((wr m x 0 (m p1 0)) p1 1)) p1 2)) p1 3)) x 4 ((wr (wr (wr (wr m x 0 (m p1 0)) x 1 ((wr m x 0 (m p1 0)) p1 1)) x 2 ((wr (wr m x 0 (m p1 0)) x 1 ((wr m x 0 (m p1 0)) p1 1)) p1 2)) x 3 ((wr (wr (wr m x 0 (m p1 0)) x 1 ((wr m x 0 (m p1 0)) p1 1)) x 2 ((wr (wr m x 0 (m p1 0)) x 1 ((wr m x 0 (m p1 0)) p1 1)) p1 2)) p1 3)) p1 4)) x 5 ((wr (wr (wr (wr (wr m x 0 (m p1 0)) x 1 ((wr m x 0 (m p1 0)) p1 1)) x 2 ((wr (wr m x 0 (m p1 0)) x 1 ((wr m x 0 (m p1 0)) p1 1)) p1 2)) x 3 ((wr (wr (wr m x 0 (m p1 0)) x 1 ((wr m x 0 (m p1 0)) p1 1)) x 2 ((wr (wr m x 0 (m p1 0)) x 1 ((wr m x 0 (m p1 0)) p1 1)) p1 2)) p1 3)) x 4 ((wr (wr (wr (wr m x 0 (m p1 0)) x 1 ((wr m x 0 (m p1 0)) p1 1)) x 2 ((wr (wr m x 0 (m p1 0)) x 1 ((wr m x 0 (m p1 0)) p1 1)) p1 2)) x 3 ((wr (wr (wr m x 0 (m p1 0)) x 1 ((wr m x 0 (m p1 0)) p1 1)) x 2 ((wr (wr m x 0 (m p1 0)) x 1 ((wr m x 0 (m p1 0)) p1 1)) p1 2)) p1 3)) p1 4)) p1 5)) x 6 ((wr (wr (wr (wr (wr (wr m x 0 (m p1 0)) x 1 ((wr m x 0 (m p1 0)) p1 1)) x 2 ((wr (wr m x 0 (m p1 0)) x 1 ((wr m x 0 (m p1 0)) p1 1)) p1 2)) x 3 ((wr (wr (wr m x 0 (m p1 0)) x 1 ((wr m x 0 (m p1 0)) p1 1)) x 2 ((wr (wr m x 0 (m p1 0)) x 1 ((wr m x 0 (m p1 0)) p1 1)) p1 2)) p1 3)) x 4 ((wr (wr (wr (wr m x 0 (m p1 0)) x 1 ((wr m x 0 (m p1 0)) p1 1)) x 2 ((wr (wr m x 0 (m p1 0)) x 1 ((wr m x 0 (m p1 0)) p1 1)) p1 2)) x 3 ((wr (wr (wr m x 0 (m p1 0)) x 1 ((wr m x 0 (m p1 0)) p1 1)) x 2 ((wr (wr m x 0 (m p1 0)) x 1 ((wr m x 0 (m p1 0)) p1 1)) p1 2)) p1 3)) p1 4)) x 5 ((wr (wr (wr (wr (wr m x 0 (m p1 0)) x 1 ((wr m x 0 (m p1 0)) p1 1)) x 2 ((wr (wr m x 0 (m p1 0)) x 1 ((wr m x 0 (m p1 0)) p1 1)) p1 2)) x 3 ((wr (wr (wr m x 0 (m p1 0)) x 1 ((wr m x 0 (m p1 0)) p1 1)) x 2 ((wr (wr m x 0 (m p1 0)) x 1 ((wr m x 0 (m p1 0)) p1 1)) p1 2)) p1 3)) x 4 ((wr (wr (wr (wr m x 0 (m p1 0)) x 1 ((wr m x 0 (m p1 0)) p1 1)) x 2 ((wr (wr m x 0 (m p1 0)) x 1 ((wr m x 0 (m p1 0)) p1 1)) p1 2)) x 3 ((wr (wr (wr m x 0 (m p1 0)) x 1 ((wr m x 0 (m p1 0)) p1 1)) x 2 ((wr (wr m x 0 (m p1 0)) x 1 ((wr m x 0 (m p1 0)) p1 1)) p1 2)) p1 3)) p1 4)) p1 5)) p1 6)) p1 7)) x 8 ((wr (wr (wr (wr (wr (wr (wr (wr m x 0 (m p1 0)) x 1 ((wr m x 0 (m p1 0)) p1 1)) x 2 ((wr (wr m x 0 (m p1 0)) x 1 ((wr m x 0 (m p1 0)) p1 1)) p1 2)) x 3 ((wr (wr (wr m x 0 (m p1 0)) x 1 ((wr m x 0 (m p1 0)) p1 1)) x 2 ((wr (wr m x 0 (m p1 0)) x 1 ((wr m x 0 (m p1 0)) p1 1)) p1 2)) p1 3)) x 4 ((wr (wr (wr (wr m x 0 (m p1 0)) x 1 ((wr m x 0 (m p1 0)) p1 1)) x 2 ((wr (wr m x 0 (m p1 0)) x 1 ((wr m x 0 (m p1 0)) p1 1)) p1 2)) x 3 ((wr (wr (wr m x 0 (m p1 0)) x 1 ((wr m x 0 (m p1 0)) p1 1)) x 2 ((wr (wr m x 0 (m p1 0)) x 1 ((wr m x 0 (m p1 0)) p1 1)) p1 2)) p1 3)) p1 4)) x 5 ((wr (wr (wr (wr (wr m x 0 (m p1 0)) x 1 ((wr m x 0 (m p1 0)) p1 1)) x 2 ((wr (wr m x 0 (m p1 0)) x 1 ((wr m x 0 (m p1 0)) p1 1)) p1 2)) x 3 ((wr (wr (wr m x 0 (m p1 0)) x 1 ((wr m x 0 (m p1 0)) p1 1)) x 2 ((wr (wr m x 0 (m p1 0)) x 1 ((wr m x 0 (m p1 0)) p1 1)) p1 2)) p1 3)) x 4 ((wr (wr (wr (wr m x 0 (m p1 0)) x 1 ((wr m x 0 (m p1 0)) p1 1)) x 2 ((wr (wr m x 0 (m p1 0)) x 1 ((wr m x 0 (m p1 0)) p1 1)) p1 2)) x 3 ((wr (wr (wr m x 0 (m p1 0)) x 1 ((wr m x 0 (m p1 0)) p1 1)) x 2 ((wr (wr m x 0 (m p1 0)) x 1 ((wr m x 0 (m p1 0)) p1 1)) p1 2)) p1 3)) p1 4)) p1 5)) x 6 ((wr (wr (wr (wr (wr (wr m x 0 (m p1 0)) x 1 ((wr m x 0 (m p1 0)) p1 1)) x 2 ((wr (wr m x 0 (m p1 0)) x 1 ((wr m x 0 (m p1 0)) p1 1)) p1 2)) x 3 ((wr (wr (wr m x 0 (m p1 0)) x 1 ((wr m x 0 (m p1 0)) p1 1)) x 2 ((wr (wr m x 0 (m p1 0)) x 1 ((wr m x 0 (m p1 0)) p1 1)) p1 2)) p1 3)) x 4 ((wr (wr (wr (wr m x 0 (m p1 0)) x 1 ((wr m x 0 (m p1 0)) p1 1)) x 2 ((wr (wr m x 0 (m p1 0)) x 1 ((wr m x 0 (m p1 0)) p1 1)) p1 2)) x 3 ((wr (wr (wr m x 0 (m p1 0)) x 1 ((wr m x 0 (m p1 0)) p1 1)) x 2 ((wr (wr m x 0 (m p1 0)) x 1 ((wr m x 0 (m p1 0)) p1 1)) p1 2)) p1 3)) p1 4)) x 5 ((wr (wr (wr (wr (wr m x 0 (m p1 0)) x 1 ((wr m x 0 (m p1 0)) p1 1)) x 2 ((wr (wr m x 0 (m p1 0)) x 1 ((wr m x 0 (m p1 0)) p1 1)) p1 2)) x 3 ((wr (wr (wr m x 0 (m p1 0)) x 1 ((wr m x 0 (m p1 0)) p1 1)) x 2 ((wr (wr m x 0 (m p1 0)) x 1 ((wr m x 0 (m p1 0)) p1 1)) p1 2)) p1 3)) x 4 ((wr (wr (wr (wr m x 0 (m p1 0)) x 1 ((wr m x 0 (m p1 0)) p1 1)) x 2 ((wr (wr m x 0 (m p1 0)) x 1 ((wr m x 0 (m p1 0)) p1 1)) p1 2)) x 3 ((wr (wr (wr m x 0 (m p1 0)) x 1 ((wr m x 0 (m p1 0)) p1 1)) x 2 ((wr (wr m x 0 (m p1 0)) x 1 ((wr m x 0 (m p1 0)) p1 1)) p1 2)) p1 3)) p1 4)) p1 5)) p1 6)) x 7 ((wr (wr (wr (wr (wr (wr (wr m x 0 (m p1 0)) x 1 ((wr m x 0 (m p1 0)) p1 1)) x 2 ((wr (wr m x 0 (m p1 0)) x 1 ((wr m x 0 (m p1 0)) p1 1)) p1 2)) x 3 ((wr (wr (wr m x 0 (m p1 0)) x 1 ((wr m x 0 (m p1 0)) p1 1)) x 2 ((wr (wr m x 0 (m p1 0)) x 1 ((wr m x 0 (m p1 0)) p1 1)) p1 2)) p1 3)) x 4 ((wr (wr (wr (wr m x 0 (m p1 0)) x 1 ((wr m x 0 (m p1 0)) p1 1)) x 2 ((wr (wr m x 0 (m p1 0)) x 1 ((wr m x 0 (m p1 0)) p1 1)) p1 2)) x 3 ((wr (wr (wr m x 0 (m p1 0)) x 1 ((wr m x 0 (m p1 0)) p1 1)) x 2 ((wr (wr m x 0 (m p1 0)) x 1 ((wr m x 0 (m p1 0)) p1 1)) p1 2)) p1 3)) p1 4)) x 5 ((wr (wr (wr (wr (wr m x 0 (m p1 0)) x 1 ((wr m x 0 (m p1 0)) p1 1)) x 2 ((wr (wr m x 0 (m p1 0)) x 1 ((wr m x 0 (m p1 0)) p1 1)) p1 2)) x 3 ((wr (wr (wr m x 0 (m p1 0)) x 1 ((wr m x 0 (m p1 0)) p1 1)) x 2 ((wr (wr m x 0 (m p1 0)) x 1 ((wr m x 0 (m p1 0)) p1 1)) p1 2)) p1 3)) x 4 ((wr (wr (wr (wr m x 0 (m p1 0)) x 1 ((wr m x 0 (m p1 0)) p1 1)) x 2 ((wr (wr m x 0 (m p1 0)) x 1 ((wr m x 0 (m p1 0)) p1 1)) p1 2)) x 3 ((wr (wr (wr m x 0 (m p1 0)) x 1 ((wr m x 0 (m p1 0)) p1 1)) x 2 ((wr (wr m x 0 (m p1 0)) x 1 ((wr m x 0 (m p1 0)) p1 1)) p1 2)) p1 3)) p1 4)) p1 5)) x 6 ((wr (wr (wr (wr (wr (wr m x 0 (m p1 0)) x 1 ((wr m x 0 (m p1 0)) p1 1)) x 2 ((wr (wr m x 0 (m p1 0)) x 1 ((wr m x 0 (m p1 0)) p1 1)) p1 2)) x 3 ((wr (wr (wr m x 0 (m p1 0)) x 1 ((wr m x 0 (m p1 0)) p1 1)) x 2 ((wr (wr m x 0 (m p1 0)) x 1 ((wr m x 0 (m p1 0)) p1 1)) p1 2)) p1 3)) x 4 ((wr (wr (wr (wr m x 0 (m p1 0)) x 1 ((wr m x 0 (m p1 0)) p1 1)) x 2 ((wr (wr m x 0 (m p1 0)) x 1 ((wr m x 0 (m p1 0)) p1 1)) p1 2)) x 3 ((wr (wr (wr m x 0 (m p1 0)) x 1 ((wr m x 0 (m p1 0)) p1 1)) x 2 ((wr (wr m x 0 (m p1 0)) x 1 ((wr m x 0 (m p1 0)) p1 1)) p1 2)) p1 3)) p1 4)) x 5 ((wr (wr (wr (wr (wr m x 0 (m p1 0)) x 1 ((wr m x 0 (m p1 0)) p1 1)) x 2 ((wr (wr m x 0 (m p1 0)) x 1 ((wr m x 0 (m p1 0)) p1 1)) p1 2)) x 3 ((wr (wr (wr m x 0 (m p1 0)) x 1 ((wr m x 0 (m p1 0)) p1 1)) x 2 ((wr (wr m x 0 (m p1 0)) x 1 ((wr m x 0 (m p1 0)) p1 1)) p1 2)) p1 3)) x 4 ((wr (wr (wr (wr m x 0 (m p1 0)) x 1 ((wr m x 0 (m p1 0)) p1 1)) x 2 ((wr (wr m x 0 (m p1 0)) x 1 ((wr m x 0 (m p1 0)) p1 1)) p1 2)) x 3 ((wr (wr (wr m x 0 (m p1 0)) x 1 ((wr m x 0 (m p1 0)) p1 1)) x 2 ((wr (wr m x 0 (m p1 0)) x 1 ((wr m x 0 (m p1 0)) p1 1)) p1 2)) p1 3)) p1 4)) p1 5)) p1 6)) p1 7)) p1 8)) (x + 1) (fun j => if (Int.toNat 0) ≤ j ∧ j < (Int.toNat 0) + (Int.toNat (((7 : Nat) : Int))) then (wr (wr (wr (wr (wr (wr (wr (wr (wr m x 0 (m p1 0)) x 1 ((wr m x 0 (m p1 0)) p1 1)) x 2 ((wr (wr m x 0 (m p1 0)) x 1 ((wr m x 0 (m p1 0)) p1 1)) p1 2)) x 3 ((wr (wr (wr m x 0 (m p1 0)) x 1 ((wr m x 0 (m p1 0)) p1 1)) x 2 ((wr (wr m x 0 (m p1 0)) x 1 ((wr m x 0 (m p1 0)) p1 1)) p1 2)) p1 3)) x 4 ((wr (wr (wr (wr m x 0 (m p1 0)) x 1 ((wr m x 0 (m p1 0)) p1 1)) x 2 ((wr (wr m x 0 (m p1 0)) x 1 ((wr m x 0 (m p1 0)) p1 1)) p1 2)) x 3 ((wr (wr (wr m x 0 (m p1 0)) x 1 ((wr m x 0 (m p1 0)) p1 1)) x 2 ((wr (wr m x 0 (m p1 0)) x 1 ((wr m x 0 (m p1 0)) p1 1)) p1 2)) p1 3)) p1 4)) x 5 ((wr (wr (wr (wr (wr m x 0 (m p1 0)) x 1 ((wr m x 0 (m p1 0)) p1 1)) x 2 ((wr (wr m x 0 (m p1 0)) x 1 ((wr m x 0 (m p1 0)) p1 1)) p1 2)) x 3 ((wr (wr (wr m x 0 (m p1 0)) x 1 ((wr m x 0 (m p1 0)) p1 1)) x 2 ((wr (wr m x 0 (m p1 0)) x 1 ((wr m x 0 (m p1 0)) p1 1)) p1 2)) p1 3)) x 4 ((wr (wr (wr (wr m x 0 (m p1 0)) x 1 ((wr m x 0 (m p1 0)) p1 1)) x 2 ((wr (wr m x 0 (m p1 0)) x 1 ((wr m x 0 (m p1 0)) p1 1)) p1 2)) x 3 ((wr (wr (wr m x 0 (m p1 0)) x 1 ((wr m x 0 (m p1 0)) p1 1)) x 2 ((wr (wr m x 0 (m p1 0)) x 1 ((wr m x 0 (m p1 0)) p1 1)) p1 2)) p1 3)) p1 4)) p1 5)) x 6 ((wr (wr (wr (wr (wr (wr m x 0 (m p1 0)) x 1 ((wr m x 0 (m p1 0)) p1 1)) x 2 ((wr (wr m x 0 (m p1 0)) x 1 ((wr m x 0 (m p1 0)) p1 1)) p1 2)) x 3 ((wr (wr (wr m x 0 (m p1 0)) x 1 ((wr m x 0 (m p1 0)) p1 1)) x 2 ((wr (wr m x 0 (m p1 0)) x 1 ((wr m x 0 (m p1 0)) p1 1)) p1 2)) p1 3)) x 4 ((wr (wr (wr (wr m x 0 (m p1 0)) x 1 ((wr m x 0 (m p1 0)) p1 1)) x 2 ((wr (wr m x 0 (m p1 0)) x 1 ((wr m x 0 (m p1 0)) p1 1)) p1 2)) x 3 ((wr (wr (wr m x 0 (m p1 0)) x 1 ((wr m x 0 (m p1 0)) p1 1)) x 2 ((wr (wr m x 0 (m p1 0)) x 1 ((wr m x 0 (m p1 0)) p1 1)) p1 2)) p1 3)) p1 4)) x 5 ((wr (wr (wr (wr (wr m x 0 (m p1 0)) x 1 ((wr m x 0 (m p1 0)) p1 1)) x 2 ((wr (wr m x 0 (m p1 0)) x 1 ((wr m x 0 (m p1 0)) p1 1)) p1 2)) x 3 ((wr (wr (wr m x 0 (m p1 0)) x 1 ((wr m x 0 (m p1 0)) p1 1)) x 2 ((wr (wr m x 0 (m p1 0)) x 1 ((wr m x 0 (m p1 0)) p1 1)) p1 2)) p1 3)) x 4 ((wr (wr (wr (wr m x 0 (m p1 0)) x 1 ((wr m x 0 (m p1 0)) p1 1)) x 2 ((wr (wr m x 0 (m p1 0)) x 1 ((wr m x 0 (m p1 0)) p1 1)) p1 2)) x 3 ((wr (wr (wr m x 0 (m p1 0)) x 1 ((wr m x 0 (m p1 0)) p1 1)) x 2 ((wr (wr m x 0 (m p1 0)) x 1 ((wr m x 0 (m p1 0)) p1 1)) p1 2)) p1 3)) p1 4)) p1 5)) p1 6)) x 7 ((wr (wr (wr (wr (wr (wr (wr m x 0 (m p1 0)) x 1 ((wr m x 0 (m p1 0)) p1 1)) x 2 ((wr (wr m x 0 (m p1 0)) x 1 ((wr m x 0 (m p1 0)) p1 1)) p1 2)) x 3 ((wr (wr (wr m x 0 (m p1 0)) x 1 ((wr m x 0 (m p1 0)) p1 1)) x 2 ((wr (wr m x 0 (m p1 0)) x 1 ((wr m x 0 (m p1 0)) p1 1)) p1 2)) p1 3)) x 4 ((wr (wr (wr (wr m x 0 (m p1 0)) x 1 ((wr m x 0 (m p1 0)) p1 1)) x 2 ((wr (wr m x 0 (m p1 0)) x 1 ((wr m x 0 (m p1 0)) p1 1)) p1 2)) x 3 ((wr (wr (wr m x 0 (m p1 0)) x 1 ((wr m x 0 (m p1 0)) p1 1)) x 2 ((wr (wr m x 0 (m p1 0)) x 1 ((wr m x 0 (m p1 0)) p1 1)) p1 2)) p1 3)) p1 4)) x 5 ((wr (wr (wr (wr (wr m x 0 (m p1 0)) x 1 ((wr m x 0 (m p1 0)) p1 1)) x 2 ((wr (wr m x 0 (m p1 0)) x 1 ((wr m x 0 (m p1 0)) p1 1)) p1 2)) x 3 ((wr (wr (wr m x 0 (m p1 0)) x 1 ((wr m x 0 (m p1 0)) p1 1)) x 2 ((wr (wr m x 0 (m p1 0)) x 1 ((wr m x 0 (m p1 0)) p1 1)) p1 2)) p1 3)) x 4 ((wr (wr (wr (wr m x 0 (m p1 0)) x 1 ((wr m x 0 (m p1 0)) p1 1)) x 2 ((wr (wr m x 0 (m p1 0)) x 1 ((wr m x 0 (m p1 0)) p1 1)) p1 2)) x 3 ((wr (wr (wr m x 0 (m p1 0)) x 1 ((wr m x 0 (m p1 0)) p1 1)) x 2 ((wr (wr m x 0 (m p1 0)) x 1 ((wr m x 0 (m p1 0)) p1 1)) p1 2)) p1 3)) p1 4)) p1 5)) x 6 ((wr (wr (wr (wr (wr (wr m x 0 (m p1 0)) x 1 ((wr m x 0 (m p1 0)) p1 1)) x 2 ((wr (wr m x 0 (m p1 0)) x 1 ((wr m x 0 (m p1 0)) p1 1)) p1 2)) x 3 ((wr (wr (wr m x 0 (m p1 0)) x 1 ((wr m x 0 (m p1 0)) p1 1)) x 2 ((wr (wr m x 0 (m p1 0)) x 1 ((wr m x 0 (m p1 0)) p1 1)) p1 2)) p1 3)) x 4 ((wr (wr (wr (wr m x 0 (m p1 0)) x 1 ((wr m x 0 (m p1 0)) p1 1)) x 2 ((wr (wr m x 0 (m p1 0)) x 1 ((wr m x 0 (m p1 0)) p1 1)) p1 2)) x 3 ((wr (wr (wr m x 0 (m p1 0)) x 1 ((wr m x 0 (m p1 0)) p1 1)) x 2 ((wr (wr m x 0 (m p1 0)) x 1 ((wr m x 0 (m p1 0)) p1 1)) p1 2)) p1 3)) p1 4)) x 5 ((wr (wr (wr (wr (wr m x 0 (m p1 0)) x 1 ((wr m x 0 (m p1 0)) p1 1)) x 2 ((wr (wr m x 0 (m p1 0)) x 1 ((wr m x 0 (m p1 0)) p1 1)) p1 2)) x 3 ((wr (wr (wr m x 0 (m p1 0)) x 1 ((wr m x 0 (m p1 0)) p1 1)) x 2 ((wr (wr m x 0 (m p1 0)) x 1 ((wr m x 0 (m p1 0)) p1 1)) p1 2)) p1 3)) x 4 ((wr (wr (wr (wr m x 0 (m p1 0)) x 1 ((wr m x 0 (m p1 0)) p1 1)) x 2 ((wr (wr m x 0 (m p1 0)) x 1 ((wr m x 0 (m p1 0)) p1 1)) p1 2)) x 3 ((wr (wr (wr m x 0 (m p1 0)) x 1 ((wr m x 0 (m p1 0)) p1 1)) x 2 ((wr (wr m x 0 (m p1 0)) x 1 ((wr m x 0 (m p1 0)) p1 1)) p1 2)) p1 3)) p1 4)) p1 5)) p1 6)) p1 7)) x 8 ((wr (wr (wr (wr (wr (wr (wr (wr m x 0 (m p1 0)) x 1 ((wr m x 0 (m p1 0)) p1 1)) x 2 ((wr (wr m x 0 (m p1 0)) x 1 ((wr m x 0 (m p1 0)) p1 1)) p1 2)) x 3 ((wr (wr (wr m x 0 (m p1 0)) x 1 ((wr m x 0 (m p1 0)) p1 1)) x 2 ((wr (wr m x 0 (m p1 0)) x 1 ((wr m x 0 (m p1 0)) p1 1)) p1 2)) p1 3)) x 4 ((wr (wr (wr (wr m x 0 (m p1 0)) x 1 ((wr m x 0 (m p1 0)) p1 1)) x 2 ((wr (wr m x 0 (m p1 0)) x 1 ((wr m x 0 (m p1 0)) p1 1)) p1 2)) x 3 ((wr (wr (wr m x 0 (m p1 0)) x 1 ((wr m x 0 (m p1 0)) p1 1)) x 2 ((wr (wr m x 0 (m p1 0)) x 1 ((wr m x 0 (m p1 0)) p1 1)) p1 2)) p1 3)) p1 4)) x 5 ((wr (wr (wr (wr (wr m x 0 (m p1 0)) x 1 ((wr m x 0 (m p1 0)) p1 1)) x 2 ((wr (wr m x 0 (m p1 0)) x 1 ((wr m x 0 (m p1 0)) p1 1)) p1 2)) x 3 ((wr (wr (wr m x 0 (m p1 0)) x 1 ((wr m x 0 (m p1 0)) p1 1)) x 2 ((wr (wr m x 0 (m p1 0)) x 1 ((wr m x 0 (m p1 0)) p1 1)) p1 2)) p1 3)) x 4 ((wr (wr (wr (wr m x 0 (m p1 0)) x 1 ((wr m x 0 (m p1 0)) p1 1)) x 2 ((wr (wr m x 0 (m p1 0)) x 1 ((wr m x 0 (m p1 0)) p1 1)) p1 2)) x 3 ((wr (wr (wr m x 0 (m p1 0)) x 1 ((wr m x 0 (m p1 0)) p1 1)) x 2 ((wr (wr m x 0 (m p1 0)) x 1 ((wr m x 0 (m p1 0)) p1 1)) p1 2)) p1 3)) p1 4)) p1 5)) x 6 ((wr (wr (wr (wr (wr (wr m x 0 (m p1 0)) x 1 ((wr m x 0 (m p1 0)) p1 1)) x 2 ((wr (wr m x 0 (m p1 0)) x 1 ((wr m x 0 (m p1 0)) p1 1)) p1 2)) x 3 ((wr (wr (wr m x 0 (m p1 0)) x 1 ((wr m x 0 (m p1 0)) p1 1)) x 2 ((wr (wr m x 0 (m p1 0)) x 1 ((wr m x 0 (m p1 0)) p1 1)) p1 2)) p1 3)) x 4 ((wr (wr (wr (wr m x 0 (m p1 0)) x 1 ((wr m x 0 (m p1 0)) p1 1)) x 2 ((wr (wr m x 0 (m p1 0)) x 1 ((wr m x 0 (m p1 0)) p1 1)) p1 2)) x 3 ((wr (wr (wr m x 0 (m p1 0)) x 1 ((wr m x 0 (m p1 0)) p1 1)) x 2 ((wr (wr m x 0 (m p1 0)) x 1 ((wr m x 0 (m p1 0)) p1 1)) p1 2)) p1 3)) p1 4)) x 5 ((wr (wr (wr (wr (wr m x 0 (m p1 0)) x 1 ((wr m x 0 (m p1 0)) p1 1)) x 2 ((wr (wr m x 0 (m p1 0)) x 1 ((wr m x 0 (m p1 0)) p1 1)) p1 2)) x 3 ((wr (wr (wr m x 0 (m p1 0)) x 1 ((wr m x 0 (m p1 0)) p1 1)) x 2 ((wr (wr m x 0 (m p1 0)) x 1 ((wr m x 0 (m p1 0)) p1 1)) p1 2)) p1 3)) x 4 ((wr (wr (wr (wr m x 0 (m p1 0)) x 1 ((wr m x 0 (m p1 0)) p1 1)) x 2 ((wr (wr m x 0 (m p1 0)) x 1 ((wr m x 0 (m p1 0)) p1 1)) p1 2)) x 3 ((wr (wr (wr m x 0 (m p1 0)) x 1 ((wr m x 0 (m p1 0)) p1 1)) x 2 ((wr (wr m x 0 (m p1 0)) x 1 ((wr m x 0 (m p1 0)) p1 1)) p1 2)) p1 3)) p1 4)) p1 5)) p1 6)) x 7 ((wr (wr (wr (wr (wr (wr (wr m x 0 (m p1 0)) x 1 ((wr m x 0 (m p1 0)) p1 1)) x 2 ((wr (wr m x 0 (m p1 0)) x 1 ((wr m x 0 (m p1 0)) p1 1)) p1 2)) x 3 ((wr (wr (wr m x 0 (m p1 0)) x 1 ((wr m x 0 (m p1 0)) p1 1)) x 2 ((wr (wr m x 0 (m p1 0)) x 1 ((wr m x 0 (m p1 0)) p1 1)) p1 2)) p1 3)) x 4 ((wr (wr (wr (wr m x 0 (m p1 0)) x 1 ((wr m x 0 (m p1 0)) p1 1)) x 2 ((wr (wr m x 0 (m p1 0)) x 1 ((wr m x 0 (m p1 0)) p1 1)) p1 2)) x 3 ((wr (wr (wr m x 0 (m p1 0)) x 1 ((wr m x 0 (m p1 0)) p1 1)) x 2 ((wr (wr m x 0 (m p1 0)) x 1 ((wr m x 0 (m p1 0)) p1 1)) p1 2)) p1 3)) p1 4)) x 5 ((wr (wr (wr (wr (wr m x 0 (m p1 0)) x 1 ((wr m x 0 (m p1 0)) p1 1)) x 2 ((wr (wr m x 0 (m p1 0)) x 1 ((wr m x 0 (m p1 0)) p1 1)) p1 2)) x 3 ((wr (wr (wr m x 0 (m p1 0)) x 1 ((wr m x 0 (m p1 0)) p1 1)) x 2 ((wr (wr m x 0 (m p1 0)) x 1 ((wr m x 0 (m p1 0)) p1 1)) p1 2)) p1 3)) x 4 ((wr (wr (wr (wr m x 0 (m p1 0)) x 1 ((wr m x 0 (m p1 0)) p1 1)) x 2 ((wr (wr m x 0 (m p1 0)) x 1 ((wr m x 0 (m p1 0)) p1 1)) p1 2)) x 3 ((wr (wr (wr m x 0 (m p1 0)) x 1 ((wr m x 0 (m p1 0)) p1 1)) x 2 ((wr (wr m x 0 (m p1 0)) x 1 ((wr m x 0 (m p1 0)) p1 1)) p1 2)) p1 3)) p1 4)) p1 5)) x 6 ((wr (wr (wr (wr (wr (wr m x 0 (m p1 0)) x 1 ((wr m x 0 (m p1 0)) p1 1)) x 2 ((wr (wr m x 0 (m p1 0)) x 1 ((wr m x 0 (m p1 0)) p1 1)) p1 2)) x 3 ((wr (wr (wr m x 0 (m p1 0)) x 1 ((wr m x 0 (m p1 0)) p1 1)) x 2 ((wr (wr m x 0 (m p1 0)) x 1 ((wr m x 0 (m p1 0)) p1 1)) p1 2)) p1 3)) x 4 ((wr (wr (wr (wr m x 0 (m p1 0)) x 1 ((wr m x 0 (m p1 0)) p1 1)) x 2 ((wr (wr m x 0 (m p1 0)) x 1 ((wr m x 0 (m p1 0)) p1 1)) p1 2)) x 3 ((wr (wr (wr m x 0 (m p1 0)) x 1 ((wr m x 0 (m p1 0)) p1 1)) x 2 ((wr (wr m x 0 (m p1 0)) x 1 ((wr m x 0 (m p1 0)) p1 1)) p1 2)) p1 3)) p1 4)) x 5 ((wr (wr (wr (wr (wr m x 0 (m p1 0)) x 1 ((wr m x 0 (m p1 0)) p1 1)) x 2 ((wr (wr m x 0 (m p1 0)) x 1 ((wr m x 0 (m p1 0)) p1 1)) p1 2)) x 3 ((wr (wr (wr m x 0 (m p1 0)) x 1 ((wr m x 0 (m p1 0)) p1 1)) x 2 ((wr (wr m x 0 (m p1 0)) x 1 ((wr m x 0 (m p1 0)) p1 1)) p1 2)) p1 3)) x 4 ((wr (wr (wr (wr m x 0 (m p1 0)) x 1 ((wr m x 0 (m p1 0)) p1 1)) x 2 ((wr (wr m x 0 (m p1 0)) x 1 ((wr m x 0 (m p1 0)) p1 1)) p1 2)) x 3 ((wr (wr (wr m x 0 (m p1 0)) x 1 ((wr m x 0 (m p1 0)) p1 1)) x 2 ((wr (wr m x 0 (m p1 0)) x 1 ((wr m x 0 (m p1 0)) p1 1)) p1 2)) p1 3)) p1 4)) p1 5)) p1 6)) p1 7)) p1 8)) (p1 + 1) ((Int.toNat 0) + (j - (Int.toNat 0))) else (wr (wr (wr (wr (wr (wr (wr (wr (wr m x 0 (m p1 0)) x 1 ((wr m x 0 (m p1 0)) p1 1)) x 2 ((wr (wr m x 0 (m p1 0)) x 1 ((wr m x 0 (m p1 0)) p1 1)) p1 2)) x 3 ((wr (wr (wr m x 0 (m p1 0)) x 1 ((wr m x 0 (m p1 0)) p1 1)) x 2 ((wr (wr m x 0 (m p1 0)) x 1 ((wr m x 0 (m p1 0)) p1 1)) p1 2)) p1 3)) x 4 ((wr (wr (wr (wr m x 0 (m p1 0)) x 1 ((wr m x 0 (m p1 0)) p1 1)) x 2 ((wr (wr m x 0 (m p1 0)) x 1 ((wr m x 0 (m p1 0)) p1 1)) p1 2)) x 3 ((wr (wr (wr m x 0 (m p1 0)) x 1 ((wr m x 0 (m p1 0)) p1 1)) x 2 ((wr (wr m x 0 (m p1 0)) x 1 ((wr m x 0 (m p1 0)) p1 1)) p1 2)) p1 3)) p1 4)) x 5 ((wr (wr (wr (wr (wr m x 0 (m p1 0)) x 1 ((wr m x 0 (m p1 0)) p1 1)) x 2 ((wr (wr m x 0 (m p1 0)) x 1 ((wr m x 0 (m p1 0)) p1 1)) p1 2)) x 3 ((wr (wr (wr m x 0 (m p1 0)) x 1 ((wr m x 0 (m p1 0)) p1 1)) x 2 ((wr (wr m x 0 (m p1 0)) x 1 ((wr m x 0 (m p1 0)) p1 1)) p1 2)) p1 3)) x 4 ((wr (wr (wr (wr m x 0 (m p1 0)) x 1 ((wr m x 0 (m p1 0)) p1 1)) x 2 ((wr (wr m x 0 (m p1 0)) x 1 ((wr m x 0 (m p1 0)) p1 1)) p1 2)) x 3 ((wr (wr (wr m x 0 (m p1 0)) x 1 ((wr m x 0 (m p1 0)) p1 1)) x 2 ((wr (wr m x 0 (m p1 0)) x 1 ((wr m x 0 (m p1 0)) p1 1)) p1 2)) p1 3)) p1 4)) p1 5)) x 6 ((wr (wr (wr (wr (wr (wr m x 0 (m p1 0)) x 1 ((wr m x 0 (m p1 0)) p1 1)) x 2 ((wr (wr m x 0 (m p1 0)) x 1 ((wr m x 0 (m p1 0)) p1 1)) p1 2)) x 3 ((wr (wr (wr m x 0 (m p1 0)) x 1 ((wr m x 0 (m p1 0)) p1 1)) x 2 ((wr (wr m x 0 (m p1 0)) x 1 ((wr m x 0 (m p1 0)) p1 1)) p1 2)) p1 3)) x 4 ((wr (wr (wr (wr m x 0 (m p1 0)) x 1 ((wr m x 0 (m p1 0)) p1 1)) x 2 ((wr (wr m x 0 (m p1 0)) x 1 ((wr m x 0 (m p1 0)) p1 1)) p1 2)) x 3 ((wr (wr (wr m x 0 (m p1 0)) x 1 ((wr m x 0 (m p1 0)) p1 1)) x 2 ((wr (wr m x 0 (m p1 0)) x 1 ((wr m x 0 (m p1 0)) p1 1)) p1 2)) p1 3)) p1 4)) x 5 ((wr (wr (wr (wr (wr m x 0 (m p1 0)) x 1 ((wr m x 0 (m p1 0)) p1 1)) x 2 ((wr (wr m x 0 (m p1 0)) x 1 ((wr m x 0 (m p1 0)) p1 1)) p1 2)) x 3 ((wr (wr (wr m x 0 (m p1 0)) x 1 ((wr m x 0 (m p1 0)) p1 1)) x 2 ((wr (wr m x 0 (m p1 0)) x 1 ((wr m x 0 (m p1 0)) p1 1)) p1 2)) p1 3)) x 4 ((wr (wr (wr (wr m x 0 (m p1 0)) x 1 ((wr m x 0 (m p1 0)) p1 1)) x 2 ((wr (wr m x 0 (m p1 0)) x 1 ((wr m x 0 (m p1 0)) p1 1)) p1 2)) x 3 ((wr (wr (wr m x 0 (m p1 0)) x 1 ((wr m x 0 (m p1 0)) p1 1)) x 2 ((wr (wr m x 0 (m p1 0)) x 1 ((wr m x 0 (m p1 0)) p1 1)) p1 2)) p1 3)) p1 4)) p1 5)) p1 6)) x 7 ((wr (wr (wr (wr (wr (wr (wr m x 0 (m p1 0)) x 1 ((wr m x 0 (m p1 0)) p1 1)) x 2 ((wr (wr m x 0 (m p1 0)) x 1 ((wr m x 0 (m p1 0)) p1 1)) p1 2)) x 3 ((wr (wr (wr m x 0 (m p1 0)) x 1 ((wr m x 0 (m p1 0)) p1 1)) x 2 ((wr (wr m x 0 (m p1 0)) x 1 ((wr m x 0 (m p1 0)) p1 1)) p1 2)) p1 3)) x 4 ((wr (wr (wr (wr m x 0 (m p1 0)) x 1 ((wr m x 0 (m p1 0)) p1 1)) x 2 ((wr (wr m x 0 (m p1 0)) x 1 ((wr m x 0 (m p1 0)) p1 1)) p1 2)) x 3 ((wr (wr (wr m x 0 (m p1 0)) x 1 ((wr m x 0 (m p1 0)) p1 1)) x 2 ((wr (wr m x 0 (m p1 0)) x 1 ((wr m x 0 (m p1 0)) p1 1)) p1 2)) p1 3)) p1 4)) x 5 ((wr (wr (wr (wr (wr m x 0 (m p1 0)) x 1 ((wr m x 0 (m p1 0)) p1 1)) x 2 ((wr (wr m x 0 (m p1 0)) x 1 ((wr m x 0 (m p1 0)) p1 1)) p1 2)) x 3 ((wr (wr (wr m x 0 (m p1 0)) x 1 ((wr m x 0 (m p1 0)) p1 1)) x 2 ((wr (wr m x 0 (m p1 0)) x 1 ((wr m x 0 (m p1 0)) p1 1)) p1 2)) p1 3)) x 4 ((wr (wr (wr (wr m x 0 (m p1 0)) x 1 ((wr m x 0 (m p1 0)) p1 1)) x 2 ((wr (wr m x 0 (m p1 0)) x 1 ((wr m x 0 (m p1 0)) p1 1)) p1 2)) x 3 ((wr (wr (wr m x 0 (m p1 0)) x 1 ((wr m x 0 (m p1 0)) p1 1)) x 2 ((wr (wr m x 0 (m p1 0)) x 1 ((wr m x 0 (m p1 0)) p1 1)) p1 2)) p1 3)) p1 4)) p1 5)) x 6 ((wr (wr (wr (wr (wr (wr m x 0 (m p1 0)) x 1 ((wr m x 0 (m p1 0)) p1 1)) x 2 ((wr (wr m x 0 (m p1 0)) x 1 ((wr m x 0 (m p1 0)) p1 1)) p1 2)) x 3 ((wr (wr (wr m x 0 (m p1 0)) x 1 ((wr m x 0 (m p1 0)) p1 1)) x 2 ((wr (wr m x 0 (m p1 0)) x 1 ((wr m x 0 (m p1 0)) p1 1)) p1 2)) p1 3)) x 4 ((wr (wr (wr (wr m x 0 (m p1 0)) x 1 ((wr m x 0 (m p1 0)) p1 1)) x 2 ((wr (wr m x 0 (m p1 0)) x 1 ((wr m x 0 (m p1 0)) p1 1)) p1 2)) x 3 ((wr (wr (wr m x 0 (m p1 0)) x 1 ((wr m x 0 (m p1 0)) p1 1)) x 2 ((wr (wr m x 0 (m p1 0)) x 1 ((wr m x 0 (m p1 0)) p1 1)) p1 2)) p1 3)) p1 4)) x 5 ((wr (wr (wr (wr (wr m x 0 (m p1 0)) x 1 ((wr m x 0 (m p1 0)) p1 1)) x 2 ((wr (wr m x 0 (m p1 0)) x 1 ((wr m x 0 (m p1 0)) p1 1)) p1 2)) x 3 ((wr (wr (wr m x 0 (m p1 0)) x 1 ((wr m x 0 (m p1 0)) p1 1)) x 2 ((wr (wr m x 0 (m p1 0)) x 1 ((wr m x 0 (m p1 0)) p1 1)) p1 2)) p1 3)) x 4 ((wr (wr (wr (wr m x 0 (m p1 0)) x 1 ((wr m x 0 (m p1 0)) p1 1)) x 2 ((wr (wr m x 0 (m p1 0)) x 1 ((wr m x 0 (m p1 0)) p1 1)) p1 2)) x 3 ((wr (wr (wr m x 0 (m p1 0)) x 1 ((wr m x 0 (m p1 0)) p1 1)) x 2 ((wr (wr m x 0 (m p1 0)) x 1 ((wr m x 0 (m p1 0)) p1 1)) p1 2)) p1 3)) p1 4)) p1 5)) p1 6)) p1 7)) x 8 ((wr (wr (wr (wr (wr (wr (wr (wr m x 0 (m p1 0)) x 1 ((wr m x 0 (m p1 0)) p1 1)) x 2 ((wr (wr m x 0 (m p1 0)) x 1 ((wr m x 0 (m p1 0)) p1 1)) p1 2)) x 3 ((wr (wr (wr m x 0 (m p1 0)) x 1 ((wr m x 0 (m p1 0)) p1 1)) x 2 ((wr (wr m x 0 (m p1 0)) x 1 ((wr m x 0 (m p1 0)) p1 1)) p1 2)) p1 3)) x 4 ((wr (wr (wr (wr m x 0 (m p1 0)) x 1 ((wr m x 0 (m p1 0)) p1 1)) x 2 ((wr (wr m x 0 (m p1 0)) x 1 ((wr m x 0 (m p1 0)) p1 1)) p1 2)) x 3 ((wr (wr (wr m x 0 (m p1 0)) x 1 ((wr m x 0 (m p1 0)) p1 1)) x 2 ((wr (wr m x 0 (m p1 0)) x 1 ((wr m x 0 (m p1 0)) p1 1)) p1 2)) p1 3)) p1 4)) x 5 ((wr (wr (wr (wr (wr m x 0 (m p1 0)) x 1 ((wr m x 0 (m p1 0)) p1 1)) x 2 ((wr (wr m x 0 (m p1 0)) x 1 ((wr m x 0 (m p1 0)) p1 1)) p1 2)) x 3 ((wr (wr (wr m x 0 (m p1 0)) x 1 ((wr m x 0 (m p1 0)) p1 1)) x 2 ((wr (wr m x 0 (m p1 0)) x 1 ((wr m x 0 (m p1 0)) p1 1)) p1 2)) p1 3)) x 4 ((wr (wr (wr (wr m x 0 (m p1 0)) x 1 ((wr m x 0 (m p1 0)) p1 1)) x 2 ((wr (wr m x 0 (m p1 0)) x 1 ((wr m x 0 (m p1 0)) p1 1)) p1 2)) x 3 ((wr (wr (wr m x 0 (m p1 0)) x 1 ((wr m x 0 (m p1 0)) p1 1)) x 2 ((wr (wr m x 0 (m p1 0)) x 1 ((wr m x 0 (m p1 0)) p1 1)) p1 2)) p1 3)) p1 4)) p1 5)) x 6 ((wr (wr (wr (wr (wr (wr m x 0 (m p1 0)) x 1 ((wr m x 0 (m p1 0)) p1 1)) x 2 ((wr (wr m x 0 (m p1 0)) x 1 ((wr m x 0 (m p1 0)) p1 1)) p1 2)) x 3 ((wr (wr (wr m x 0 (m p1 0)) x 1 ((wr m x 0 (m p1 0)) p1 1)) x 2 ((wr (wr m x 0 (m p1 0)) x 1 ((wr m x 0 (m p1 0)) p1 1)) p1 2)) p1 3)) x 4 ((wr (wr (wr (wr m x 0 (m p1 0)) x 1 ((wr m x 0 (m p1 0)) p1 1)) x 2 ((wr (wr m x 0 (m p1 0)) x 1 ((wr m x 0 (m p1 0)) p1 1)) p1 2)) x 3 ((wr (wr (wr m x 0 (m p1 0)) x 1 ((wr m x 0 (m p1 0)) p1 1)) x 2 ((wr (wr m x 0 (m p1 0)) x 1 ((wr m x 0 (m p1 0)) p1 1)) p1 2)) p1 3)) p1 4)) x 5 ((wr (wr (wr (wr (wr m x 0 (m p1 0)) x 1 ((wr m x 0 (m p1 0)) p1 1)) x 2 ((wr (wr m x 0 (m p1 0)) x 1 ((wr m x 0 (m p1 0)) p1 1)) p1 2)) x 3 ((wr (wr (wr m x 0 (m p1 0)) x 1 ((wr m x 0 (m p1 0)) p1 1)) x 2 ((wr (wr m x 0 (m p1 0)) x 1 ((wr m x 0 (m p1 0)) p1 1)) p1 2)) p1 3)) x 4 ((wr (wr (wr (wr m x 0 (m p1 0)) x 1 ((wr m x 0 (m p1 0)) p1 1)) x 2 ((wr (wr m x 0 (m p1 0)) x 1 ((wr m x 0 (m p1 0)) p1 1)) p1 2)) x 3 ((wr (wr (wr m x 0 (m p1 0)) x 1 ((wr m x 0 (m p1 0)) p1 1)) x 2 ((wr (wr m x 0 (m p1 0)) x 1 ((wr m x 0 (m p1 0)) p1 1)) p1 2)) p1 3)) p1 4)) p1 5)) p1 6)) x 7 ((wr (wr (wr (wr (wr (wr (wr m x 0 (m p1 0)) x 1 ((wr m x 0 (m p1 0)) p1 1)) x 2 ((wr (wr m x 0 (m p1 0)) x 1 ((wr m x 0 (m p1 0)) p1 1)) p1 2)) x 3 ((wr (wr (wr m x 0 (m p1 0)) x 1 ((wr m x 0 (m p1 0)) p1 1)) x 2 ((wr (wr m x 0 (m p1 0)) x 1 ((wr m x 0 (m p1 0)) p1 1)) p1 2)) p1 3)) x 4 ((wr (wr (wr (wr m x 0 (m p1 0)) x 1 ((wr m x 0 (m p1 0)) p1 1)) x 2 ((wr (wr m x 0 (m p1 0)) x 1 ((wr m x 0 (m p1 0)) p1 1)) p1 2)) x 3 ((wr (wr (wr m x 0 (m p1 0)) x 1 ((wr m x 0 (m p1 0)) p1 1)) x 2 ((wr (wr m x 0 (m p1 0)) x 1 ((wr m x 0 (m p1 0)) p1 1)) p1 2)) p1 3)) p1 4)) x 5 ((wr (wr (wr (wr (wr m x 0 (m p1 0)) x 1 ((wr m x 0 (m p1 0)) p1 1)) x 2 ((wr (wr m x 0 (m p1 0)) x 1 ((wr m x 0 (m p1 0)) p1 1)) p1 2)) x 3 ((wr (wr (wr m x 0 (m p1 0)) x 1 ((wr m x 0 (m p1 0)) p1 1)) x 2 ((wr (wr m x 0 (m p1 0)) x 1 ((wr m x 0 (m p1 0)) p1 1)) p1 2)) p1 3)) x 4 ((wr (wr (wr (wr m x 0 (m p1 0)) x 1 ((wr m x 0 (m p1 0)) p1 1)) x 2 ((wr (wr m x 0 (m p1 0)) x 1 ((wr m x 0 (m p1 0)) p1 1)) p1 2)) x 3 ((wr (wr (wr m x 0 (m p1 0)) x 1 ((wr m x 0 (m p1 0)) p1 1)) x 2 ((wr (wr m x 0 (m p1 0)) x 1 ((wr m x 0 (m p1 0)) p1 1)) p1 2)) p1 3)) p1 4)) p1 5)) x 6 ((wr (wr (wr (wr (wr (wr m x 0 (m p1 0)) x 1 ((wr m x 0 (m p1 0)) p1 1)) x 2 ((wr (wr m x 0 (m p1 0)) x 1 ((wr m x 0 (m p1 0)) p1 1)) p1 2)) x 3 ((wr (wr (wr m x 0 (m p1 0)) x 1 ((wr m x 0 (m p1 0)) p1 1)) x 2 ((wr (wr m x 0 (m p1 0)) x 1 ((wr m x 0 (m p1 0)) p1 1)) p1 2)) p1 3)) x 4 ((wr (wr (wr (wr m x 0 (m p1 0)) x 1 ((wr m x 0 (m p1 0)) p1 1)) x 2 ((wr (wr m x 0 (m p1 0)) x 1 ((wr m x 0 (m p1 0)) p1 1)) p1 2)) x 3 ((wr (wr (wr m x 0 (m p1 0)) x 1 ((wr m x 0 (m p1 0)) p1 1)) x 2 ((wr (wr m x 0 (m p1 0)) x 1 ((wr m x 0 (m p1 0)) p1 1)) p1 2)) p1 3)) p1 4)) x 5 ((wr (wr (wr (wr (wr m x 0 (m p1 0)) x 1 ((wr m x 0 (m p1 0)) p1 1)) x 2 ((wr (wr m x 0 (m p1 0)) x 1 ((wr m x 0 (m p1 0)) p1 1)) p1 2)) x 3 ((wr (wr (wr m x 0 (m p1 0)) x 1 ((wr m x 0 (m p1 0)) p1 1)) x 2 ((wr (wr m x 0 (m p1 0)) x 1 ((wr m x 0 (m p1 0)) p1 1)) p1 2)) p1 3)) x 4 ((wr (wr (wr (wr m x 0 (m p1 0)) x 1 ((wr m x 0 (m p1 0)) p1 1)) x 2 ((wr (wr m x 0 (m p1 0)) x 1 ((wr m x 0 (m p1 0)) p1 1)) p1 2)) x 3 ((wr (wr (wr m x 0 (m p1 0)) x 1 ((wr m x 0 (m p1 0)) p1 1)) x 2 ((wr (wr m x 0 (m p1 0)) x 1 ((wr m x 0 (m p1 0)) p1 1)) p1 2)) p1 3)) p1 4)) p1 5)) p1 6)) p1 7)) p1 8)) (x + 1) j)) (x + 2) j)) q w, (0, 0))) := by
  refine Eq.trans (k_ald0 rfl) ?_
  refine Eq.trans (k_ald1 rfl) ?_
  refine Eq.trans (k_gtI rfl (fan_0 hp1) rfl (by decide)) ?_
  refine Eq.trans (k_ptI rfl (fan_0 hx) rfl rfl) ?_
  refine Eq.trans (k_ald0 rfl) ?_
  refine Eq.trans (k_ald1 rfl) ?_
  refine Eq.trans (k_gtI rfl (fan_0 hp1) rfl (by decide)) ?_
  refine Eq.trans (k_ptI rfl (fan_0 hx) rfl rfl) ?_
  refine Eq.trans (k_ald0 rfl) ?_
  refine Eq.trans (k_ald1 rfl) ?_
  refine Eq.trans (k_gtI rfl (fan_0 hp1) rfl (by decide)) ?_
  refine Eq.trans (k_ptI rfl (fan_0 hx) rfl rfl) ?_
  refine Eq.trans (k_ald0 rfl) ?_
  refine Eq.trans (k_ald1 rfl) ?_
  refine Eq.trans (k_gtI rfl (fan_0 hp1) rfl (by decide)) ?_
  refine Eq.trans (k_ptI rfl (fan_0 hx) rfl rfl) ?_
  refine Eq.trans (k_ald0 rfl) ?_
  refine Eq.trans (k_ald1 rfl) ?_
  refine Eq.trans (k_gtI rfl (fan_0 hp1) rfl (by decide)) ?_
  refine Eq.trans (k_ptI rfl (fan_0 hx) rfl rfl) ?_
  refine Eq.trans (k_ald0 rfl) ?_
  refine Eq.trans (k_ald1 rfl) ?_
  refine Eq.trans (k_gtI rfl (fan_0 hp1) rfl (by decide)) ?_
  refine Eq.trans (k_ptI rfl (fan_0 hx) rfl rfl) ?_
  refine Eq.trans (k_ald0 rfl) ?_
  refine Eq.trans (k_ald1 rfl) ?_
  refine Eq.trans (k_gtI rfl (fan_0 hp1) rfl (by decide)) ?_
  refine Eq.trans (k_ptI rfl (fan_0 hx) rfl rfl) ?_
  refine Eq.trans (k_ald0 rfl) ?_
  refine Eq.trans (k_ald1 rfl) ?_
  refine Eq.trans (k_gtI rfl (fan_0 hp1) rfl (by decide)) ?_
  refine Eq.trans (k_ptI rfl (fan_0 hx) rfl rfl) ?_
  refine Eq.trans (k_ald0 rfl) ?_
  refine Eq.trans (k_ald1 rfl) ?_
  refine Eq.trans (k_gtI rfl (fan_0 hp1) rfl (by decide)) ?_
  refine Eq.trans (k_ptI rfl (fan_0 hx) rfl rfl) ?_
  refine Eq.trans (k_ald1 rfl) ?_
  refine Eq.trans (k_gtR rfl (fan_0 hp1) rfl (by decide)) ?_
  refine Eq.trans (k_con rfl) ?_
  refine Eq.trans (k_ald0 rfl) ?_
  refine Eq.trans (k_gtR rfl (fan_0 hx) rfl (by decide)) ?_
  refine Eq.trans (k_con rfl) ?_
  refine Eq.trans (k_ald0 rfl) ?_
  refine Eq.trans (k_gtR rfl (fan_0 hx) rfl (by decide)) ?_
  refine Eq.trans (k_alen rfl (fan_1 hx) (by intro hz; have h9 := (fan_1 hx); rw [hz] at h9; cases h9)) ?_
  refine Eq.trans (k_cpy rfl (fan_1 hp1) (fan_1 hx) (by decide) (by decide) (by decide) (by decide) (by decide) (bl rfl) (bl rfl) g0 (bl rfl)) ?_
  refine Eq.trans (k_ald1 rfl) ?_
  refine Eq.trans (k_gtR rfl (fan_0 hp1) rfl (by decide)) ?_
  refine Eq.trans (k_con rfl) ?_
  refine Eq.trans (k_ald0 rfl) ?_
  refine Eq.trans (k_gtR rfl (fan_0 hx) rfl (by decide)) ?_
  refine Eq.trans (k_con rfl) ?_
  refine Eq.trans (k_ald0 rfl) ?_
  refine Eq.trans (k_gtR rfl (fan_0 hx) rfl (by decide)) ?_
  refine Eq.trans (k_alen rfl (fan_2 hx) (by intro hz; have h9 := (fan_2 hx); rw [hz] at h9; cases h9)) ?_
  refine Eq.trans (k_cpy rfl (fan_2 hp1) (fan_2 hx) (by decide) (by decide) (by decide) (by decide) (by decide) (bl rfl) (bl rfl) g0 (bl rfl)) ?_
  exact k_rtV rfl rfl
theorem e_22 {d : Nat} (hd : 1 ≤ d) {a0 a1 : Value} (M : rMem) (h0 : a0.category = 1) (h1 : a1.category = 1) : ev d 22 [a0, a1] M = gv (d - 1) rR22 0 [some a0, some a1] [] M := ev_at hd q_22 rfl (by simp [*]) rfl
/-! FanHouse$Fan.isShut()Z -/
theorem b_23_0 {d : Nat} {m : Nat → Nat → Int} {q : Nat → Nat → Option Nat} {w : Option (Nat → Int64)} {x : Nat} (hx : iFan x)  : gv d rR23 0 [some (.ref x)] [] (mk m q w) =
    if iI (m x 7) = iI (-1) then (gv d rR23 13 [some (.ref x)] [.int (iI 1)] (mk m q w)) else (gv d rR23 13 [some (.ref x)] [.int (iI 0)] (mk m q w)) := by
  refine Eq.trans (k_ald0 rfl) ?_
  refine Eq.trans (k_gtI rfl (fan_0 hx) rfl (by decide)) ?_
  refine Eq.trans (k_con rfl) ?_
  refine Eq.trans (k_i2ne rfl rfl) ?_
  refine ifc ?_ ?_
  · refine Eq.trans (k_con rfl) ?_
    refine Eq.trans (k_go rfl rfl) ?_
    exact rfl
  · refine Eq.trans (k_con rfl) ?_
    exact rfl
theorem b_23_13 {d : Nat} {m : Nat → Nat → Int} {q : Nat → Nat → Option Nat} {w : Option (Nat → Int64)} {u0 : Option Value} {s0 : Int}  (g0 : iI s0 = iI 0 ∨ iI s0 = iI 1) : gv d rR23 13 [u0] [.int (iI s0)] (mk m q w) =
    some (.inl (some (.int (iI s0))), (mk m q w, (0, 0))) := by
  exact k_rtZ rfl rfl g0
theorem e_23 {d : Nat} (hd : 1 ≤ d) {a0 : Value} (M : rMem) (h0 : a0.category = 1) : ev d 23 [a0] M = gv (d - 1) rR23 0 [some a0] [] M := ev_at hd q_23 rfl (by simp [*]) rfl
/-! FanHouse$Fan.shut()Z -/
theorem b_24_0 {d : Nat} {m : Nat → Nat → Int} {q : Nat → Nat → Option Nat} {w : Option (Nat → Int64)} {x : Nat} (hx : iFan x)  : gv d rR24 0 [some (.ref x)] [] (mk m q w) =
    rBd (ev d 23 [.ref x] (mk m q w)) (fun v M' => gv d rR24 4 [some (.ref x)] (v.toList ++ []) M') := by
  refine Eq.trans (k_ald0 rfl) ?_
  exact k_cV0 rfl (fan_0 hx) q_23 rfl rfl rfl (bl rfl)
theorem b_24_4 {d : Nat} {m : Nat → Nat → Int} {q : Nat → Nat → Option Nat} {w : Option (Nat → Int64)} {s0 : Int} {x : Nat} (hx : iFan x)  : gv d rR24 4 [some (.ref x)] [.int (iI s0)] (mk m q w) =
    if iI s0 = iI 0 then (some (.inl (some (.int (iI 1))), (mk (wr (wr m x 7 (-1)) x 8 0) q w, (0, 0)))) else (some (.inl (some (.int (iI 0))), (mk m q w, (0, 0)))) := by
  refine Eq.trans (k_i1eq rfl rfl) ?_
  refine ifc ?_ ?_
  · refine Eq.trans (k_ald0 rfl) ?_
    refine Eq.trans (k_con rfl) ?_
    refine Eq.trans (k_ptI rfl (fan_0 hx) rfl rfl) ?_
    refine Eq.trans (k_ald0 rfl) ?_
    refine Eq.trans (k_con rfl) ?_
    refine Eq.trans (k_ptI rfl (fan_0 hx) rfl rfl) ?_
    refine Eq.trans (k_con rfl) ?_
    exact k_rtZ rfl rfl (Or.inr rfl)
  · refine Eq.trans (k_con rfl) ?_
    exact k_rtZ rfl rfl (Or.inl rfl)
theorem e_24 {d : Nat} (hd : 1 ≤ d) {a0 : Value} (M : rMem) (h0 : a0.category = 1) : ev d 24 [a0] M = gv (d - 1) rR24 0 [some a0] [] M := ev_at hd q_24 rfl (by simp [*]) rfl
/-! FanHouse$Fan.clear()V -/
theorem b_25_0 {d : Nat} {m : Nat → Nat → Int} {q : Nat → Nat → Option Nat} {w : Option (Nat → Int64)} {u1 : Option Value} {x : Nat} (hx : iFan x)  : gv d rR25 0 [some (.ref x), u1] [] (mk m q w) =
    rBd (ev d 24 [.ref x] (mk (wr (wr (wr (wr (wr (wr (wr m x 0 0) x 1 99) x 2 0) x 3 20) x 4 0) x 5 0) x 6 0) q w)) (fun v M' => gv d rR25 41 [some (.ref x), u1] (v.toList ++ []) M') := by
  refine Eq.trans (k_ald0 rfl) ?_
  refine Eq.trans (k_con rfl) ?_
  refine Eq.trans (k_ptI rfl (fan_0 hx) rfl rfl) ?_
  refine Eq.trans (k_ald0 rfl) ?_
  refine Eq.trans (k_bip rfl (by decide)) ?_
  refine Eq.trans (k_ptI rfl (fan_0 hx) rfl rfl) ?_
  refine Eq.trans (k_ald0 rfl) ?_
  refine Eq.trans (k_con rfl) ?_
  refine Eq.trans (k_ptI rfl (fan_0 hx) rfl rfl) ?_
  refine Eq.trans (k_ald0 rfl) ?_
  refine Eq.trans (k_bip rfl (by decide)) ?_
  refine Eq.trans (k_ptI rfl (fan_0 hx) rfl rfl) ?_
  refine Eq.trans (k_ald0 rfl) ?_
  refine Eq.trans (k_con rfl) ?_
  refine Eq.trans (k_ptI rfl (fan_0 hx) rfl rfl) ?_
  refine Eq.trans (k_ald0 rfl) ?_
  refine Eq.trans (k_con rfl) ?_
  refine Eq.trans (k_ptI rfl (fan_0 hx) rfl rfl) ?_
  refine Eq.trans (k_ald0 rfl) ?_
  refine Eq.trans (k_con rfl) ?_
  refine Eq.trans (k_ptI rfl (fan_0 hx) rfl rfl) ?_
  refine Eq.trans (k_ald0 rfl) ?_
  exact k_cV0 rfl (fan_0 hx) q_24 rfl rfl rfl (bl rfl)
theorem b_25_41 {d : Nat} {m : Nat → Nat → Int} {q : Nat → Nat → Option Nat} {w : Option (Nat → Int64)} {u1 : Option Value} {s0 : Int} {x : Nat} (hx : iFan x)  : gv d rR25 41 [some (.ref x), u1] [.int (iI s0)] (mk m q w) =
    gv d rR25 44 [some (.ref x), some (.int (iI 0))] [] (mk m q w) := by
  refine Eq.trans (k_pop rfl rfl) ?_
  refine Eq.trans (k_con rfl) ?_
  refine Eq.trans (k_ist1 rfl) ?_
  exact rfl
theorem b_25_44 {d : Nat} {m : Nat → Nat → Int} {q : Nat → Nat → Option Nat} {w : Option (Nat → Int64)} {v1 : Int} {x : Nat} (hx : iFan x)  : gv d rR25 44 [some (.ref x), some (.int (iI v1))] [] (mk m q w) =
    if iI v1 < iI (((7 : Nat) : Int)) then (gv d rR25 53 [some (.ref x), some (.int (iI v1))] [] (mk m q w)) else (some (.inl none, (mk m q w, (0, 0)))) := by
  refine Eq.trans (k_ild1 rfl) ?_
  refine Eq.trans (k_ald0 rfl) ?_
  refine Eq.trans (k_gtR rfl (fan_0 hx) rfl (by decide)) ?_
  refine Eq.trans (k_alen rfl (fan_1 hx) (by intro hz; have h9 := (fan_1 hx); rw [hz] at h9; cases h9)) ?_
  refine Eq.trans (k_i2ge rfl rfl) ?_
  refine ifc ?_ ?_
  · exact rfl
  · exact k_rtV rfl rfl
theorem b_25_53 {d : Nat} {m : Nat → Nat → Int} {q : Nat → Nat → Option Nat} {w : Option (Nat → Int64)} {v1 : Int} {x : Nat} (hx : iFan x) (g0 : 0 ≤ v1) (g1 : v1 < 7) : gv d rR25 53 [some (.ref x), some (.int (iI v1))] [] (mk m q w) =
    gv d rR25 44 [some (.ref x), some (.int (iI (v1 + 1)))] [] (mk (wr m (x + 1) (Int.toNat v1) v1) q w) := by
  refine Eq.trans (k_ald0 rfl) ?_
  refine Eq.trans (k_gtR rfl (fan_0 hx) rfl (by decide)) ?_
  refine Eq.trans (k_ild1 rfl) ?_
  refine Eq.trans (k_ild1 rfl) ?_
  refine Eq.trans (k_iast rfl (fan_1 hx) (bl rfl) g0 g1) ?_
  refine Eq.trans (k_inc1 rfl) ?_
  refine Eq.trans (k_go rfl rfl) ?_
  exact rfl
theorem e_25 {d : Nat} (hd : 1 ≤ d) {a0 : Value} (M : rMem) (h0 : a0.category = 1) : ev d 25 [a0] M = gv (d - 1) rR25 0 [some a0, none] [] M := ev_at hd q_25 rfl (by simp [*]) rfl
/-! FanHouse$Tape.startsWord()Z -/
theorem b_26_0 {d : Nat} {m : Nat → Nat → Int} {q : Nat → Nat → Option Nat} {w : Option (Nat → Int64)}   : gv d rR26 0 [some (.ref 101)] [] (mk m q w) =
    rBd (ev d 1 [.ref 101] (mk m q w)) (fun v M' => gv d rR26 4 [some (.ref 101)] (v.toList ++ []) M') := by
  refine Eq.trans (k_ald0 rfl) ?_
  exact k_cV0 rfl s_101 q_1 rfl rfl rfl (bl rfl)
theorem b_26_4 {d : Nat} {m : Nat → Nat → Int} {q : Nat → Nat → Option Nat} {w : Option (Nat → Int64)} {s0 : Int}   : gv d rR26 4 [some (.ref 101)] [.int (iI s0)] (mk m q w) =
    if iI s0 = iI 0 then (rBd (ev d 2 [.ref 101] (mk m q w)) (fun v M' => gv d rR26 12 [some (.ref 101)] (v.toList ++ [.ref 101]) M')) else (gv d rR26 26 [some (.ref 101)] [] (mk m q w)) := by
  refine Eq.trans (k_i1ne rfl rfl) ?_
  refine ifc ?_ ?_
  · refine Eq.trans (k_ald0 rfl) ?_
    refine Eq.trans (k_ald0 rfl) ?_
    exact k_cV0 rfl s_101 q_2 rfl rfl rfl (bl rfl)
  · exact rfl
theorem b_26_12 {d : Nat} {m : Nat → Nat → Int} {q : Nat → Nat → Option Nat} {w : Option (Nat → Int64)} {u0 : Option Value} {s1 : Int}   : gv d rR26 12 [u0] [.int (iI s1), .ref 101] (mk m q w) =
    rBd (ev d 3 [.ref 101, .int (iI s1), .int (iI 97), .int (iI 122)] (mk m q w)) (fun v M' => gv d rR26 19 [u0] (v.toList ++ []) M') := by
  refine Eq.trans (k_bip rfl (by decide)) ?_
  refine Eq.trans (k_bip rfl (by decide)) ?_
  exact k_cV3 rfl s_101 q_3 rfl rfl rfl (bl rfl)
theorem b_26_19 {d : Nat} {m : Nat → Nat → Int} {q : Nat → Nat → Option Nat} {w : Option (Nat → Int64)} {u0 : Option Value} {s0 : Int}   : gv d rR26 19 [u0] [.int (iI s0)] (mk m q w) =
    if iI s0 = iI 0 then (gv d rR26 26 [u0] [] (mk m q w)) else (gv d rR26 27 [u0] [.int (iI 1)] (mk m q w)) := by
  refine Eq.trans (k_i1eq rfl rfl) ?_
  refine ifc ?_ ?_
  · exact rfl
  · refine Eq.trans (k_con rfl) ?_
    refine Eq.trans (k_go rfl rfl) ?_
    exact rfl
theorem b_26_26 {d : Nat} {m : Nat → Nat → Int} {q : Nat → Nat → Option Nat} {w : Option (Nat → Int64)} {u0 : Option Value}   : gv d rR26 26 [u0] [] (mk m q w) =
    gv d rR26 27 [u0] [.int (iI 0)] (mk m q w) := by
  refine Eq.trans (k_con rfl) ?_
  exact rfl
theorem b_26_27 {d : Nat} {m : Nat → Nat → Int} {q : Nat → Nat → Option Nat} {w : Option (Nat → Int64)} {u0 : Option Value} {s0 : Int}  (g0 : iI s0 = iI 0 ∨ iI s0 = iI 1) : gv d rR26 27 [u0] [.int (iI s0)] (mk m q w) =
    some (.inl (some (.int (iI s0))), (mk m q w, (0, 0))) := by
  exact k_rtZ rfl rfl g0
theorem e_26 {d : Nat} (hd : 1 ≤ d) {a0 : Value} (M : rMem) (h0 : a0.category = 1) : ev d 26 [a0] M = gv (d - 1) rR26 0 [some a0] [] M := ev_at hd q_26 rfl (by simp [*]) rfl
/-! FanHouse$Tape.takesWord(Ljava/lang/String;)Z -/
theorem b_27_0 {d : Nat} {m : Nat → Nat → Int} {q : Nat → Nat → Option Nat} {w : Option (Nat → Int64)} {u2 u3 u4 : Option Value} {p1 : Nat} {lp1 : List Nat} (hp1 : rTxt p1 = some lp1)  : gv d rR27 0 [some (.ref 101), some (.ref p1), u2, u3, u4] [] (mk m q w) =
    rBd (ev d 1 [.ref 101] (mk m q w)) (fun v M' => gv d rR27 4 [some (.ref 101), some (.ref p1), u2, u3, u4] (v.toList ++ []) M') := by
  refine Eq.trans (k_ald0 rfl) ?_
  exact k_cV0 rfl s_101 q_1 rfl rfl rfl (bl rfl)
theorem b_27_4 {d : Nat} {m : Nat → Nat → Int} {q : Nat → Nat → Option Nat} {w : Option (Nat → Int64)} {u2 u3 u4 : Option Value} {s0 : Int} {p1 : Nat} {lp1 : List Nat} (hp1 : rTxt p1 = some lp1)  : gv d rR27 4 [some (.ref 101), some (.ref p1), u2, u3, u4] [.int (iI s0)] (mk m q w) =
    if iI s0 = iI 0 then (rBd (ev d 2 [.ref 101] (mk m q w)) (fun v M' => gv d rR27 13 [some (.ref 101), some (.ref p1), u2, u3, u4] (v.toList ++ []) M')) else (some (.inl (some (.int (iI 0))), (mk m q w, (0, 0)))) := by
  refine Eq.trans (k_i1eq rfl rfl) ?_
  refine ifc ?_ ?_
  · refine Eq.trans (k_ald0 rfl) ?_
    exact k_cV0 rfl s_101 q_2 rfl rfl rfl (bl rfl)
  · refine Eq.trans (k_con rfl) ?_
    exact k_rtZ rfl rfl (Or.inl rfl)
theorem b_27_13 {d : Nat} {m : Nat → Nat → Int} {q : Nat → Nat → Option Nat} {w : Option (Nat → Int64)} {u2 u3 u4 : Option Value} {s0 : Int} {p1 : Nat} {lp1 : List Nat} (hp1 : rTxt p1 = some lp1) (g0 : 9 ≤ d) : gv d rR27 13 [some (.ref 101), some (.ref p1), u2, u3, u4] [.int (iI s0)] (mk m q w) =
    gv d rR27 21 [some (.ref 101), some (.ref p1), some (.int (iI (((lp1.length : Nat) : Int)))), some (.int (iI 0)), u4] [] (mk m q w) := by
  refine Eq.trans (k_pop rfl rfl) ?_
  refine Eq.trans (k_ald1 rfl) ?_
  refine Eq.trans (k_len rfl hp1 g0 (bl rfl)) ?_
  refine Eq.trans (k_ist2 rfl) ?_
  refine Eq.trans (k_con rfl) ?_
  refine Eq.trans (k_ist3 rfl) ?_
  exact rfl
theorem b_27_21 {d : Nat} {m : Nat → Nat → Int} {q : Nat → Nat → Option Nat} {w : Option (Nat → Int64)} {u4 : Option Value} {v2 v3 : Int} {p1 : Nat} {lp1 : List Nat} (hp1 : rTxt p1 = some lp1)  : gv d rR27 21 [some (.ref 101), some (.ref p1), some (.int (iI v2)), some (.int (iI v3)), u4] [] (mk m q w) =
    if iI v3 < iI v2 then (gv d rR27 26 [some (.ref 101), some (.ref p1), some (.int (iI v2)), some (.int (iI v3)), u4] [] (mk m q w)) else (rBd (ev d 3 [.ref 101, .int (iI ((m 101 3) + v2)), .int (iI 97), .int (iI 122)] (mk m q w)) (fun v M' => gv d rR27 72 [some (.ref 101), some (.ref p1), some (.int (iI v2)), some (.int (iI v3)), u4] (v.toList ++ []) M')) := by
  refine Eq.trans (k_ild3 rfl) ?_
  refine Eq.trans (k_ild2 rfl) ?_
  refine Eq.trans (k_i2ge rfl rfl) ?_
  refine ifc ?_ ?_
  · exact rfl
  · refine Eq.trans (k_ald0 rfl) ?_
    refine Eq.trans (k_ald0 rfl) ?_
    refine Eq.trans (k_gtI rfl s_101 rfl (by decide)) ?_
    refine Eq.trans (k_ild2 rfl) ?_
    refine Eq.trans (k_add rfl) ?_
    refine Eq.trans (k_bip rfl (by decide)) ?_
    refine Eq.trans (k_bip rfl (by decide)) ?_
    exact k_cV3 rfl s_101 q_3 rfl rfl rfl (bl rfl)
theorem b_27_26 {d : Nat} {m : Nat → Nat → Int} {q : Nat → Nat → Option Nat} {w : Option (Nat → Int64)} {u4 : Option Value} {v2 v3 : Int} {p1 : Nat} {lp1 : List Nat} (hp1 : rTxt p1 = some lp1) (g0 : 9 ≤ d) (g1 : 0 ≤ v3) (g2 : v3 < (lp1.length : Nat)) (g3 : lp1.length ≤ 100000) : gv d rR27 26 [some (.ref 101), some (.ref p1), some (.int (iI v2)), some (.int (iI v3)), u4] [] (mk m q w) =
    rBd (ev d 3 [.ref 101, .int (iI ((m 101 3) + v3)), .int (iI (((lp1.getD (Int.toNat v3) 0 : Nat) : Int))), .int (iI (((lp1.getD (Int.toNat v3) 0 : Nat) : Int)))] (mk m q w)) (fun v M' => gv d rR27 47 [some (.ref 101), some (.ref p1), some (.int (iI v2)), some (.int (iI v3)), some (.int (iI (((lp1.getD (Int.toNat v3) 0 : Nat) : Int))))] (v.toList ++ []) M') := by
  refine Eq.trans (k_ald1 rfl) ?_
  refine Eq.trans (k_ild3 rfl) ?_
  refine Eq.trans (k_chr rfl hp1 g1 g2 g3 g0 (bl rfl)) ?_
  refine Eq.trans (k_ist4 rfl) ?_
  refine Eq.trans (k_ald0 rfl) ?_
  refine Eq.trans (k_ald0 rfl) ?_
  refine Eq.trans (k_gtI rfl s_101 rfl (by decide)) ?_
  refine Eq.trans (k_ild3 rfl) ?_
  refine Eq.trans (k_add rfl) ?_
  refine Eq.trans (k_ild4 rfl) ?_
  refine Eq.trans (k_ild4 rfl) ?_
  exact k_cV3 rfl s_101 q_3 rfl rfl rfl (bl rfl)
theorem b_27_47 {d : Nat} {m : Nat → Nat → Int} {q : Nat → Nat → Option Nat} {w : Option (Nat → Int64)} {u4 : Option Value} {v2 v3 s0 : Int} {p1 : Nat} {lp1 : List Nat} (hp1 : rTxt p1 = some lp1)  : gv d rR27 47 [some (.ref 101), some (.ref p1), some (.int (iI v2)), some (.int (iI v3)), u4] [.int (iI s0)] (mk m q w) =
    if iI s0 = iI 0 then (some (.inl (some (.int (iI 0))), (mk m q w, (0, 0)))) else (gv d rR27 21 [some (.ref 101), some (.ref p1), some (.int (iI v2)), some (.int (iI (v3 + 1))), u4] [] (mk m q w)) := by
  refine Eq.trans (k_i1ne rfl rfl) ?_
  refine ifc ?_ ?_
  · refine Eq.trans (k_con rfl) ?_
    exact k_rtZ rfl rfl (Or.inl rfl)
  · refine Eq.trans (k_inc3 rfl) ?_
    refine Eq.trans (k_go rfl rfl) ?_
    exact rfl
theorem b_27_72 {d : Nat} {m : Nat → Nat → Int} {q : Nat → Nat → Option Nat} {w : Option (Nat → Int64)} {u1 u3 u4 : Option Value} {v2 s0 : Int}   : gv d rR27 72 [some (.ref 101), u1, some (.int (iI v2)), u3, u4] [.int (iI s0)] (mk m q w) =
    if iI s0 = iI 0 then (some (.inl (some (.int (iI 1))), (mk (wr m 101 3 ((m 101 3) + v2)) q w, (0, 0)))) else (some (.inl (some (.int (iI 0))), (mk m q w, (0, 0)))) := by
  refine Eq.trans (k_i1eq rfl rfl) ?_
  refine ifc ?_ ?_
  · refine Eq.trans (k_ald0 rfl) ?_
    refine Eq.trans (k_dup rfl rfl) ?_
    refine Eq.trans (k_gtI rfl s_101 rfl (by decide)) ?_
    refine Eq.trans (k_ild2 rfl) ?_
    refine Eq.trans (k_add rfl) ?_
    refine Eq.trans (k_ptI rfl s_101 rfl rfl) ?_
    refine Eq.trans (k_con rfl) ?_
    exact k_rtZ rfl rfl (Or.inr rfl)
  · refine Eq.trans (k_con rfl) ?_
    exact k_rtZ rfl rfl (Or.inl rfl)
theorem e_27 {d : Nat} (hd : 1 ≤ d) {a0 a1 : Value} (M : rMem) (h0 : a0.category = 1) (h1 : a1.category = 1) : ev d 27 [a0, a1] M = gv (d - 1) rR27 0 [some a0, some a1, none, none, none] [] M := ev_at hd q_27 rfl (by simp [*]) rfl
/-! FanHouse$Fan.setToldMark(III)V -/
theorem b_28_0 {d : Nat} {m : Nat → Nat → Int} {q : Nat → Nat → Option Nat} {w : Option (Nat → Int64)} {v1 v2 v3 : Int} {x : Nat} (hx : iFan x)  : gv d rR28 0 [some (.ref x), some (.int (iI v1)), some (.int (iI v2)), some (.int (iI v3))] [] (mk m q w) =
    rBd (ev d 16 [.int (iI v1), .int (iI v2)] (mk m q w)) (fun v M' => gv d rR28 5 [some (.ref x), some (.int (iI v1)), some (.int (iI v2)), some (.int (iI v3))] (v.toList ++ []) M') := by
  refine Eq.trans (k_ild1 rfl) ?_
  refine Eq.trans (k_ild2 rfl) ?_
  exact k_cS2 rfl (by decide) q_16 rfl rfl (bl rfl)
theorem b_28_5 {d : Nat} {m : Nat → Nat → Int} {q : Nat → Nat → Option Nat} {w : Option (Nat → Int64)} {v1 v2 v3 s0 : Int} {x : Nat} (hx : iFan x)  : gv d rR28 5 [some (.ref x), some (.int (iI v1)), some (.int (iI v2)), some (.int (iI v3))] [.int (iI s0)] (mk m q w) =
    if iI s0 = iI 0 then (gv d rR28 19 [some (.ref x), some (.int (iI v1)), some (.int (iI v2)), some (.int (iI v3))] [] (mk m q w)) else (gv d rR28 8 [some (.ref x), some (.int (iI v1)), some (.int (iI v2)), some (.int (iI v3))] [] (mk m q w)) := by
  refine Eq.trans (k_i1eq rfl rfl) ?_
  refine ifc ?_ ?_
  · exact rfl
  · exact rfl
theorem b_28_8 {d : Nat} {m : Nat → Nat → Int} {q : Nat → Nat → Option Nat} {w : Option (Nat → Int64)} {v1 v2 v3 : Int} {x : Nat} (hx : iFan x) (g0 : 0 ≤ ((4 * v1) + v2)) (g1 : ((4 * v1) + v2) < 28) : gv d rR28 8 [some (.ref x), some (.int (iI v1)), some (.int (iI v2)), some (.int (iI v3))] [] (mk m q w) =
    gv d rR28 19 [some (.ref x), some (.int (iI v1)), some (.int (iI v2)), some (.int (iI v3))] [] (mk (wr m (x + 2) (Int.toNat ((4 * v1) + v2)) v3) q w) := by
  refine Eq.trans (k_ald0 rfl) ?_
  refine Eq.trans (k_gtR rfl (fan_0 hx) rfl (by decide)) ?_
  refine Eq.trans (k_con rfl) ?_
  refine Eq.trans (k_ild1 rfl) ?_
  refine Eq.trans (k_mul rfl) ?_
  refine Eq.trans (k_ild2 rfl) ?_
  refine Eq.trans (k_add rfl) ?_
  refine Eq.trans (k_ild3 rfl) ?_
  refine Eq.trans (k_iast rfl (fan_2 hx) (bl rfl) g0 g1) ?_
  exact rfl
theorem b_28_19 {d : Nat} {m : Nat → Nat → Int} {q : Nat → Nat → Option Nat} {w : Option (Nat → Int64)} {u0 u1 u2 u3 : Option Value}   : gv d rR28 19 [u0, u1, u2, u3] [] (mk m q w) =
    some (.inl none, (mk m q w, (0, 0))) := by
  exact k_rtV rfl rfl
theorem e_28 {d : Nat} (hd : 1 ≤ d) {a0 a1 a2 a3 : Value} (M : rMem) (h0 : a0.category = 1) (h1 : a1.category = 1) (h2 : a2.category = 1) (h3 : a3.category = 1) : ev d 28 [a0, a1, a2, a3] M = gv (d - 1) rR28 0 [some a0, some a1, some a2, some a3] [] M := ev_at hd q_28 rfl (by simp [*]) rfl
/-! FanHouse$Fan.readStick(LFanHouse$Tape;)V -/
theorem b_29_0 {d : Nat} {m : Nat → Nat → Int} {q : Nat → Nat → Option Nat} {w : Option (Nat → Int64)} {u2 : Option Value} {x : Nat} (hx : iFan x)  : gv d rR29 0 [some (.ref x), some (.ref 101), u2] [] (mk m q w) =
    gv d rR29 2 [some (.ref x), some (.ref 101), some (.int (iI 0))] [] (mk m q w) := by
  refine Eq.trans (k_con rfl) ?_
  refine Eq.trans (k_ist2 rfl) ?_
  exact rfl
theorem b_29_2 {d : Nat} {m : Nat → Nat → Int} {q : Nat → Nat → Option Nat} {w : Option (Nat → Int64)} {v2 : Int} {x : Nat} (hx : iFan x)  : gv d rR29 2 [some (.ref x), some (.ref 101), some (.int (iI v2))] [] (mk m q w) =
    if iI v2 < iI 4 then (rBd (ev d 7 [.ref 101, .int (iI 0), .int (iI 15)] (mk m q w)) (fun v M' => gv d rR29 20 [some (.ref x), some (.ref 101), some (.int (iI v2))] (v.toList ++ [.int (iI v2), .int (iI (m x 0)), .ref x]) M')) else (some (.inl none, (mk (wr m x 0 ((m x 0) + 1)) q w, (0, 0)))) := by
  refine Eq.trans (k_ild2 rfl) ?_
  refine Eq.trans (k_con rfl) ?_
  refine Eq.trans (k_i2ge rfl rfl) ?_
  refine ifc ?_ ?_
  · refine Eq.trans (k_ald0 rfl) ?_
    refine Eq.trans (k_ald0 rfl) ?_
    refine Eq.trans (k_gtI rfl (fan_0 hx) rfl (by decide)) ?_
    refine Eq.trans (k_ild2 rfl) ?_
    refine Eq.trans (k_ald1 rfl) ?_
    refine Eq.trans (k_con rfl) ?_
    refine Eq.trans (k_bip rfl (by decide)) ?_
    exact k_cV2 rfl s_101 q_7 rfl rfl rfl (bl rfl)
  · refine Eq.trans (k_ald0 rfl) ?_
    refine Eq.trans (k_dup rfl rfl) ?_
    refine Eq.trans (k_gtI rfl (fan_0 hx) rfl (by decide)) ?_
    refine Eq.trans (k_con rfl) ?_
    refine Eq.trans (k_add rfl) ?_
    refine Eq.trans (k_ptI rfl (fan_0 hx) rfl rfl) ?_
    exact k_rtV rfl rfl
theorem b_29_20 {d : Nat} {m : Nat → Nat → Int} {q : Nat → Nat → Option Nat} {w : Option (Nat → Int64)} {v2 s1 s2 s3 : Int} {x : Nat} (hx : iFan x)  : gv d rR29 20 [some (.ref x), some (.ref 101), some (.int (iI v2))] [.int (iI s3), .int (iI s2), .int (iI s1), .ref x] (mk m q w) =
    rBd (ev d 28 [.ref x, .int (iI s1), .int (iI s2), .int (iI s3)] (mk m q w)) (fun v M' => gv d rR29 23 [some (.ref x), some (.ref 101), some (.int (iI v2))] (v.toList ++ []) M') := by
  exact k_cV3 rfl (fan_0 hx) q_28 rfl rfl rfl (bl rfl)
theorem b_29_23 {d : Nat} {m : Nat → Nat → Int} {q : Nat → Nat → Option Nat} {w : Option (Nat → Int64)} {v2 : Int} {x : Nat} (hx : iFan x)  : gv d rR29 23 [some (.ref x), some (.ref 101), some (.int (iI v2))] [] (mk m q w) =
    gv d rR29 2 [some (.ref x), some (.ref 101), some (.int (iI (v2 + 1)))] [] (mk m q w) := by
  refine Eq.trans (k_inc2 rfl) ?_
  refine Eq.trans (k_go rfl rfl) ?_
  exact rfl
theorem e_29 {d : Nat} (hd : 1 ≤ d) {a0 a1 : Value} (M : rMem) (h0 : a0.category = 1) (h1 : a1.category = 1) : ev d 29 [a0, a1] M = gv (d - 1) rR29 0 [some a0, some a1, none] [] M := ev_at hd q_29 rfl (by simp [*]) rfl
/-! FanHouse$Fan.readClause(LFanHouse$Tape;Z)V -/
theorem b_30_0 {d : Nat} {m : Nat → Nat → Int} {q : Nat → Nat → Option Nat} {w : Option (Nat → Int64)} {u3 u4 u5 u6 : Option Value} {v2 : Int} {x : Nat} (hx : iFan x)  : gv d rR30 0 [some (.ref x), some (.ref 101), some (.int (iI v2)), u3, u4, u5, u6] [] (mk m q w) =
    rBd (ev d 2 [.ref 101] (mk m q w)) (fun v M' => gv d rR30 4 [some (.ref x), some (.ref 101), some (.int (iI v2)), u3, u4, u5, u6] (v.toList ++ []) M') := by
  refine Eq.trans (k_ald1 rfl) ?_
  exact k_cV0 rfl s_101 q_2 rfl rfl rfl (bl rfl)
theorem b_30_4 {d : Nat} {m : Nat → Nat → Int} {q : Nat → Nat → Option Nat} {w : Option (Nat → Int64)} {u3 u4 u5 u6 : Option Value} {v2 s0 : Int} {x : Nat} (hx : iFan x)  : gv d rR30 4 [some (.ref x), some (.ref 101), some (.int (iI v2)), u3, u4, u5, u6] [.int (iI s0)] (mk m q w) =
    rBd (ev d 27 [.ref 101, .ref 25] (mk m q w)) (fun v M' => gv d rR30 11 [some (.ref x), some (.ref 101), some (.int (iI v2)), some (.int (iI s0)), u4, u5, u6] (v.toList ++ []) M') := by
  refine Eq.trans (k_ist3 rfl) ?_
  refine Eq.trans (k_ald1 rfl) ?_
  refine Eq.trans (k_ldr rfl) ?_
  exact k_cV1 rfl s_101 q_27 rfl rfl rfl (bl rfl)
theorem b_30_11 {d : Nat} {m : Nat → Nat → Int} {q : Nat → Nat → Option Nat} {w : Option (Nat → Int64)} {u4 u5 u6 : Option Value} {v2 v3 s0 : Int} {x : Nat} (hx : iFan x)  : gv d rR30 11 [some (.ref x), some (.ref 101), some (.int (iI v2)), some (.int (iI v3)), u4, u5, u6] [.int (iI s0)] (mk m q w) =
    if iI s0 = iI 0 then (rBd (ev d 27 [.ref 101, .ref 22] (mk m q w)) (fun v M' => gv d rR30 24 [some (.ref x), some (.ref 101), some (.int (iI v2)), some (.int (iI v3)), some (.int (iI s0)), u5, u6] (v.toList ++ []) M')) else (gv d rR30 31 [some (.ref x), some (.ref 101), some (.int (iI v2)), some (.int (iI v3)), some (.int (iI s0)), u5, u6] [] (mk m q w)) := by
  refine Eq.trans (k_ist4 rfl) ?_
  refine Eq.trans (k_ild4 rfl) ?_
  refine Eq.trans (k_i1ne rfl rfl) ?_
  refine ifc ?_ ?_
  · refine Eq.trans (k_ald1 rfl) ?_
    refine Eq.trans (k_ldr rfl) ?_
    exact k_cV1 rfl s_101 q_27 rfl rfl rfl (bl rfl)
  · exact rfl
theorem b_30_24 {d : Nat} {m : Nat → Nat → Int} {q : Nat → Nat → Option Nat} {w : Option (Nat → Int64)} {u5 u6 : Option Value} {v2 v3 v4 s0 : Int} {x : Nat} (hx : iFan x)  : gv d rR30 24 [some (.ref x), some (.ref 101), some (.int (iI v2)), some (.int (iI v3)), some (.int (iI v4)), u5, u6] [.int (iI s0)] (mk m q w) =
    if iI s0 = iI 0 then (gv d rR30 31 [some (.ref x), some (.ref 101), some (.int (iI v2)), some (.int (iI v3)), some (.int (iI v4)), u5, u6] [] (mk m q w)) else (gv d rR30 32 [some (.ref x), some (.ref 101), some (.int (iI v2)), some (.int (iI v3)), some (.int (iI v4)), u5, u6] [.int (iI 1)] (mk m q w)) := by
  refine Eq.trans (k_i1eq rfl rfl) ?_
  refine ifc ?_ ?_
  · exact rfl
  · refine Eq.trans (k_con rfl) ?_
    refine Eq.trans (k_go rfl rfl) ?_
    exact rfl
theorem b_30_31 {d : Nat} {m : Nat → Nat → Int} {q : Nat → Nat → Option Nat} {w : Option (Nat → Int64)} {u5 u6 : Option Value} {v2 v3 v4 : Int} {x : Nat} (hx : iFan x)  : gv d rR30 31 [some (.ref x), some (.ref 101), some (.int (iI v2)), some (.int (iI v3)), some (.int (iI v4)), u5, u6] [] (mk m q w) =
    gv d rR30 32 [some (.ref x), some (.ref 101), some (.int (iI v2)), some (.int (iI v3)), some (.int (iI v4)), u5, u6] [.int (iI 0)] (mk m q w) := by
  refine Eq.trans (k_con rfl) ?_
  exact rfl
theorem b_30_32 {d : Nat} {m : Nat → Nat → Int} {q : Nat → Nat → Option Nat} {w : Option (Nat → Int64)} {u5 u6 : Option Value} {v2 v3 v4 s0 : Int} {x : Nat} (hx : iFan x)  : gv d rR30 32 [some (.ref x), some (.ref 101), some (.int (iI v2)), some (.int (iI v3)), some (.int (iI v4)), u5, u6] [.int (iI s0)] (mk m q w) =
    if iI v4 = iI 0 then (if iI s0 = iI 0 then (rBd (ev d 27 [.ref 101, .ref 18] (mk m q w)) (fun v M' => gv d rR30 50 [some (.ref x), some (.ref 101), some (.int (iI v2)), some (.int (iI v3)), some (.int (iI v4)), some (.int (iI s0)), u6] (v.toList ++ []) M')) else (gv d rR30 57 [some (.ref x), some (.ref 101), some (.int (iI v2)), some (.int (iI v3)), some (.int (iI v4)), some (.int (iI s0)), u6] [] (mk m q w))) else (gv d rR30 57 [some (.ref x), some (.ref 101), some (.int (iI v2)), some (.int (iI v3)), some (.int (iI v4)), some (.int (iI s0)), u6] [] (mk m q w)) := by
  refine Eq.trans (k_ist5 rfl) ?_
  refine Eq.trans (k_ild4 rfl) ?_
  refine Eq.trans (k_i1ne rfl rfl) ?_
  refine ifc ?_ ?_
  · refine Eq.trans (k_ild5 rfl) ?_
    refine Eq.trans (k_i1ne rfl rfl) ?_
    refine ifc ?_ ?_
    · refine Eq.trans (k_ald1 rfl) ?_
      refine Eq.trans (k_ldr rfl) ?_
      exact k_cV1 rfl s_101 q_27 rfl rfl rfl (bl rfl)
    · exact rfl
  · exact rfl
theorem b_30_50 {d : Nat} {m : Nat → Nat → Int} {q : Nat → Nat → Option Nat} {w : Option (Nat → Int64)} {u6 : Option Value} {v2 v3 v4 v5 s0 : Int} {x : Nat} (hx : iFan x)  : gv d rR30 50 [some (.ref x), some (.ref 101), some (.int (iI v2)), some (.int (iI v3)), some (.int (iI v4)), some (.int (iI v5)), u6] [.int (iI s0)] (mk m q w) =
    if iI s0 = iI 0 then (gv d rR30 57 [some (.ref x), some (.ref 101), some (.int (iI v2)), some (.int (iI v3)), some (.int (iI v4)), some (.int (iI v5)), u6] [] (mk m q w)) else (gv d rR30 58 [some (.ref x), some (.ref 101), some (.int (iI v2)), some (.int (iI v3)), some (.int (iI v4)), some (.int (iI v5)), u6] [.int (iI 1)] (mk m q w)) := by
  refine Eq.trans (k_i1eq rfl rfl) ?_
  refine ifc ?_ ?_
  · exact rfl
  · refine Eq.trans (k_con rfl) ?_
    refine Eq.trans (k_go rfl rfl) ?_
    exact rfl
theorem b_30_57 {d : Nat} {m : Nat → Nat → Int} {q : Nat → Nat → Option Nat} {w : Option (Nat → Int64)} {u6 : Option Value} {v2 v3 v4 v5 : Int} {x : Nat} (hx : iFan x)  : gv d rR30 57 [some (.ref x), some (.ref 101), some (.int (iI v2)), some (.int (iI v3)), some (.int (iI v4)), some (.int (iI v5)), u6] [] (mk m q w) =
    gv d rR30 58 [some (.ref x), some (.ref 101), some (.int (iI v2)), some (.int (iI v3)), some (.int (iI v4)), some (.int (iI v5)), u6] [.int (iI 0)] (mk m q w) := by
  refine Eq.trans (k_con rfl) ?_
  exact rfl
theorem b_30_58 {d : Nat} {m : Nat → Nat → Int} {q : Nat → Nat → Option Nat} {w : Option (Nat → Int64)} {u6 : Option Value} {v2 v3 v4 v5 s0 : Int} {x : Nat} (hx : iFan x)  : gv d rR30 58 [some (.ref x), some (.ref 101), some (.int (iI v2)), some (.int (iI v3)), some (.int (iI v4)), some (.int (iI v5)), u6] [.int (iI s0)] (mk m q w) =
    if iI v4 = iI 0 then (if iI v5 = iI 0 then (if iI s0 = iI 0 then (rBd (ev d 5 [.ref 101, .int (iI 1), .int (iI v3)] (mk m q w)) (fun v M' => gv d rR30 81 [some (.ref x), some (.ref 101), some (.int (iI v2)), some (.int (iI v3)), some (.int (iI v4)), some (.int (iI v5)), some (.int (iI s0))] (v.toList ++ []) M')) else (gv d rR30 84 [some (.ref x), some (.ref 101), some (.int (iI v2)), some (.int (iI v3)), some (.int (iI v4)), some (.int (iI v5)), some (.int (iI s0))] [] (mk m q w))) else (gv d rR30 84 [some (.ref x), some (.ref 101), some (.int (iI v2)), some (.int (iI v3)), some (.int (iI v4)), some (.int (iI v5)), some (.int (iI s0))] [] (mk m q w))) else (gv d rR30 84 [some (.ref x), some (.ref 101), some (.int (iI v2)), some (.int (iI v3)), some (.int (iI v4)), some (.int (iI v5)), some (.int (iI s0))] [] (mk m q w)) := by
  refine Eq.trans (k_ist6 rfl) ?_
  refine Eq.trans (k_ild4 rfl) ?_
  refine Eq.trans (k_i1ne rfl rfl) ?_
  refine ifc ?_ ?_
  · refine Eq.trans (k_ild5 rfl) ?_
    refine Eq.trans (k_i1ne rfl rfl) ?_
    refine ifc ?_ ?_
    · refine Eq.trans (k_ild6 rfl) ?_
      refine Eq.trans (k_i1ne rfl rfl) ?_
      refine ifc ?_ ?_
      · refine Eq.trans (k_ald1 rfl) ?_
        refine Eq.trans (k_con rfl) ?_
        refine Eq.trans (k_ild3 rfl) ?_
        exact k_cV2 rfl s_101 q_5 rfl rfl rfl (bl rfl)
      · exact rfl
    · exact rfl
  · exact rfl
theorem b_30_81 {d : Nat} {m : Nat → Nat → Int} {q : Nat → Nat → Option Nat} {w : Option (Nat → Int64)} {u0 u1 u2 u3 u4 u5 u6 : Option Value}   : gv d rR30 81 [u0, u1, u2, u3, u4, u5, u6] [] (mk m q w) =
    gv d rR30 155 [u0, u1, u2, u3, u4, u5, u6] [] (mk m q w) := by
  refine Eq.trans (k_go rfl rfl) ?_
  exact rfl
theorem b_30_84 {d : Nat} {m : Nat → Nat → Int} {q : Nat → Nat → Option Nat} {w : Option (Nat → Int64)} {u6 : Option Value} {v2 v3 v4 v5 : Int} {x : Nat} (hx : iFan x)  : gv d rR30 84 [some (.ref x), some (.ref 101), some (.int (iI v2)), some (.int (iI v3)), some (.int (iI v4)), some (.int (iI v5)), u6] [] (mk m q w) =
    if iI v2 = iI 0 then (if iI v4 = iI 0 then (gv d rR30 111 [some (.ref x), some (.ref 101), some (.int (iI v2)), some (.int (iI v3)), some (.int (iI v4)), some (.int (iI v5)), u6] [] (mk m q w)) else (if iI (m x 0) < iI 7 then (gv d rR30 111 [some (.ref x), some (.ref 101), some (.int (iI v2)), some (.int (iI v3)), some (.int (iI v4)), some (.int (iI v5)), u6] [] (mk m q w)) else (gv d rR30 102 [some (.ref x), some (.ref 101), some (.int (iI v2)), some (.int (iI v3)), some (.int (iI v4)), some (.int (iI v5)), u6] [] (mk m q w)))) else (gv d rR30 102 [some (.ref x), some (.ref 101), some (.int (iI v2)), some (.int (iI v3)), some (.int (iI v4)), some (.int (iI v5)), u6] [] (mk m q w)) := by
  refine Eq.trans (k_ild2 rfl) ?_
  refine Eq.trans (k_i1ne rfl rfl) ?_
  refine ifc ?_ ?_
  · refine Eq.trans (k_ild4 rfl) ?_
    refine Eq.trans (k_i1eq rfl rfl) ?_
    refine ifc ?_ ?_
    · exact rfl
    · refine Eq.trans (k_ald0 rfl) ?_
      refine Eq.trans (k_gtI rfl (fan_0 hx) rfl (by decide)) ?_
      refine Eq.trans (k_bip rfl (by decide)) ?_
      refine Eq.trans (k_i2lt rfl rfl) ?_
      refine ifc ?_ ?_
      · exact rfl
      · exact rfl
  · exact rfl
theorem b_30_102 {d : Nat} {m : Nat → Nat → Int} {q : Nat → Nat → Option Nat} {w : Option (Nat → Int64)} {u0 u2 u4 u5 u6 : Option Value} {v3 : Int}   : gv d rR30 102 [u0, some (.ref 101), u2, some (.int (iI v3)), u4, u5, u6] [] (mk m q w) =
    rBd (ev d 5 [.ref 101, .int (iI 3), .int (iI v3)] (mk m q w)) (fun v M' => gv d rR30 108 [u0, some (.ref 101), u2, some (.int (iI v3)), u4, u5, u6] (v.toList ++ []) M') := by
  refine Eq.trans (k_ald1 rfl) ?_
  refine Eq.trans (k_con rfl) ?_
  refine Eq.trans (k_ild3 rfl) ?_
  exact k_cV2 rfl s_101 q_5 rfl rfl rfl (bl rfl)
theorem b_30_108 {d : Nat} {m : Nat → Nat → Int} {q : Nat → Nat → Option Nat} {w : Option (Nat → Int64)} {u0 u1 u2 u3 u4 u5 u6 : Option Value}   : gv d rR30 108 [u0, u1, u2, u3, u4, u5, u6] [] (mk m q w) =
    gv d rR30 155 [u0, u1, u2, u3, u4, u5, u6] [] (mk m q w) := by
  refine Eq.trans (k_go rfl rfl) ?_
  exact rfl
theorem b_30_111 {d : Nat} {m : Nat → Nat → Int} {q : Nat → Nat → Option Nat} {w : Option (Nat → Int64)} {u2 u3 u6 : Option Value} {v4 v5 : Int} {x : Nat} (hx : iFan x)  : gv d rR30 111 [some (.ref x), some (.ref 101), u2, u3, some (.int (iI v4)), some (.int (iI v5)), u6] [] (mk m q w) =
    if iI v4 = iI 0 then (if iI v5 = iI 0 then (rBd (ev d 7 [.ref 101, .int (iI 0), .int (iI 99)] (mk m q w)) (fun v M' => gv d rR30 152 [some (.ref x), some (.ref 101), u2, u3, some (.int (iI v4)), some (.int (iI v5)), u6] (v.toList ++ [.ref x]) M')) else (rBd (ev d 7 [.ref 101, .int (iI 1), .int (iI 200)] (mk m q w)) (fun v M' => gv d rR30 138 [some (.ref x), some (.ref 101), u2, u3, some (.int (iI v4)), some (.int (iI v5)), u6] (v.toList ++ [.ref x]) M'))) else (rBd (ev d 29 [.ref x, .ref 101] (mk m q w)) (fun v M' => gv d rR30 121 [some (.ref x), some (.ref 101), u2, u3, some (.int (iI v4)), some (.int (iI v5)), u6] (v.toList ++ []) M')) := by
  refine Eq.trans (k_ild4 rfl) ?_
  refine Eq.trans (k_i1eq rfl rfl) ?_
  refine ifc ?_ ?_
  · refine Eq.trans (k_ild5 rfl) ?_
    refine Eq.trans (k_i1eq rfl rfl) ?_
    refine ifc ?_ ?_
    · refine Eq.trans (k_ald0 rfl) ?_
      refine Eq.trans (k_ald1 rfl) ?_
      refine Eq.trans (k_con rfl) ?_
      refine Eq.trans (k_bip rfl (by decide)) ?_
      exact k_cV2 rfl s_101 q_7 rfl rfl rfl (bl rfl)
    · refine Eq.trans (k_ald0 rfl) ?_
      refine Eq.trans (k_ald1 rfl) ?_
      refine Eq.trans (k_con rfl) ?_
      refine Eq.trans (k_sip rfl (by decide)) ?_
      exact k_cV2 rfl s_101 q_7 rfl rfl rfl (bl rfl)
  · refine Eq.trans (k_ald0 rfl) ?_
    refine Eq.trans (k_ald1 rfl) ?_
    exact k_cV1 rfl (fan_0 hx) q_29 rfl rfl rfl (bl rfl)
theorem b_30_121 {d : Nat} {m : Nat → Nat → Int} {q : Nat → Nat → Option Nat} {w : Option (Nat → Int64)} {u0 u1 u2 u3 u4 u5 u6 : Option Value}   : gv d rR30 121 [u0, u1, u2, u3, u4, u5, u6] [] (mk m q w) =
    gv d rR30 155 [u0, u1, u2, u3, u4, u5, u6] [] (mk m q w) := by
  refine Eq.trans (k_go rfl rfl) ?_
  exact rfl
theorem b_30_138 {d : Nat} {m : Nat → Nat → Int} {q : Nat → Nat → Option Nat} {w : Option (Nat → Int64)} {u0 u1 u2 u3 u4 u5 u6 : Option Value} {s1 : Int} {x : Nat} (hx : iFan x)  : gv d rR30 138 [u0, u1, u2, u3, u4, u5, u6] [.int (iI s1), .ref x] (mk m q w) =
    gv d rR30 155 [u0, u1, u2, u3, u4, u5, u6] [] (mk (wr m x 1 s1) q w) := by
  refine Eq.trans (k_ptI rfl (fan_0 hx) rfl rfl) ?_
  refine Eq.trans (k_go rfl rfl) ?_
  exact rfl
theorem b_30_152 {d : Nat} {m : Nat → Nat → Int} {q : Nat → Nat → Option Nat} {w : Option (Nat → Int64)} {u0 u1 u2 u3 u4 u5 u6 : Option Value} {s1 : Int} {x : Nat} (hx : iFan x)  : gv d rR30 152 [u0, u1, u2, u3, u4, u5, u6] [.int (iI s1), .ref x] (mk m q w) =
    gv d rR30 155 [u0, u1, u2, u3, u4, u5, u6] [] (mk (wr m x 3 s1) q w) := by
  refine Eq.trans (k_ptI rfl (fan_0 hx) rfl rfl) ?_
  exact rfl
theorem b_30_155 {d : Nat} {m : Nat → Nat → Int} {q : Nat → Nat → Option Nat} {w : Option (Nat → Int64)} {u0 u1 u2 u3 u4 u5 u6 : Option Value}   : gv d rR30 155 [u0, u1, u2, u3, u4, u5, u6] [] (mk m q w) =
    some (.inl none, (mk m q w, (0, 0))) := by
  exact k_rtV rfl rfl
theorem e_30 {d : Nat} (hd : 1 ≤ d) {a0 a1 a2 : Value} (M : rMem) (h0 : a0.category = 1) (h1 : a1.category = 1) (h2 : a2.category = 1) : ev d 30 [a0, a1, a2] M = gv (d - 1) rR30 0 [some a0, some a1, some a2, none, none, none, none] [] M := ev_at hd q_30 rfl (by simp [*]) rfl
/-! FanHouse$Fan.readFrom(LFanHouse$Tape;)V -/
theorem b_31_0 {d : Nat} {m : Nat → Nat → Int} {q : Nat → Nat → Option Nat} {w : Option (Nat → Int64)} {u2 u3 : Option Value} {x : Nat} (hx : iFan x)  : gv d rR31 0 [some (.ref x), some (.ref 101), u2, u3] [] (mk m q w) =
    rBd (ev d 25 [.ref x] (mk m q w)) (fun v M' => gv d rR31 4 [some (.ref x), some (.ref 101), u2, u3] (v.toList ++ []) M') := by
  refine Eq.trans (k_ald0 rfl) ?_
  exact k_cV0 rfl (fan_0 hx) q_25 rfl rfl rfl (bl rfl)
theorem b_31_4 {d : Nat} {m : Nat → Nat → Int} {q : Nat → Nat → Option Nat} {w : Option (Nat → Int64)} {u2 u3 : Option Value} {x : Nat} (hx : iFan x)  : gv d rR31 4 [some (.ref x), some (.ref 101), u2, u3] [] (mk m q w) =
    gv d rR31 8 [some (.ref x), some (.ref 101), some (.int (iI 0)), some (.int (iI 0))] [] (mk m q w) := by
  refine Eq.trans (k_con rfl) ?_
  refine Eq.trans (k_ist2 rfl) ?_
  refine Eq.trans (k_con rfl) ?_
  refine Eq.trans (k_ist3 rfl) ?_
  exact rfl
theorem b_31_8 {d : Nat} {m : Nat → Nat → Int} {q : Nat → Nat → Option Nat} {w : Option (Nat → Int64)} {v2 v3 : Int} {x : Nat} (hx : iFan x)  : gv d rR31 8 [some (.ref x), some (.ref 101), some (.int (iI v2)), some (.int (iI v3))] [] (mk m q w) =
    if iI v3 < iI 600 then (rBd (ev d 26 [.ref 101] (mk m q w)) (fun v M' => gv d rR31 19 [some (.ref x), some (.ref 101), some (.int (iI v2)), some (.int (iI v3))] (v.toList ++ []) M')) else (gv d rR31 53 [some (.ref x), some (.ref 101), some (.int (iI v2)), some (.int (iI v3))] [] (mk m q w)) := by
  refine Eq.trans (k_ild3 rfl) ?_
  refine Eq.trans (k_sip rfl (by decide)) ?_
  refine Eq.trans (k_i2ge rfl rfl) ?_
  refine ifc ?_ ?_
  · refine Eq.trans (k_ald1 rfl) ?_
    exact k_cV0 rfl s_101 q_26 rfl rfl rfl (bl rfl)
  · exact rfl
theorem b_31_19 {d : Nat} {m : Nat → Nat → Int} {q : Nat → Nat → Option Nat} {w : Option (Nat → Int64)} {v2 v3 s0 : Int} {x : Nat} (hx : iFan x)  : gv d rR31 19 [some (.ref x), some (.ref 101), some (.int (iI v2)), some (.int (iI v3))] [.int (iI s0)] (mk m q w) =
    if iI s0 = iI 0 then (gv d rR31 53 [some (.ref x), some (.ref 101), some (.int (iI v2)), some (.int (iI v3))] [] (mk m q w)) else (if iI v2 < iI 60 then (gv d rR31 35 [some (.ref x), some (.ref 101), some (.int (iI v2)), some (.int (iI v3))] [.int (iI 0), .ref 101, .ref x] (mk m q w)) else (gv d rR31 35 [some (.ref x), some (.ref 101), some (.int (iI v2)), some (.int (iI v3))] [.int (iI 1), .ref 101, .ref x] (mk m q w))) := by
  refine Eq.trans (k_i1eq rfl rfl) ?_
  refine ifc ?_ ?_
  · exact rfl
  · refine Eq.trans (k_ald0 rfl) ?_
    refine Eq.trans (k_ald1 rfl) ?_
    refine Eq.trans (k_ild2 rfl) ?_
    refine Eq.trans (k_bip rfl (by decide)) ?_
    refine Eq.trans (k_i2lt rfl rfl) ?_
    refine ifc ?_ ?_
    · refine Eq.trans (k_con rfl) ?_
      exact rfl
    · refine Eq.trans (k_con rfl) ?_
      refine Eq.trans (k_go rfl rfl) ?_
      exact rfl
theorem b_31_35 {d : Nat} {m : Nat → Nat → Int} {q : Nat → Nat → Option Nat} {w : Option (Nat → Int64)} {v2 v3 s2 : Int} {x : Nat} (hx : iFan x)  : gv d rR31 35 [some (.ref x), some (.ref 101), some (.int (iI v2)), some (.int (iI v3))] [.int (iI s2), .ref 101, .ref x] (mk m q w) =
    rBd (ev d 30 [.ref x, .ref 101, .int (iI s2)] (mk m q w)) (fun v M' => gv d rR31 38 [some (.ref x), some (.ref 101), some (.int (iI v2)), some (.int (iI v3))] (v.toList ++ []) M') := by
  exact k_cV2 rfl (fan_0 hx) q_30 rfl rfl rfl (bl rfl)
theorem b_31_38 {d : Nat} {m : Nat → Nat → Int} {q : Nat → Nat → Option Nat} {w : Option (Nat → Int64)} {v2 v3 : Int} {x : Nat} (hx : iFan x)  : gv d rR31 38 [some (.ref x), some (.ref 101), some (.int (iI v2)), some (.int (iI v3))] [] (mk m q w) =
    rBd (ev d 9 [.ref 101, .int (iI 59)] (mk m q w)) (fun v M' => gv d rR31 44 [some (.ref x), some (.ref 101), some (.int (iI v2)), some (.int (iI v3))] (v.toList ++ []) M') := by
  refine Eq.trans (k_ald1 rfl) ?_
  refine Eq.trans (k_bip rfl (by decide)) ?_
  exact k_cV1 rfl s_101 q_9 rfl rfl rfl (bl rfl)
theorem b_31_44 {d : Nat} {m : Nat → Nat → Int} {q : Nat → Nat → Option Nat} {w : Option (Nat → Int64)} {v2 v3 : Int} {x : Nat} (hx : iFan x)  : gv d rR31 44 [some (.ref x), some (.ref 101), some (.int (iI v2)), some (.int (iI v3))] [] (mk m q w) =
    gv d rR31 8 [some (.ref x), some (.ref 101), some (.int (iI (v2 + 1))), some (.int (iI (v3 + 1)))] [] (mk m q w) := by
  refine Eq.trans (k_inc2 rfl) ?_
  refine Eq.trans (k_inc3 rfl) ?_
  refine Eq.trans (k_go rfl rfl) ?_
  exact rfl
theorem b_31_53 {d : Nat} {m : Nat → Nat → Int} {q : Nat → Nat → Option Nat} {w : Option (Nat → Int64)} {u0 u1 u2 u3 : Option Value}   : gv d rR31 53 [u0, u1, u2, u3] [] (mk m q w) =
    some (.inl none, (mk m q w, (0, 0))) := by
  exact k_rtV rfl rfl
theorem e_31 {d : Nat} (hd : 1 ≤ d) {a0 a1 : Value} (M : rMem) (h0 : a0.category = 1) (h1 : a1.category = 1) : ev d 31 [a0, a1] M = gv (d - 1) rR31 0 [some a0, some a1, none, none] [] M := ev_at hd q_31 rfl (by simp [*]) rfl
/-! FanHouse$Fan.placeOf(I)I -/
theorem b_32_0 {d : Nat} {m : Nat → Nat → Int} {q : Nat → Nat → Option Nat} {w : Option (Nat → Int64)} {u2 : Option Value} {v1 : Int} {x : Nat} (hx : iFan x)  : gv d rR32 0 [some (.ref x), some (.int (iI v1)), u2] [] (mk m q w) =
    gv d rR32 2 [some (.ref x), some (.int (iI v1)), some (.int (iI 0))] [] (mk m q w) := by
  refine Eq.trans (k_con rfl) ?_
  refine Eq.trans (k_ist2 rfl) ?_
  exact rfl
theorem b_32_2 {d : Nat} {m : Nat → Nat → Int} {q : Nat → Nat → Option Nat} {w : Option (Nat → Int64)} {v1 v2 : Int} {x : Nat} (hx : iFan x)  : gv d rR32 2 [some (.ref x), some (.int (iI v1)), some (.int (iI v2))] [] (mk m q w) =
    if iI v2 < iI (m x 0) then (gv d rR32 10 [some (.ref x), some (.int (iI v1)), some (.int (iI v2))] [] (mk m q w)) else (some (.inl (some (.int (iI (-1)))), (mk m q w, (0, 0)))) := by
  refine Eq.trans (k_ild2 rfl) ?_
  refine Eq.trans (k_ald0 rfl) ?_
  refine Eq.trans (k_gtI rfl (fan_0 hx) rfl (by decide)) ?_
  refine Eq.trans (k_i2ge rfl rfl) ?_
  refine ifc ?_ ?_
  · exact rfl
  · refine Eq.trans (k_con rfl) ?_
    exact k_rtI rfl rfl
theorem b_32_10 {d : Nat} {m : Nat → Nat → Int} {q : Nat → Nat → Option Nat} {w : Option (Nat → Int64)} {v1 v2 : Int} {x : Nat} (hx : iFan x) (g0 : 0 ≤ v2) (g1 : v2 < 7) : gv d rR32 10 [some (.ref x), some (.int (iI v1)), some (.int (iI v2))] [] (mk m q w) =
    if iI (m (x + 1) (Int.toNat v2)) = iI v1 then (some (.inl (some (.int (iI v2))), (mk m q w, (0, 0)))) else (gv d rR32 2 [some (.ref x), some (.int (iI v1)), some (.int (iI (v2 + 1)))] [] (mk m q w)) := by
  refine Eq.trans (k_ald0 rfl) ?_
  refine Eq.trans (k_gtR rfl (fan_0 hx) rfl (by decide)) ?_
  refine Eq.trans (k_ild2 rfl) ?_
  refine Eq.trans (k_iald rfl (fan_1 hx) (bl rfl) g0 g1) ?_
  refine Eq.trans (k_ild1 rfl) ?_
  refine Eq.trans (k_i2ne rfl rfl) ?_
  refine ifc ?_ ?_
  · refine Eq.trans (k_ild2 rfl) ?_
    exact k_rtI rfl rfl
  · refine Eq.trans (k_inc2 rfl) ?_
    refine Eq.trans (k_go rfl rfl) ?_
    exact rfl
theorem e_32 {d : Nat} (hd : 1 ≤ d) {a0 a1 : Value} (M : rMem) (h0 : a0.category = 1) (h1 : a1.category = 1) : ev d 32 [a0, a1] M = gv (d - 1) rR32 0 [some a0, some a1, none] [] M := ev_at hd q_32 rfl (by simp [*]) rfl
/-! FanHouse$Fan.isStick(I)Z -/
theorem b_33_0 {d : Nat} {m : Nat → Nat → Int} {q : Nat → Nat → Option Nat} {w : Option (Nat → Int64)} {v1 : Int} {x : Nat} (hx : iFan x)  : gv d rR33 0 [some (.ref x), some (.int (iI v1))] [] (mk m q w) =
    rBd (ev d 6 [.int (iI v1), .int (iI 0), .int (iI ((m x 0) - 1))] (mk m q w)) (fun v M' => gv d rR33 11 [some (.ref x), some (.int (iI v1))] (v.toList ++ []) M') := by
  refine Eq.trans (k_ild1 rfl) ?_
  refine Eq.trans (k_con rfl) ?_
  refine Eq.trans (k_ald0 rfl) ?_
  refine Eq.trans (k_gtI rfl (fan_0 hx) rfl (by decide)) ?_
  refine Eq.trans (k_con rfl) ?_
  refine Eq.trans (k_sub rfl) ?_
  exact k_cS3 rfl (by decide) q_6 rfl rfl (bl rfl)
theorem b_33_11 {d : Nat} {m : Nat → Nat → Int} {q : Nat → Nat → Option Nat} {w : Option (Nat → Int64)} {u0 u1 : Option Value} {s0 : Int}  (g0 : iI s0 = iI 0 ∨ iI s0 = iI 1) : gv d rR33 11 [u0, u1] [.int (iI s0)] (mk m q w) =
    some (.inl (some (.int (iI s0))), (mk m q w, (0, 0))) := by
  exact k_rtZ rfl rfl g0
theorem e_33 {d : Nat} (hd : 1 ≤ d) {a0 a1 : Value} (M : rMem) (h0 : a0.category = 1) (h1 : a1.category = 1) : ev d 33 [a0, a1] M = gv (d - 1) rR33 0 [some a0, some a1] [] M := ev_at hd q_33 rfl (by simp [*]) rfl
/-! FanHouse$Fan.readsAlike(I)Z -/
theorem b_34_0 {d : Nat} {m : Nat → Nat → Int} {q : Nat → Nat → Option Nat} {w : Option (Nat → Int64)} {u2 : Option Value} {v1 : Int} {x : Nat} (hx : iFan x)  : gv d rR34 0 [some (.ref x), some (.int (iI v1)), u2] [] (mk m q w) =
    gv d rR34 2 [some (.ref x), some (.int (iI v1)), some (.int (iI 0))] [] (mk m q w) := by
  refine Eq.trans (k_con rfl) ?_
  refine Eq.trans (k_ist2 rfl) ?_
  exact rfl
theorem b_34_2 {d : Nat} {m : Nat → Nat → Int} {q : Nat → Nat → Option Nat} {w : Option (Nat → Int64)} {v1 v2 : Int} {x : Nat} (hx : iFan x)  : gv d rR34 2 [some (.ref x), some (.int (iI v1)), some (.int (iI v2))] [] (mk m q w) =
    if iI v2 < iI (zDiv (m x 0) 2) then (rBd (ev d 19 [.ref x, .int (iI v1), .int (iI v2)] (mk m q w)) (fun v M' => gv d rR34 18 [some (.ref x), some (.int (iI v1)), some (.int (iI v2))] (v.toList ++ []) M')) else (some (.inl (some (.int (iI 1))), (mk m q w, (0, 0)))) := by
  refine Eq.trans (k_ild2 rfl) ?_
  refine Eq.trans (k_ald0 rfl) ?_
  refine Eq.trans (k_gtI rfl (fan_0 hx) rfl (by decide)) ?_
  refine Eq.trans (k_con rfl) ?_
  refine Eq.trans (k_div rfl (by decide)) ?_
  refine Eq.trans (k_i2ge rfl rfl) ?_
  refine ifc ?_ ?_
  · refine Eq.trans (k_ald0 rfl) ?_
    refine Eq.trans (k_ild1 rfl) ?_
    refine Eq.trans (k_ild2 rfl) ?_
    exact k_cV2 rfl (fan_0 hx) q_19 rfl rfl rfl (bl rfl)
  · refine Eq.trans (k_con rfl) ?_
    exact k_rtZ rfl rfl (Or.inr rfl)
theorem b_34_18 {d : Nat} {m : Nat → Nat → Int} {q : Nat → Nat → Option Nat} {w : Option (Nat → Int64)} {v1 v2 s0 : Int} {x : Nat} (hx : iFan x)  : gv d rR34 18 [some (.ref x), some (.int (iI v1)), some (.int (iI v2))] [.int (iI s0)] (mk m q w) =
    rBd (ev d 19 [.ref x, .int (iI v1), .int (iI (((m x 0) - 1) - v2))] (mk m q w)) (fun v M' => gv d rR34 31 [some (.ref x), some (.int (iI v1)), some (.int (iI v2))] (v.toList ++ [.int (iI s0)]) M') := by
  refine Eq.trans (k_ald0 rfl) ?_
  refine Eq.trans (k_ild1 rfl) ?_
  refine Eq.trans (k_ald0 rfl) ?_
  refine Eq.trans (k_gtI rfl (fan_0 hx) rfl (by decide)) ?_
  refine Eq.trans (k_con rfl) ?_
  refine Eq.trans (k_sub rfl) ?_
  refine Eq.trans (k_ild2 rfl) ?_
  refine Eq.trans (k_sub rfl) ?_
  exact k_cV2 rfl (fan_0 hx) q_19 rfl rfl rfl (bl rfl)
theorem b_34_31 {d : Nat} {m : Nat → Nat → Int} {q : Nat → Nat → Option Nat} {w : Option (Nat → Int64)} {v1 v2 s0 s1 : Int} {x : Nat} (hx : iFan x)  : gv d rR34 31 [some (.ref x), some (.int (iI v1)), some (.int (iI v2))] [.int (iI s1), .int (iI s0)] (mk m q w) =
    if iI s0 = iI s1 then (gv d rR34 2 [some (.ref x), some (.int (iI v1)), some (.int (iI (v2 + 1)))] [] (mk m q w)) else (some (.inl (some (.int (iI 0))), (mk m q w, (0, 0)))) := by
  refine Eq.trans (k_i2eq rfl rfl) ?_
  refine ifc ?_ ?_
  · refine Eq.trans (k_inc2 rfl) ?_
    refine Eq.trans (k_go rfl rfl) ?_
    exact rfl
  · refine Eq.trans (k_con rfl) ?_
    exact k_rtZ rfl rfl (Or.inl rfl)
theorem e_34 {d : Nat} (hd : 1 ≤ d) {a0 a1 : Value} (M : rMem) (h0 : a0.category = 1) (h1 : a1.category = 1) : ev d 34 [a0, a1] M = gv (d - 1) rR34 0 [some a0, some a1, none] [] M := ev_at hd q_34 rfl (by simp [*]) rfl
/-! FanHouse$Fan.liesAlike(II)Z -/
theorem b_35_0 {d : Nat} {m : Nat → Nat → Int} {q : Nat → Nat → Option Nat} {w : Option (Nat → Int64)} {u3 : Option Value} {v1 v2 : Int} {x : Nat} (hx : iFan x)  : gv d rR35 0 [some (.ref x), some (.int (iI v1)), some (.int (iI v2)), u3] [] (mk m q w) =
    gv d rR35 2 [some (.ref x), some (.int (iI v1)), some (.int (iI v2)), some (.int (iI 0))] [] (mk m q w) := by
  refine Eq.trans (k_con rfl) ?_
  refine Eq.trans (k_ist3 rfl) ?_
  exact rfl
theorem b_35_2 {d : Nat} {m : Nat → Nat → Int} {q : Nat → Nat → Option Nat} {w : Option (Nat → Int64)} {v1 v2 v3 : Int} {x : Nat} (hx : iFan x)  : gv d rR35 2 [some (.ref x), some (.int (iI v1)), some (.int (iI v2)), some (.int (iI v3))] [] (mk m q w) =
    if iI v3 < iI 4 then (rBd (ev d 18 [.ref x, .int (iI v1), .int (iI v3)] (mk m q w)) (fun v M' => gv d rR35 13 [some (.ref x), some (.int (iI v1)), some (.int (iI v2)), some (.int (iI v3))] (v.toList ++ []) M')) else (some (.inl (some (.int (iI 1))), (mk m q w, (0, 0)))) := by
  refine Eq.trans (k_ild3 rfl) ?_
  refine Eq.trans (k_con rfl) ?_
  refine Eq.trans (k_i2ge rfl rfl) ?_
  refine ifc ?_ ?_
  · refine Eq.trans (k_ald0 rfl) ?_
    refine Eq.trans (k_ild1 rfl) ?_
    refine Eq.trans (k_ild3 rfl) ?_
    exact k_cV2 rfl (fan_0 hx) q_18 rfl rfl rfl (bl rfl)
  · refine Eq.trans (k_con rfl) ?_
    exact k_rtZ rfl rfl (Or.inr rfl)
theorem b_35_13 {d : Nat} {m : Nat → Nat → Int} {q : Nat → Nat → Option Nat} {w : Option (Nat → Int64)} {v1 v2 v3 s0 : Int} {x : Nat} (hx : iFan x)  : gv d rR35 13 [some (.ref x), some (.int (iI v1)), some (.int (iI v2)), some (.int (iI v3))] [.int (iI s0)] (mk m q w) =
    rBd (ev d 18 [.ref x, .int (iI v2), .int (iI v3)] (mk m q w)) (fun v M' => gv d rR35 19 [some (.ref x), some (.int (iI v1)), some (.int (iI v2)), some (.int (iI v3))] (v.toList ++ [.int (iI s0)]) M') := by
  refine Eq.trans (k_ald0 rfl) ?_
  refine Eq.trans (k_ild2 rfl) ?_
  refine Eq.trans (k_ild3 rfl) ?_
  exact k_cV2 rfl (fan_0 hx) q_18 rfl rfl rfl (bl rfl)
theorem b_35_19 {d : Nat} {m : Nat → Nat → Int} {q : Nat → Nat → Option Nat} {w : Option (Nat → Int64)} {v1 v2 v3 s0 s1 : Int} {x : Nat} (hx : iFan x)  : gv d rR35 19 [some (.ref x), some (.int (iI v1)), some (.int (iI v2)), some (.int (iI v3))] [.int (iI s1), .int (iI s0)] (mk m q w) =
    if iI s0 = iI s1 then (gv d rR35 2 [some (.ref x), some (.int (iI v1)), some (.int (iI v2)), some (.int (iI (v3 + 1)))] [] (mk m q w)) else (some (.inl (some (.int (iI 0))), (mk m q w, (0, 0)))) := by
  refine Eq.trans (k_i2eq rfl rfl) ?_
  refine ifc ?_ ?_
  · refine Eq.trans (k_inc3 rfl) ?_
    refine Eq.trans (k_go rfl rfl) ?_
    exact rfl
  · refine Eq.trans (k_con rfl) ?_
    exact k_rtZ rfl rfl (Or.inl rfl)
theorem e_35 {d : Nat} (hd : 1 ≤ d) {a0 a1 a2 : Value} (M : rMem) (h0 : a0.category = 1) (h1 : a1.category = 1) (h2 : a2.category = 1) : ev d 35 [a0, a1, a2] M = gv (d - 1) rR35 0 [some a0, some a1, some a2, none] [] M := ev_at hd q_35 rfl (by simp [*]) rfl
/-! FanHouse$Fan.twinsOf(I)I -/
theorem b_36_0 {d : Nat} {m : Nat → Nat → Int} {q : Nat → Nat → Option Nat} {w : Option (Nat → Int64)} {u2 u3 : Option Value} {v1 : Int} {x : Nat} (hx : iFan x)  : gv d rR36 0 [some (.ref x), some (.int (iI v1)), u2, u3] [] (mk m q w) =
    gv d rR36 4 [some (.ref x), some (.int (iI v1)), some (.int (iI 0)), some (.int (iI 0))] [] (mk m q w) := by
  refine Eq.trans (k_con rfl) ?_
  refine Eq.trans (k_ist2 rfl) ?_
  refine Eq.trans (k_con rfl) ?_
  refine Eq.trans (k_ist3 rfl) ?_
  exact rfl
theorem b_36_4 {d : Nat} {m : Nat → Nat → Int} {q : Nat → Nat → Option Nat} {w : Option (Nat → Int64)} {v1 v2 v3 : Int} {x : Nat} (hx : iFan x)  : gv d rR36 4 [some (.ref x), some (.int (iI v1)), some (.int (iI v2)), some (.int (iI v3))] [] (mk m q w) =
    if iI v3 < iI (m x 0) then (if iI v3 = iI v1 then (gv d rR36 32 [some (.ref x), some (.int (iI v1)), some (.int (iI v2)), some (.int (iI v3))] [] (mk m q w)) else (rBd (ev d 35 [.ref x, .int (iI v1), .int (iI v3)] (mk m q w)) (fun v M' => gv d rR36 23 [some (.ref x), some (.int (iI v1)), some (.int (iI v2)), some (.int (iI v3))] (v.toList ++ []) M'))) else (some (.inl (some (.int (iI v2))), (mk m q w, (0, 0)))) := by
  refine Eq.trans (k_ild3 rfl) ?_
  refine Eq.trans (k_ald0 rfl) ?_
  refine Eq.trans (k_gtI rfl (fan_0 hx) rfl (by decide)) ?_
  refine Eq.trans (k_i2ge rfl rfl) ?_
  refine ifc ?_ ?_
  · refine Eq.trans (k_ild3 rfl) ?_
    refine Eq.trans (k_ild1 rfl) ?_
    refine Eq.trans (k_i2eq rfl rfl) ?_
    refine ifc ?_ ?_
    · exact rfl
    · refine Eq.trans (k_ald0 rfl) ?_
      refine Eq.trans (k_ild1 rfl) ?_
      refine Eq.trans (k_ild3 rfl) ?_
      exact k_cV2 rfl (fan_0 hx) q_35 rfl rfl rfl (bl rfl)
  · refine Eq.trans (k_ild2 rfl) ?_
    exact k_rtI rfl rfl
theorem b_36_23 {d : Nat} {m : Nat → Nat → Int} {q : Nat → Nat → Option Nat} {w : Option (Nat → Int64)} {v1 v2 v3 s0 : Int} {x : Nat} (hx : iFan x)  : gv d rR36 23 [some (.ref x), some (.int (iI v1)), some (.int (iI v2)), some (.int (iI v3))] [.int (iI s0)] (mk m q w) =
    if iI s0 = iI 0 then (gv d rR36 32 [some (.ref x), some (.int (iI v1)), some (.int (iI v2)), some (.int (iI v3))] [] (mk m q w)) else (gv d rR36 32 [some (.ref x), some (.int (iI v1)), some (.int (iI (zOr v2 (zShl 1 v3)))), some (.int (iI v3))] [] (mk m q w)) := by
  refine Eq.trans (k_i1eq rfl rfl) ?_
  refine ifc ?_ ?_
  · exact rfl
  · refine Eq.trans (k_ild2 rfl) ?_
    refine Eq.trans (k_con rfl) ?_
    refine Eq.trans (k_ild3 rfl) ?_
    refine Eq.trans (k_shl rfl) ?_
    refine Eq.trans (k_ior rfl) ?_
    refine Eq.trans (k_ist2 rfl) ?_
    exact rfl
theorem b_36_32 {d : Nat} {m : Nat → Nat → Int} {q : Nat → Nat → Option Nat} {w : Option (Nat → Int64)} {v1 v2 v3 : Int} {x : Nat} (hx : iFan x)  : gv d rR36 32 [some (.ref x), some (.int (iI v1)), some (.int (iI v2)), some (.int (iI v3))] [] (mk m q w) =
    gv d rR36 4 [some (.ref x), some (.int (iI v1)), some (.int (iI v2)), some (.int (iI (v3 + 1)))] [] (mk m q w) := by
  refine Eq.trans (k_inc3 rfl) ?_
  refine Eq.trans (k_go rfl rfl) ?_
  exact rfl
theorem e_36 {d : Nat} (hd : 1 ≤ d) {a0 a1 : Value} (M : rMem) (h0 : a0.category = 1) (h1 : a1.category = 1) : ev d 36 [a0, a1] M = gv (d - 1) rR36 0 [some a0, some a1, none, none] [] M := ev_at hd q_36 rfl (by simp [*]) rfl
/-! FanHouse$Law.tellOpening(II)V -/
theorem b_37_0 {d : Nat} {m : Nat → Nat → Int} {q : Nat → Nat → Option Nat} {w : Option (Nat → Int64)} {v1 v2 : Int} {x : Nat} (hx : iLaw x)  : gv d rR37 0 [some (.ref x), some (.int (iI v1)), some (.int (iI v2))] [] (mk m q w) =
    some (.inl none, (mk (wr (wr m (x + 3) 0 v1) (x + 3) 1 v2) q w, (0, 0))) := by
  refine Eq.trans (k_ald0 rfl) ?_
  refine Eq.trans (k_gtR rfl (law_0 hx) rfl (by decide)) ?_
  refine Eq.trans (k_con rfl) ?_
  refine Eq.trans (k_ild1 rfl) ?_
  refine Eq.trans (k_iast rfl (law_3 hx) (bl rfl) (by decide) (by decide)) ?_
  refine Eq.trans (k_ald0 rfl) ?_
  refine Eq.trans (k_gtR rfl (law_0 hx) rfl (by decide)) ?_
  refine Eq.trans (k_con rfl) ?_
  refine Eq.trans (k_ild2 rfl) ?_
  refine Eq.trans (k_iast rfl (law_3 hx) (bl rfl) (by decide) (by decide)) ?_
  exact k_rtV rfl rfl
theorem e_37 {d : Nat} (hd : 1 ≤ d) {a0 a1 a2 : Value} (M : rMem) (h0 : a0.category = 1) (h1 : a1.category = 1) (h2 : a2.category = 1) : ev d 37 [a0, a1, a2] M = gv (d - 1) rR37 0 [some a0, some a1, some a2] [] M := ev_at hd q_37 rfl (by simp [*]) rfl
/-! java/lang/Integer.bitCount(I)I -/
theorem b_38_0 {d : Nat} {m : Nat → Nat → Int} {q : Nat → Nat → Option Nat} {w : Option (Nat → Int64)} {v0 : Int}   : gv d rR38 0 [some (.int (iI v0))] [] (mk m q w) =
    some (.inl (some (.int (iI (zAnd (((zAnd (((zAnd (v0 - (zAnd (zUsh v0 1) (((1431655765 : Nat) : Int)))) (((858993459 : Nat) : Int))) + (zAnd (zUsh (v0 - (zAnd (zUsh v0 1) (((1431655765 : Nat) : Int)))) 2) (((858993459 : Nat) : Int)))) + (zUsh ((zAnd (v0 - (zAnd (zUsh v0 1) (((1431655765 : Nat) : Int)))) (((858993459 : Nat) : Int))) + (zAnd (zUsh (v0 - (zAnd (zUsh v0 1) (((1431655765 : Nat) : Int)))) 2) (((858993459 : Nat) : Int)))) 4)) (((252645135 : Nat) : Int))) + (zUsh (zAnd (((zAnd (v0 - (zAnd (zUsh v0 1) (((1431655765 : Nat) : Int)))) (((858993459 : Nat) : Int))) + (zAnd (zUsh (v0 - (zAnd (zUsh v0 1) (((1431655765 : Nat) : Int)))) 2) (((858993459 : Nat) : Int)))) + (zUsh ((zAnd (v0 - (zAnd (zUsh v0 1) (((1431655765 : Nat) : Int)))) (((858993459 : Nat) : Int))) + (zAnd (zUsh (v0 - (zAnd (zUsh v0 1) (((1431655765 : Nat) : Int)))) 2) (((858993459 : Nat) : Int)))) 4)) (((252645135 : Nat) : Int))) 8)) + (zUsh ((zAnd (((zAnd (v0 - (zAnd (zUsh v0 1) (((1431655765 : Nat) : Int)))) (((858993459 : Nat) : Int))) + (zAnd (zUsh (v0 - (zAnd (zUsh v0 1) (((1431655765 : Nat) : Int)))) 2) (((858993459 : Nat) : Int)))) + (zUsh ((zAnd (v0 - (zAnd (zUsh v0 1) (((1431655765 : Nat) : Int)))) (((858993459 : Nat) : Int))) + (zAnd (zUsh (v0 - (zAnd (zUsh v0 1) (((1431655765 : Nat) : Int)))) 2) (((858993459 : Nat) : Int)))) 4)) (((252645135 : Nat) : Int))) + (zUsh (zAnd (((zAnd (v0 - (zAnd (zUsh v0 1) (((1431655765 : Nat) : Int)))) (((858993459 : Nat) : Int))) + (zAnd (zUsh (v0 - (zAnd (zUsh v0 1) (((1431655765 : Nat) : Int)))) 2) (((858993459 : Nat) : Int)))) + (zUsh ((zAnd (v0 - (zAnd (zUsh v0 1) (((1431655765 : Nat) : Int)))) (((858993459 : Nat) : Int))) + (zAnd (zUsh (v0 - (zAnd (zUsh v0 1) (((1431655765 : Nat) : Int)))) 2) (((858993459 : Nat) : Int)))) 4)) (((252645135 : Nat) : Int))) 8)) 16)) 63)))), (mk m q w, (0, 0))) := by
  refine Eq.trans (k_ild0 rfl) ?_
  refine Eq.trans (k_ild0 rfl) ?_
  refine Eq.trans (k_con rfl) ?_
  refine Eq.trans (k_ush rfl) ?_
  refine Eq.trans (k_ldwi rfl) ?_
  refine Eq.trans (k_and rfl) ?_
  refine Eq.trans (k_sub rfl) ?_
  refine Eq.trans (k_ist0 rfl) ?_
  refine Eq.trans (k_ild0 rfl) ?_
  refine Eq.trans (k_ldwi rfl) ?_
  refine Eq.trans (k_and rfl) ?_
  refine Eq.trans (k_ild0 rfl) ?_
  refine Eq.trans (k_con rfl) ?_
  refine Eq.trans (k_ush rfl) ?_
  refine Eq.trans (k_ldwi rfl) ?_
  refine Eq.trans (k_and rfl) ?_
  refine Eq.trans (k_add rfl) ?_
  refine Eq.trans (k_ist0 rfl) ?_
  refine Eq.trans (k_ild0 rfl) ?_
  refine Eq.trans (k_ild0 rfl) ?_
  refine Eq.trans (k_con rfl) ?_
  refine Eq.trans (k_ush rfl) ?_
  refine Eq.trans (k_add rfl) ?_
  refine Eq.trans (k_ldwi rfl) ?_
  refine Eq.trans (k_and rfl) ?_
  refine Eq.trans (k_ist0 rfl) ?_
  refine Eq.trans (k_ild0 rfl) ?_
  refine Eq.trans (k_ild0 rfl) ?_
  refine Eq.trans (k_bip rfl (by decide)) ?_
  refine Eq.trans (k_ush rfl) ?_
  refine Eq.trans (k_add rfl) ?_
  refine Eq.trans (k_ist0 rfl) ?_
  refine Eq.trans (k_ild0 rfl) ?_
  refine Eq.trans (k_ild0 rfl) ?_
  refine Eq.trans (k_bip rfl (by decide)) ?_
  refine Eq.trans (k_ush rfl) ?_
  refine Eq.trans (k_add rfl) ?_
  refine Eq.trans (k_ist0 rfl) ?_
  refine Eq.trans (k_ild0 rfl) ?_
  refine Eq.trans (k_bip rfl (by decide)) ?_
  refine Eq.trans (k_and rfl) ?_
  exact k_rtI rfl rfl
theorem e_38 {d : Nat} (hd : 1 ≤ d) {a0 : Value} (M : rMem) (h0 : a0.category = 1) : ev d 38 [a0] M = gv (d - 1) rR38 0 [some a0] [] M := ev_at hd q_38 rfl (by simp [*]) rfl
/-! FanHouse$Law.tellState(IIIII)V -/
theorem b_39_0 {d : Nat} {m : Nat → Nat → Int} {q : Nat → Nat → Option Nat} {w : Option (Nat → Int64)} {v1 v2 v3 v4 v5 : Int} {x : Nat} (hx : iLaw x)  : gv d rR39 0 [some (.ref x), some (.int (iI v1)), some (.int (iI v2)), some (.int (iI v3)), some (.int (iI v4)), some (.int (iI v5))] [] (mk m q w) =
    some (.inl none, (mk (wr (wr (wr (wr (wr m (x + 3) 2 v1) (x + 3) 3 v2) (x + 3) 4 v3) (x + 3) 5 v4) (x + 3) 6 v5) q w, (0, 0))) := by
  refine Eq.trans (k_ald0 rfl) ?_
  refine Eq.trans (k_gtR rfl (law_0 hx) rfl (by decide)) ?_
  refine Eq.trans (k_con rfl) ?_
  refine Eq.trans (k_ild1 rfl) ?_
  refine Eq.trans (k_iast rfl (law_3 hx) (bl rfl) (by decide) (by decide)) ?_
  refine Eq.trans (k_ald0 rfl) ?_
  refine Eq.trans (k_gtR rfl (law_0 hx) rfl (by decide)) ?_
  refine Eq.trans (k_con rfl) ?_
  refine Eq.trans (k_ild2 rfl) ?_
  refine Eq.trans (k_iast rfl (law_3 hx) (bl rfl) (by decide) (by decide)) ?_
  refine Eq.trans (k_ald0 rfl) ?_
  refine Eq.trans (k_gtR rfl (law_0 hx) rfl (by decide)) ?_
  refine Eq.trans (k_con rfl) ?_
  refine Eq.trans (k_ild3 rfl) ?_
  refine Eq.trans (k_iast rfl (law_3 hx) (bl rfl) (by decide) (by decide)) ?_
  refine Eq.trans (k_ald0 rfl) ?_
  refine Eq.trans (k_gtR rfl (law_0 hx) rfl (by decide)) ?_
  refine Eq.trans (k_con rfl) ?_
  refine Eq.trans (k_ild4 rfl) ?_
  refine Eq.trans (k_iast rfl (law_3 hx) (bl rfl) (by decide) (by decide)) ?_
  refine Eq.trans (k_ald0 rfl) ?_
  refine Eq.trans (k_gtR rfl (law_0 hx) rfl (by decide)) ?_
  refine Eq.trans (k_bip rfl (by decide)) ?_
  refine Eq.trans (k_ild5 rfl) ?_
  refine Eq.trans (k_iast rfl (law_3 hx) (bl rfl) (by decide) (by decide)) ?_
  exact k_rtV rfl rfl
theorem e_39 {d : Nat} (hd : 1 ≤ d) {a0 a1 a2 a3 a4 a5 : Value} (M : rMem) (h0 : a0.category = 1) (h1 : a1.category = 1) (h2 : a2.category = 1) (h3 : a3.category = 1) (h4 : a4.category = 1) (h5 : a5.category = 1) : ev d 39 [a0, a1, a2, a3, a4, a5] M = gv (d - 1) rR39 0 [some a0, some a1, some a2, some a3, some a4, some a5] [] M := ev_at hd q_39 rfl (by simp [*]) rfl
/-! FanHouse$Law.join(III)I -/
theorem b_40_0 {d : Nat} {m : Nat → Nat → Int} {q : Nat → Nat → Option Nat} {w : Option (Nat → Int64)} {v0 v1 v2 : Int}   : gv d rR40 0 [some (.int (iI v0)), some (.int (iI v1)), some (.int (iI v2))] [] (mk m q w) =
    gv d rR40 1 [some (.int (iI v0)), some (.int (iI v1)), some (.int (iI v2))] [.int (iI v0)] (mk m q w) := by
  refine Eq.trans (k_ild0 rfl) ?_
  exact rfl
theorem b_40_1_0 {d : Nat} {m : Nat → Nat → Int} {q : Nat → Nat → Option Nat} {w : Option (Nat → Int64)} {u0 : Option Value} {v1 v2 : Int}  : gv d rR40 1 [u0, some (.int (iI v1)), some (.int (iI v2))] [.int (iI ((-16)))] (mk m q w) = gv d rR40 76 [u0, some (.int (iI v1)), some (.int (iI v2))] [] (mk m q w) := k_tsw rfl (by decide) (by decide) rfl rfl
theorem b_40_1_1 {d : Nat} {m : Nat → Nat → Int} {q : Nat → Nat → Option Nat} {w : Option (Nat → Int64)} {u0 : Option Value} {v1 v2 : Int}  : gv d rR40 1 [u0, some (.int (iI v1)), some (.int (iI v2))] [.int (iI ((-15)))] (mk m q w) = gv d rR40 64 [u0, some (.int (iI v1)), some (.int (iI v2))] [] (mk m q w) := k_tsw rfl (by decide) (by decide) rfl rfl
theorem b_40_1_2 {d : Nat} {m : Nat → Nat → Int} {q : Nat → Nat → Option Nat} {w : Option (Nat → Int64)} {u0 : Option Value} {v1 v2 : Int}  : gv d rR40 1 [u0, some (.int (iI v1)), some (.int (iI v2))] [.int (iI ((-14)))] (mk m q w) = gv d rR40 52 [u0, some (.int (iI v1)), some (.int (iI v2))] [] (mk m q w) := k_tsw rfl (by decide) (by decide) rfl rfl
theorem b_40_1_3 {d : Nat} {m : Nat → Nat → Int} {q : Nat → Nat → Option Nat} {w : Option (Nat → Int64)} {u0 : Option Value} {v1 v2 : Int}  : gv d rR40 1 [u0, some (.int (iI v1)), some (.int (iI v2))] [.int (iI ((-13)))] (mk m q w) = gv d rR40 48 [u0, some (.int (iI v1)), some (.int (iI v2))] [] (mk m q w) := k_tsw rfl (by decide) (by decide) rfl rfl
theorem b_40_1_4 {d : Nat} {m : Nat → Nat → Int} {q : Nat → Nat → Option Nat} {w : Option (Nat → Int64)} {u0 : Option Value} {v1 v2 : Int}  : gv d rR40 1 [u0, some (.int (iI v1)), some (.int (iI v2))] [.int (iI ((-12)))] (mk m q w) = gv d rR40 44 [u0, some (.int (iI v1)), some (.int (iI v2))] [] (mk m q w) := k_tsw rfl (by decide) (by decide) rfl rfl
theorem b_40_1_5 {d : Nat} {m : Nat → Nat → Int} {q : Nat → Nat → Option Nat} {w : Option (Nat → Int64)} {u0 : Option Value} {v1 v2 : Int}  : gv d rR40 1 [u0, some (.int (iI v1)), some (.int (iI v2))] [.int (iI ((-11)))] (mk m q w) = gv d rR40 40 [u0, some (.int (iI v1)), some (.int (iI v2))] [] (mk m q w) := k_tsw rfl (by decide) (by decide) rfl rfl
theorem b_40_1_d {d : Nat} {m : Nat → Nat → Int} {q : Nat → Nat → Option Nat} {w : Option (Nat → Int64)} {u0 : Option Value} {v1 v2 s0 : Int}  (g0 : i32 s0) (g1 : s0 < -16 ∨ -11 < s0) : gv d rR40 1 [u0, some (.int (iI v1)), some (.int (iI v2))] [.int (iI s0)] (mk m q w) = gv d rR40 82 [u0, some (.int (iI v1)), some (.int (iI v2))] [] (mk m q w) := k_tsd rfl g0 g1 rfl
theorem b_40_40 {d : Nat} {m : Nat → Nat → Int} {q : Nat → Nat → Option Nat} {w : Option (Nat → Int64)} {u0 : Option Value} {v1 v2 : Int}   : gv d rR40 40 [u0, some (.int (iI v1)), some (.int (iI v2))] [] (mk m q w) =
    some (.inl (some (.int (iI (v1 + v2)))), (mk m q w, (0, 0))) := by
  refine Eq.trans (k_ild1 rfl) ?_
  refine Eq.trans (k_ild2 rfl) ?_
  refine Eq.trans (k_add rfl) ?_
  exact k_rtI rfl rfl
theorem b_40_44 {d : Nat} {m : Nat → Nat → Int} {q : Nat → Nat → Option Nat} {w : Option (Nat → Int64)} {u0 : Option Value} {v1 v2 : Int}   : gv d rR40 44 [u0, some (.int (iI v1)), some (.int (iI v2))] [] (mk m q w) =
    some (.inl (some (.int (iI (v1 - v2)))), (mk m q w, (0, 0))) := by
  refine Eq.trans (k_ild1 rfl) ?_
  refine Eq.trans (k_ild2 rfl) ?_
  refine Eq.trans (k_sub rfl) ?_
  exact k_rtI rfl rfl
theorem b_40_48 {d : Nat} {m : Nat → Nat → Int} {q : Nat → Nat → Option Nat} {w : Option (Nat → Int64)} {u0 : Option Value} {v1 v2 : Int}   : gv d rR40 48 [u0, some (.int (iI v1)), some (.int (iI v2))] [] (mk m q w) =
    some (.inl (some (.int (iI (v1 * v2)))), (mk m q w, (0, 0))) := by
  refine Eq.trans (k_ild1 rfl) ?_
  refine Eq.trans (k_ild2 rfl) ?_
  refine Eq.trans (k_mul rfl) ?_
  exact k_rtI rfl rfl
theorem b_40_52 {d : Nat} {m : Nat → Nat → Int} {q : Nat → Nat → Option Nat} {w : Option (Nat → Int64)} {u0 : Option Value} {v1 v2 : Int}   : gv d rR40 52 [u0, some (.int (iI v1)), some (.int (iI v2))] [] (mk m q w) =
    if iI v2 = iI 0 then (gv d rR40 63 [u0, some (.int (iI v1)), some (.int (iI v2))] [.int (iI 0)] (mk m q w)) else (gv d rR40 60 [u0, some (.int (iI v1)), some (.int (iI v2))] [] (mk m q w)) := by
  refine Eq.trans (k_ild2 rfl) ?_
  refine Eq.trans (k_i1ne rfl rfl) ?_
  refine ifc ?_ ?_
  · refine Eq.trans (k_con rfl) ?_
    refine Eq.trans (k_go rfl rfl) ?_
    exact rfl
  · exact rfl
theorem b_40_60 {d : Nat} {m : Nat → Nat → Int} {q : Nat → Nat → Option Nat} {w : Option (Nat → Int64)} {u0 : Option Value} {v1 v2 : Int}  (g0 : iI v2 ≠ 0) : gv d rR40 60 [u0, some (.int (iI v1)), some (.int (iI v2))] [] (mk m q w) =
    gv d rR40 63 [u0, some (.int (iI v1)), some (.int (iI v2))] [.int (iI (zDiv v1 v2))] (mk m q w) := by
  refine Eq.trans (k_ild1 rfl) ?_
  refine Eq.trans (k_ild2 rfl) ?_
  refine Eq.trans (k_div rfl g0) ?_
  exact rfl
theorem b_40_63 {d : Nat} {m : Nat → Nat → Int} {q : Nat → Nat → Option Nat} {w : Option (Nat → Int64)} {u0 u1 u2 : Option Value} {s0 : Int}   : gv d rR40 63 [u0, u1, u2] [.int (iI s0)] (mk m q w) =
    some (.inl (some (.int (iI s0))), (mk m q w, (0, 0))) := by
  exact k_rtI rfl rfl
theorem b_40_64 {d : Nat} {m : Nat → Nat → Int} {q : Nat → Nat → Option Nat} {w : Option (Nat → Int64)} {u0 : Option Value} {v1 v2 : Int}   : gv d rR40 64 [u0, some (.int (iI v1)), some (.int (iI v2))] [] (mk m q w) =
    if iI v2 = iI 0 then (gv d rR40 75 [u0, some (.int (iI v1)), some (.int (iI v2))] [.int (iI 0)] (mk m q w)) else (gv d rR40 72 [u0, some (.int (iI v1)), some (.int (iI v2))] [] (mk m q w)) := by
  refine Eq.trans (k_ild2 rfl) ?_
  refine Eq.trans (k_i1ne rfl rfl) ?_
  refine ifc ?_ ?_
  · refine Eq.trans (k_con rfl) ?_
    refine Eq.trans (k_go rfl rfl) ?_
    exact rfl
  · exact rfl
theorem b_40_72 {d : Nat} {m : Nat → Nat → Int} {q : Nat → Nat → Option Nat} {w : Option (Nat → Int64)} {u0 : Option Value} {v1 v2 : Int}  (g0 : iI v2 ≠ 0) : gv d rR40 72 [u0, some (.int (iI v1)), some (.int (iI v2))] [] (mk m q w) =
    gv d rR40 75 [u0, some (.int (iI v1)), some (.int (iI v2))] [.int (iI (zRem v1 v2))] (mk m q w) := by
  refine Eq.trans (k_ild1 rfl) ?_
  refine Eq.trans (k_ild2 rfl) ?_
  refine Eq.trans (k_rem rfl g0) ?_
  exact rfl
theorem b_40_75 {d : Nat} {m : Nat → Nat → Int} {q : Nat → Nat → Option Nat} {w : Option (Nat → Int64)} {u0 u1 u2 : Option Value} {s0 : Int}   : gv d rR40 75 [u0, u1, u2] [.int (iI s0)] (mk m q w) =
    some (.inl (some (.int (iI s0))), (mk m q w, (0, 0))) := by
  exact k_rtI rfl rfl
theorem b_40_76 {d : Nat} {m : Nat → Nat → Int} {q : Nat → Nat → Option Nat} {w : Option (Nat → Int64)} {u0 : Option Value} {v1 v2 : Int}  (g0 : 9 ≤ d) : gv d rR40 76 [u0, some (.int (iI v1)), some (.int (iI v2))] [] (mk m q w) =
    some (.inl (some (.int (iI (if iI v2 < iI v1 then v2 else v1)))), (mk m q w, (0, 0))) := by
  refine Eq.trans (k_ild1 rfl) ?_
  refine Eq.trans (k_ild2 rfl) ?_
  refine Eq.trans (k_min rfl g0 (bl rfl)) ?_
  exact k_rtI rfl rfl
theorem b_40_82 {d : Nat} {m : Nat → Nat → Int} {q : Nat → Nat → Option Nat} {w : Option (Nat → Int64)} {u0 : Option Value} {v1 v2 : Int}  (g0 : 9 ≤ d) : gv d rR40 82 [u0, some (.int (iI v1)), some (.int (iI v2))] [] (mk m q w) =
    some (.inl (some (.int (iI (if iI v1 < iI v2 then v2 else v1)))), (mk m q w, (0, 0))) := by
  refine Eq.trans (k_ild1 rfl) ?_
  refine Eq.trans (k_ild2 rfl) ?_
  refine Eq.trans (k_max rfl g0 (bl rfl)) ?_
  exact k_rtI rfl rfl
theorem e_40 {d : Nat} (hd : 1 ≤ d) {a0 a1 a2 : Value} (M : rMem) (h0 : a0.category = 1) (h1 : a1.category = 1) (h2 : a2.category = 1) : ev d 40 [a0, a1, a2] M = gv (d - 1) rR40 0 [some a0, some a1, some a2] [] M := ev_at hd q_40 rfl (by simp [*]) rfl
/-! FanHouse$Law.fact(I)I -/
theorem b_41_0 {d : Nat} {m : Nat → Nat → Int} {q : Nat → Nat → Option Nat} {w : Option (Nat → Int64)} {u2 : Option Value} {v1 : Int} {x : Nat} (hx : iLaw x)  : gv d rR41 0 [some (.ref x), some (.int (iI v1)), u2] [] (mk m q w) =
    if iI ((-1) - v1) < iI 0 then (gv d rR41 23 [some (.ref x), some (.int (iI v1)), some (.int (iI ((-1) - v1)))] [] (mk m q w)) else (if iI ((-1) - v1) < iI 7 then (gv d rR41 14 [some (.ref x), some (.int (iI v1)), some (.int (iI ((-1) - v1)))] [] (mk m q w)) else (gv d rR41 23 [some (.ref x), some (.int (iI v1)), some (.int (iI ((-1) - v1)))] [] (mk m q w))) := by
  refine Eq.trans (k_con rfl) ?_
  refine Eq.trans (k_ild1 rfl) ?_
  refine Eq.trans (k_sub rfl) ?_
  refine Eq.trans (k_ist2 rfl) ?_
  refine Eq.trans (k_ild2 rfl) ?_
  refine Eq.trans (k_i1lt rfl rfl) ?_
  refine ifc ?_ ?_
  · exact rfl
  · refine Eq.trans (k_ild2 rfl) ?_
    refine Eq.trans (k_bip rfl (by decide)) ?_
    refine Eq.trans (k_i2ge rfl rfl) ?_
    refine ifc ?_ ?_
    · exact rfl
    · exact rfl
theorem b_41_14 {d : Nat} {m : Nat → Nat → Int} {q : Nat → Nat → Option Nat} {w : Option (Nat → Int64)} {u1 : Option Value} {v2 : Int} {x : Nat} (hx : iLaw x) (g0 : 0 ≤ v2) (g1 : v2 < 7) : gv d rR41 14 [some (.ref x), u1, some (.int (iI v2))] [] (mk m q w) =
    gv d rR41 24 [some (.ref x), u1, some (.int (iI v2))] [.int (iI (m (x + 3) (Int.toNat v2)))] (mk m q w) := by
  refine Eq.trans (k_ald0 rfl) ?_
  refine Eq.trans (k_gtR rfl (law_0 hx) rfl (by decide)) ?_
  refine Eq.trans (k_ild2 rfl) ?_
  refine Eq.trans (k_iald rfl (law_3 hx) (bl rfl) g0 g1) ?_
  refine Eq.trans (k_go rfl rfl) ?_
  exact rfl
theorem b_41_23 {d : Nat} {m : Nat → Nat → Int} {q : Nat → Nat → Option Nat} {w : Option (Nat → Int64)} {u0 u1 u2 : Option Value}   : gv d rR41 23 [u0, u1, u2] [] (mk m q w) =
    gv d rR41 24 [u0, u1, u2] [.int (iI 0)] (mk m q w) := by
  refine Eq.trans (k_con rfl) ?_
  exact rfl
theorem b_41_24 {d : Nat} {m : Nat → Nat → Int} {q : Nat → Nat → Option Nat} {w : Option (Nat → Int64)} {u0 u1 u2 : Option Value} {s0 : Int}   : gv d rR41 24 [u0, u1, u2] [.int (iI s0)] (mk m q w) =
    some (.inl (some (.int (iI s0))), (mk m q w, (0, 0))) := by
  exact k_rtI rfl rfl
theorem e_41 {d : Nat} (hd : 1 ≤ d) {a0 a1 : Value} (M : rMem) (h0 : a0.category = 1) (h1 : a1.category = 1) : ev d 41 [a0, a1] M = gv (d - 1) rR41 0 [some a0, some a1, none] [] M := ev_at hd q_41 rfl (by simp [*]) rfl
/-! FanHouse$Law.strainAsTold()I -/
theorem b_42_0 {d : Nat} {m : Nat → Nat → Int} {q : Nat → Nat → Option Nat} {w : Option (Nat → Int64)} {u1 u2 u3 u4 : Option Value} {x : Nat} (hx : iLaw x)  : gv d rR42 0 [some (.ref x), u1, u2, u3, u4] [] (mk m q w) =
    gv d rR42 4 [some (.ref x), some (.int (iI 0)), some (.int (iI 0)), u3, u4] [] (mk m q w) := by
  refine Eq.trans (k_con rfl) ?_
  refine Eq.trans (k_ist1 rfl) ?_
  refine Eq.trans (k_con rfl) ?_
  refine Eq.trans (k_ist2 rfl) ?_
  exact rfl
theorem b_42_4 {d : Nat} {m : Nat → Nat → Int} {q : Nat → Nat → Option Nat} {w : Option (Nat → Int64)} {u3 u4 : Option Value} {v1 v2 : Int} {x : Nat} (hx : iLaw x) (g0 : 9 ≤ d) : gv d rR42 4 [some (.ref x), some (.int (iI v1)), some (.int (iI v2)), u3, u4] [] (mk m q w) =
    if iI v2 < iI (m x 3) then (gv d rR42 12 [some (.ref x), some (.int (iI v1)), some (.int (iI v2)), u3, u4] [] (mk m q w)) else (some (.inl (some (.int (iI (if iI 0 < iI (if iI 60 < iI (m (x + 2) 0) then 60 else (m (x + 2) 0)) then (if iI 60 < iI (m (x + 2) 0) then 60 else (m (x + 2) 0)) else 0)))), (mk m q w, (0, 0)))) := by
  refine Eq.trans (k_ild2 rfl) ?_
  refine Eq.trans (k_ald0 rfl) ?_
  refine Eq.trans (k_gtI rfl (law_0 hx) rfl (by decide)) ?_
  refine Eq.trans (k_i2ge rfl rfl) ?_
  refine ifc ?_ ?_
  · exact rfl
  · refine Eq.trans (k_con rfl) ?_
    refine Eq.trans (k_ald0 rfl) ?_
    refine Eq.trans (k_gtR rfl (law_0 hx) rfl (by decide)) ?_
    refine Eq.trans (k_con rfl) ?_
    refine Eq.trans (k_iald rfl (law_2 hx) (bl rfl) (by decide) (by decide)) ?_
    refine Eq.trans (k_bip rfl (by decide)) ?_
    refine Eq.trans (k_min rfl g0 (bl rfl)) ?_
    refine Eq.trans (k_max rfl g0 (bl rfl)) ?_
    exact k_rtI rfl rfl
theorem b_42_12 {d : Nat} {m : Nat → Nat → Int} {q : Nat → Nat → Option Nat} {w : Option (Nat → Int64)} {u3 u4 : Option Value} {v1 v2 : Int} {x : Nat} (hx : iLaw x) (g0 : 0 ≤ v2) (g1 : v2 < 150) : gv d rR42 12 [some (.ref x), some (.int (iI v1)), some (.int (iI v2)), u3, u4] [] (mk m q w) =
    if iI (-11) < iI (m (x + 1) (Int.toNat v2)) then (gv d rR42 30 [some (.ref x), some (.int (iI v1)), some (.int (iI v2)), some (.int (iI (m (x + 1) (Int.toNat v2)))), u4] [.int (iI 0)] (mk m q w)) else (gv d rR42 30 [some (.ref x), some (.int (iI v1)), some (.int (iI v2)), some (.int (iI (m (x + 1) (Int.toNat v2)))), u4] [.int (iI 1)] (mk m q w)) := by
  refine Eq.trans (k_ald0 rfl) ?_
  refine Eq.trans (k_gtR rfl (law_0 hx) rfl (by decide)) ?_
  refine Eq.trans (k_ild2 rfl) ?_
  refine Eq.trans (k_iald rfl (law_1 hx) (bl rfl) g0 g1) ?_
  refine Eq.trans (k_ist3 rfl) ?_
  refine Eq.trans (k_ild3 rfl) ?_
  refine Eq.trans (k_bip rfl (by decide)) ?_
  refine Eq.trans (k_i2gt rfl rfl) ?_
  refine ifc ?_ ?_
  · refine Eq.trans (k_con rfl) ?_
    exact rfl
  · refine Eq.trans (k_con rfl) ?_
    refine Eq.trans (k_go rfl rfl) ?_
    exact rfl
theorem b_42_30 {d : Nat} {m : Nat → Nat → Int} {q : Nat → Nat → Option Nat} {w : Option (Nat → Int64)} {u4 : Option Value} {v1 v2 v3 s0 : Int} {x : Nat} (hx : iLaw x)  : gv d rR42 30 [some (.ref x), some (.int (iI v1)), some (.int (iI v2)), some (.int (iI v3)), u4] [.int (iI s0)] (mk m q w) =
    if iI s0 = iI 0 then (gv d rR42 74 [some (.ref x), some (.int (iI v1)), some (.int (iI v2)), some (.int (iI v3)), some (.int (iI s0))] [] (mk m q w)) else (if iI v1 < iI 2 then (gv d rR42 74 [some (.ref x), some (.int (iI v1)), some (.int (iI v2)), some (.int (iI v3)), some (.int (iI s0))] [] (mk m q w)) else (gv d rR42 42 [some (.ref x), some (.int (iI v1)), some (.int (iI v2)), some (.int (iI v3)), some (.int (iI s0))] [] (mk m q w))) := by
  refine Eq.trans (k_ist4 rfl) ?_
  refine Eq.trans (k_ild4 rfl) ?_
  refine Eq.trans (k_i1eq rfl rfl) ?_
  refine ifc ?_ ?_
  · exact rfl
  · refine Eq.trans (k_ild1 rfl) ?_
    refine Eq.trans (k_con rfl) ?_
    refine Eq.trans (k_i2lt rfl rfl) ?_
    refine ifc ?_ ?_
    · exact rfl
    · exact rfl
theorem b_42_42 {d : Nat} {m : Nat → Nat → Int} {q : Nat → Nat → Option Nat} {w : Option (Nat → Int64)} {u4 : Option Value} {v1 v2 v3 : Int} {x : Nat} (hx : iLaw x) (g0 : 0 ≤ ((v1 + (-1)) - 1)) (g1 : ((v1 + (-1)) - 1) < 150) (g2 : 0 ≤ (v1 + (-1))) (g3 : (v1 + (-1)) < 150) : gv d rR42 42 [some (.ref x), some (.int (iI v1)), some (.int (iI v2)), some (.int (iI v3)), u4] [] (mk m q w) =
    rBd (ev d 40 [.int (iI v3), .int (iI (m (x + 2) (Int.toNat ((v1 + (-1)) - 1)))), .int (iI (m (x + 2) (Int.toNat (v1 + (-1)))))] (mk m q w)) (fun v M' => gv d rR42 70 [some (.ref x), some (.int (iI (v1 + (-1)))), some (.int (iI v2)), some (.int (iI v3)), u4] (v.toList ++ [.int (iI ((v1 + (-1)) - 1)), .ref (x + 2)]) M') := by
  refine Eq.trans (k_inc1 rfl) ?_
  refine Eq.trans (k_ald0 rfl) ?_
  refine Eq.trans (k_gtR rfl (law_0 hx) rfl (by decide)) ?_
  refine Eq.trans (k_ild1 rfl) ?_
  refine Eq.trans (k_con rfl) ?_
  refine Eq.trans (k_sub rfl) ?_
  refine Eq.trans (k_ild3 rfl) ?_
  refine Eq.trans (k_ald0 rfl) ?_
  refine Eq.trans (k_gtR rfl (law_0 hx) rfl (by decide)) ?_
  refine Eq.trans (k_ild1 rfl) ?_
  refine Eq.trans (k_con rfl) ?_
  refine Eq.trans (k_sub rfl) ?_
  refine Eq.trans (k_iald rfl (law_2 hx) (bl rfl) g0 g1) ?_
  refine Eq.trans (k_ald0 rfl) ?_
  refine Eq.trans (k_gtR rfl (law_0 hx) rfl (by decide)) ?_
  refine Eq.trans (k_ild1 rfl) ?_
  refine Eq.trans (k_iald rfl (law_2 hx) (bl rfl) g2 g3) ?_
  exact k_cS3 rfl (by decide) q_40 rfl rfl (bl rfl)
theorem b_42_70 {d : Nat} {m : Nat → Nat → Int} {q : Nat → Nat → Option Nat} {w : Option (Nat → Int64)} {u3 u4 : Option Value} {v1 v2 s1 s2 : Int} {x : Nat} (hx : iLaw x) (g0 : 0 ≤ s1) (g1 : s1 < 150) : gv d rR42 70 [some (.ref x), some (.int (iI v1)), some (.int (iI v2)), u3, u4] [.int (iI s2), .int (iI s1), .ref (x + 2)] (mk m q w) =
    gv d rR42 110 [some (.ref x), some (.int (iI v1)), some (.int (iI v2)), u3, u4] [] (mk (wr m (x + 2) (Int.toNat s1) s2) q w) := by
  refine Eq.trans (k_iast rfl (law_2 hx) (bl rfl) g0 g1) ?_
  refine Eq.trans (k_go rfl rfl) ?_
  exact rfl
theorem b_42_74 {d : Nat} {m : Nat → Nat → Int} {q : Nat → Nat → Option Nat} {w : Option (Nat → Int64)} {v1 v2 v3 v4 : Int} {x : Nat} (hx : iLaw x)  : gv d rR42 74 [some (.ref x), some (.int (iI v1)), some (.int (iI v2)), some (.int (iI v3)), some (.int (iI v4))] [] (mk m q w) =
    if iI v4 = iI 0 then (if iI v1 < iI (((150 : Nat) : Int)) then (if iI v3 < iI 0 then (rBd (ev d 41 [.ref x, .int (iI v3)] (mk m q w)) (fun v M' => gv d rR42 106 [some (.ref x), some (.int (iI v1)), some (.int (iI v2)), some (.int (iI v3)), some (.int (iI v4))] (v.toList ++ [.int (iI v1), .ref (x + 2)]) M')) else (gv d rR42 106 [some (.ref x), some (.int (iI v1)), some (.int (iI v2)), some (.int (iI v3)), some (.int (iI v4))] [.int (iI v3), .int (iI v1), .ref (x + 2)] (mk m q w))) else (gv d rR42 110 [some (.ref x), some (.int (iI v1)), some (.int (iI v2)), some (.int (iI v3)), some (.int (iI v4))] [] (mk m q w))) else (gv d rR42 110 [some (.ref x), some (.int (iI v1)), some (.int (iI v2)), some (.int (iI v3)), some (.int (iI v4))] [] (mk m q w)) := by
  refine Eq.trans (k_ild4 rfl) ?_
  refine Eq.trans (k_i1ne rfl rfl) ?_
  refine ifc ?_ ?_
  · refine Eq.trans (k_ild1 rfl) ?_
    refine Eq.trans (k_ald0 rfl) ?_
    refine Eq.trans (k_gtR rfl (law_0 hx) rfl (by decide)) ?_
    refine Eq.trans (k_alen rfl (law_2 hx) (by intro hz; have h9 := (law_2 hx); rw [hz] at h9; cases h9)) ?_
    refine Eq.trans (k_i2ge rfl rfl) ?_
    refine ifc ?_ ?_
    · refine Eq.trans (k_ald0 rfl) ?_
      refine Eq.trans (k_gtR rfl (law_0 hx) rfl (by decide)) ?_
      refine Eq.trans (k_ild1 rfl) ?_
      refine Eq.trans (k_ild3 rfl) ?_
      refine Eq.trans (k_i1lt rfl rfl) ?_
      refine ifc ?_ ?_
      · refine Eq.trans (k_ald0 rfl) ?_
        refine Eq.trans (k_ild3 rfl) ?_
        exact k_cV1 rfl (law_0 hx) q_41 rfl rfl rfl (bl rfl)
      · refine Eq.trans (k_ild3 rfl) ?_
        refine Eq.trans (k_go rfl rfl) ?_
        exact rfl
    · exact rfl
  · exact rfl
theorem b_42_106 {d : Nat} {m : Nat → Nat → Int} {q : Nat → Nat → Option Nat} {w : Option (Nat → Int64)} {u3 u4 : Option Value} {v1 v2 s1 s2 : Int} {x : Nat} (hx : iLaw x) (g0 : 0 ≤ s1) (g1 : s1 < 150) : gv d rR42 106 [some (.ref x), some (.int (iI v1)), some (.int (iI v2)), u3, u4] [.int (iI s2), .int (iI s1), .ref (x + 2)] (mk m q w) =
    gv d rR42 110 [some (.ref x), some (.int (iI (v1 + 1))), some (.int (iI v2)), u3, u4] [] (mk (wr m (x + 2) (Int.toNat s1) s2) q w) := by
  refine Eq.trans (k_iast rfl (law_2 hx) (bl rfl) g0 g1) ?_
  refine Eq.trans (k_inc1 rfl) ?_
  exact rfl
theorem b_42_110 {d : Nat} {m : Nat → Nat → Int} {q : Nat → Nat → Option Nat} {w : Option (Nat → Int64)} {u3 u4 : Option Value} {v1 v2 : Int} {x : Nat} (hx : iLaw x)  : gv d rR42 110 [some (.ref x), some (.int (iI v1)), some (.int (iI v2)), u3, u4] [] (mk m q w) =
    gv d rR42 4 [some (.ref x), some (.int (iI v1)), some (.int (iI (v2 + 1))), u3, u4] [] (mk m q w) := by
  refine Eq.trans (k_inc2 rfl) ?_
  refine Eq.trans (k_go rfl rfl) ?_
  exact rfl
theorem e_42 {d : Nat} (hd : 1 ≤ d) {a0 : Value} (M : rMem) (h0 : a0.category = 1) : ev d 42 [a0] M = gv (d - 1) rR42 0 [some a0, none, none, none, none] [] M := ev_at hd q_42 rfl (by simp [*]) rfl
/-! FanHouse$Law.strainOf(LFanHouse$Fan;II)I -/
theorem b_43_0 {d : Nat} {m : Nat → Nat → Int} {q : Nat → Nat → Option Nat} {w : Option (Nat → Int64)} {v2 v3 : Int} {p1 : Nat} {x : Nat} (hp1 : iFan p1) (hx : iLaw x)  : gv d rR43 0 [some (.ref x), some (.ref p1), some (.int (iI v2)), some (.int (iI v3))] [] (mk m q w) =
    rBd (ev d 37 [.ref x, .int (iI v2), .int (iI v3)] (mk m q w)) (fun v M' => gv d rR43 6 [some (.ref x), some (.ref p1), some (.int (iI v2)), some (.int (iI v3))] (v.toList ++ []) M') := by
  refine Eq.trans (k_ald0 rfl) ?_
  refine Eq.trans (k_ild2 rfl) ?_
  refine Eq.trans (k_ild3 rfl) ?_
  exact k_cV2 rfl (law_0 hx) q_37 rfl rfl rfl (bl rfl)
theorem b_43_6 {d : Nat} {m : Nat → Nat → Int} {q : Nat → Nat → Option Nat} {w : Option (Nat → Int64)} {u2 u3 : Option Value} {p1 : Nat} {x : Nat} (hp1 : iFan p1) (hx : iLaw x)  : gv d rR43 6 [some (.ref x), some (.ref p1), u2, u3] [] (mk m q w) =
    rBd (ev d 38 [.int (iI (m p1 6))] (mk m q w)) (fun v M' => gv d rR43 22 [some (.ref x), some (.ref p1), u2, u3] (v.toList ++ [.int (iI (m p1 5)), .int (iI (m p1 2)), .ref x]) M') := by
  refine Eq.trans (k_ald0 rfl) ?_
  refine Eq.trans (k_ald1 rfl) ?_
  refine Eq.trans (k_gtI rfl (fan_0 hp1) rfl (by decide)) ?_
  refine Eq.trans (k_ald1 rfl) ?_
  refine Eq.trans (k_gtI rfl (fan_0 hp1) rfl (by decide)) ?_
  refine Eq.trans (k_ald1 rfl) ?_
  refine Eq.trans (k_gtI rfl (fan_0 hp1) rfl (by decide)) ?_
  exact k_cS1 rfl (by decide) q_38 rfl rfl (bl rfl)
theorem b_43_22 {d : Nat} {m : Nat → Nat → Int} {q : Nat → Nat → Option Nat} {w : Option (Nat → Int64)} {u2 u3 : Option Value} {s1 s2 s3 : Int} {p1 : Nat} {x : Nat} (hp1 : iFan p1) (hx : iLaw x)  : gv d rR43 22 [some (.ref x), some (.ref p1), u2, u3] [.int (iI s3), .int (iI s2), .int (iI s1), .ref x] (mk m q w) =
    rBd (ev d 39 [.ref x, .int (iI s1), .int (iI s2), .int (iI s3), .int (iI (m p1 3)), .int (iI (m p1 4))] (mk m q w)) (fun v M' => gv d rR43 33 [some (.ref x), some (.ref p1), u2, u3] (v.toList ++ []) M') := by
  refine Eq.trans (k_ald1 rfl) ?_
  refine Eq.trans (k_gtI rfl (fan_0 hp1) rfl (by decide)) ?_
  refine Eq.trans (k_ald1 rfl) ?_
  refine Eq.trans (k_gtI rfl (fan_0 hp1) rfl (by decide)) ?_
  exact k_cV5 rfl (law_0 hx) q_39 rfl rfl rfl (bl rfl)
theorem b_43_33 {d : Nat} {m : Nat → Nat → Int} {q : Nat → Nat → Option Nat} {w : Option (Nat → Int64)} {u1 u2 u3 : Option Value} {x : Nat} (hx : iLaw x)  : gv d rR43 33 [some (.ref x), u1, u2, u3] [] (mk m q w) =
    rBd (ev d 42 [.ref x] (mk m q w)) (fun v M' => gv d rR43 37 [some (.ref x), u1, u2, u3] (v.toList ++ []) M') := by
  refine Eq.trans (k_ald0 rfl) ?_
  exact k_cV0 rfl (law_0 hx) q_42 rfl rfl rfl (bl rfl)
theorem b_43_37 {d : Nat} {m : Nat → Nat → Int} {q : Nat → Nat → Option Nat} {w : Option (Nat → Int64)} {u0 u1 u2 u3 : Option Value} {s0 : Int}   : gv d rR43 37 [u0, u1, u2, u3] [.int (iI s0)] (mk m q w) =
    some (.inl (some (.int (iI s0))), (mk m q w, (0, 0))) := by
  exact k_rtI rfl rfl
theorem e_43 {d : Nat} (hd : 1 ≤ d) {a0 a1 a2 a3 : Value} (M : rMem) (h0 : a0.category = 1) (h1 : a1.category = 1) (h2 : a2.category = 1) (h3 : a3.category = 1) : ev d 43 [a0, a1, a2, a3] M = gv (d - 1) rR43 0 [some a0, some a1, some a2, some a3] [] M := ev_at hd q_43 rfl (by simp [*]) rfl
/-! FanHouse$Fan.open(LFanHouse$Law;II)Z -/
theorem b_44_0 {d : Nat} {m : Nat → Nat → Int} {q : Nat → Nat → Option Nat} {w : Option (Nat → Int64)} {u4 : Option Value} {v2 v3 : Int} {p1 : Nat} {x : Nat} (hp1 : iLaw p1) (hx : iFan x)  : gv d rR44 0 [some (.ref x), some (.ref p1), some (.int (iI v2)), some (.int (iI v3)), u4] [] (mk m q w) =
    rBd (ev d 23 [.ref x] (mk m q w)) (fun v M' => gv d rR44 4 [some (.ref x), some (.ref p1), some (.int (iI v2)), some (.int (iI v3)), u4] (v.toList ++ []) M') := by
  refine Eq.trans (k_ald0 rfl) ?_
  exact k_cV0 rfl (fan_0 hx) q_23 rfl rfl rfl (bl rfl)
theorem b_44_4 {d : Nat} {m : Nat → Nat → Int} {q : Nat → Nat → Option Nat} {w : Option (Nat → Int64)} {u4 : Option Value} {v2 v3 s0 : Int} {p1 : Nat} {x : Nat} (hp1 : iLaw p1) (hx : iFan x)  : gv d rR44 4 [some (.ref x), some (.ref p1), some (.int (iI v2)), some (.int (iI v3)), u4] [.int (iI s0)] (mk m q w) =
    if iI s0 = iI 0 then (gv d rR44 19 [some (.ref x), some (.ref p1), some (.int (iI v2)), some (.int (iI v3)), u4] [] (mk m q w)) else (rBd (ev d 6 [.int (iI v3), .int (iI 1), .int (iI (m x 0))] (mk m q w)) (fun v M' => gv d rR44 16 [some (.ref x), some (.ref p1), some (.int (iI v2)), some (.int (iI v3)), u4] (v.toList ++ []) M')) := by
  refine Eq.trans (k_i1eq rfl rfl) ?_
  refine ifc ?_ ?_
  · exact rfl
  · refine Eq.trans (k_ild3 rfl) ?_
    refine Eq.trans (k_con rfl) ?_
    refine Eq.trans (k_ald0 rfl) ?_
    refine Eq.trans (k_gtI rfl (fan_0 hx) rfl (by decide)) ?_
    exact k_cS3 rfl (by decide) q_6 rfl rfl (bl rfl)
theorem b_44_16 {d : Nat} {m : Nat → Nat → Int} {q : Nat → Nat → Option Nat} {w : Option (Nat → Int64)} {u4 : Option Value} {v2 v3 s0 : Int} {p1 : Nat} {x : Nat} (hp1 : iLaw p1) (hx : iFan x)  : gv d rR44 16 [some (.ref x), some (.ref p1), some (.int (iI v2)), some (.int (iI v3)), u4] [.int (iI s0)] (mk m q w) =
    if iI s0 = iI 0 then (gv d rR44 19 [some (.ref x), some (.ref p1), some (.int (iI v2)), some (.int (iI v3)), u4] [] (mk m q w)) else (rBd (ev d 43 [.ref p1, .ref x, .int (iI v2), .int (iI v3)] (mk m q w)) (fun v M' => gv d rR44 32 [some (.ref x), some (.ref p1), some (.int (iI v2)), some (.int (iI v3)), u4] (v.toList ++ [.int (iI (m x 2))]) M')) := by
  refine Eq.trans (k_i1ne rfl rfl) ?_
  refine ifc ?_ ?_
  · exact rfl
  · refine Eq.trans (k_ald0 rfl) ?_
    refine Eq.trans (k_gtI rfl (fan_0 hx) rfl (by decide)) ?_
    refine Eq.trans (k_ald1 rfl) ?_
    refine Eq.trans (k_ald0 rfl) ?_
    refine Eq.trans (k_ild2 rfl) ?_
    refine Eq.trans (k_ild3 rfl) ?_
    exact k_cV3 rfl (law_0 hp1) q_43 rfl rfl rfl (bl rfl)
theorem b_44_19 {d : Nat} {m : Nat → Nat → Int} {q : Nat → Nat → Option Nat} {w : Option (Nat → Int64)} {u0 u1 u2 u3 u4 : Option Value}   : gv d rR44 19 [u0, u1, u2, u3, u4] [] (mk m q w) =
    some (.inl (some (.int (iI 0))), (mk m q w, (0, 0))) := by
  refine Eq.trans (k_con rfl) ?_
  exact k_rtZ rfl rfl (Or.inl rfl)
theorem b_44_32 {d : Nat} {m : Nat → Nat → Int} {q : Nat → Nat → Option Nat} {w : Option (Nat → Int64)} {u1 u4 : Option Value} {v2 v3 s0 s1 : Int} {x : Nat} (hx : iFan x)  : gv d rR44 32 [some (.ref x), u1, some (.int (iI v2)), some (.int (iI v3)), u4] [.int (iI s1), .int (iI s0)] (mk m q w) =
    if iI (m x 1) < iI (s0 + s1) then (some (.inl (some (.int (iI 0))), (mk m q w, (0, 0)))) else (some (.inl (some (.int (iI 1))), (mk (wr (wr (wr (wr m x 2 (s0 + s1)) x 5 (((wr m x 2 (s0 + s1)) x 5) + 1)) x 7 v2) x 8 v3) q w, (0, 0)))) := by
  refine Eq.trans (k_add rfl) ?_
  refine Eq.trans (k_ist4 rfl) ?_
  refine Eq.trans (k_ild4 rfl) ?_
  refine Eq.trans (k_ald0 rfl) ?_
  refine Eq.trans (k_gtI rfl (fan_0 hx) rfl (by decide)) ?_
  refine Eq.trans (k_i2le rfl rfl) ?_
  refine ifc ?_ ?_
  · refine Eq.trans (k_con rfl) ?_
    exact k_rtZ rfl rfl (Or.inl rfl)
  · refine Eq.trans (k_ald0 rfl) ?_
    refine Eq.trans (k_ild4 rfl) ?_
    refine Eq.trans (k_ptI rfl (fan_0 hx) rfl rfl) ?_
    refine Eq.trans (k_ald0 rfl) ?_
    refine Eq.trans (k_dup rfl rfl) ?_
    refine Eq.trans (k_gtI rfl (fan_0 hx) rfl (by decide)) ?_
    refine Eq.trans (k_con rfl) ?_
    refine Eq.trans (k_add rfl) ?_
    refine Eq.trans (k_ptI rfl (fan_0 hx) rfl rfl) ?_
    refine Eq.trans (k_ald0 rfl) ?_
    refine Eq.trans (k_ild2 rfl) ?_
    refine Eq.trans (k_ptI rfl (fan_0 hx) rfl rfl) ?_
    refine Eq.trans (k_ald0 rfl) ?_
    refine Eq.trans (k_ild3 rfl) ?_
    refine Eq.trans (k_ptI rfl (fan_0 hx) rfl rfl) ?_
    refine Eq.trans (k_con rfl) ?_
    exact k_rtZ rfl rfl (Or.inr rfl)
theorem e_44 {d : Nat} (hd : 1 ≤ d) {a0 a1 a2 a3 : Value} (M : rMem) (h0 : a0.category = 1) (h1 : a1.category = 1) (h2 : a2.category = 1) (h3 : a3.category = 1) : ev d 44 [a0, a1, a2, a3] M = gv (d - 1) rR44 0 [some a0, some a1, some a2, some a3, none] [] M := ev_at hd q_44 rfl (by simp [*]) rfl
/-! FanHouse$Fan.swap(II)Z -/
theorem b_45_0 {d : Nat} {m : Nat → Nat → Int} {q : Nat → Nat → Option Nat} {w : Option (Nat → Int64)} {u3 : Option Value} {v1 v2 : Int} {x : Nat} (hx : iFan x)  : gv d rR45 0 [some (.ref x), some (.int (iI v1)), some (.int (iI v2)), u3] [] (mk m q w) =
    rBd (ev d 23 [.ref x] (mk m q w)) (fun v M' => gv d rR45 4 [some (.ref x), some (.int (iI v1)), some (.int (iI v2)), u3] (v.toList ++ []) M') := by
  refine Eq.trans (k_ald0 rfl) ?_
  exact k_cV0 rfl (fan_0 hx) q_23 rfl rfl rfl (bl rfl)
theorem b_45_4 {d : Nat} {m : Nat → Nat → Int} {q : Nat → Nat → Option Nat} {w : Option (Nat → Int64)} {u3 : Option Value} {v1 v2 s0 : Int} {x : Nat} (hx : iFan x)  : gv d rR45 4 [some (.ref x), some (.int (iI v1)), some (.int (iI v2)), u3] [.int (iI s0)] (mk m q w) =
    if iI s0 = iI 0 then (gv d rR45 28 [some (.ref x), some (.int (iI v1)), some (.int (iI v2)), u3] [] (mk m q w)) else (if iI v1 = iI v2 then (gv d rR45 28 [some (.ref x), some (.int (iI v1)), some (.int (iI v2)), u3] [] (mk m q w)) else (rBd (ev d 13 [.ref x, .int (iI v1)] (mk m q w)) (fun v M' => gv d rR45 17 [some (.ref x), some (.int (iI v1)), some (.int (iI v2)), u3] (v.toList ++ []) M'))) := by
  refine Eq.trans (k_i1eq rfl rfl) ?_
  refine ifc ?_ ?_
  · exact rfl
  · refine Eq.trans (k_ild1 rfl) ?_
    refine Eq.trans (k_ild2 rfl) ?_
    refine Eq.trans (k_i2eq rfl rfl) ?_
    refine ifc ?_ ?_
    · exact rfl
    · refine Eq.trans (k_ald0 rfl) ?_
      refine Eq.trans (k_ild1 rfl) ?_
      exact k_cV1 rfl (fan_0 hx) q_13 rfl rfl rfl (bl rfl)
theorem b_45_17 {d : Nat} {m : Nat → Nat → Int} {q : Nat → Nat → Option Nat} {w : Option (Nat → Int64)} {u3 : Option Value} {v1 v2 s0 : Int} {x : Nat} (hx : iFan x)  : gv d rR45 17 [some (.ref x), some (.int (iI v1)), some (.int (iI v2)), u3] [.int (iI s0)] (mk m q w) =
    if iI s0 = iI 0 then (gv d rR45 28 [some (.ref x), some (.int (iI v1)), some (.int (iI v2)), u3] [] (mk m q w)) else (rBd (ev d 13 [.ref x, .int (iI v2)] (mk m q w)) (fun v M' => gv d rR45 25 [some (.ref x), some (.int (iI v1)), some (.int (iI v2)), u3] (v.toList ++ []) M')) := by
  refine Eq.trans (k_i1eq rfl rfl) ?_
  refine ifc ?_ ?_
  · exact rfl
  · refine Eq.trans (k_ald0 rfl) ?_
    refine Eq.trans (k_ild2 rfl) ?_
    exact k_cV1 rfl (fan_0 hx) q_13 rfl rfl rfl (bl rfl)
theorem b_45_25 {d : Nat} {m : Nat → Nat → Int} {q : Nat → Nat → Option Nat} {w : Option (Nat → Int64)} {u3 : Option Value} {v1 v2 s0 : Int} {x : Nat} (hx : iFan x)  : gv d rR45 25 [some (.ref x), some (.int (iI v1)), some (.int (iI v2)), u3] [.int (iI s0)] (mk m q w) =
    if iI s0 = iI 0 then (gv d rR45 28 [some (.ref x), some (.int (iI v1)), some (.int (iI v2)), u3] [] (mk m q w)) else (gv d rR45 30 [some (.ref x), some (.int (iI v1)), some (.int (iI v2)), u3] [] (mk m q w)) := by
  refine Eq.trans (k_i1ne rfl rfl) ?_
  refine ifc ?_ ?_
  · exact rfl
  · exact rfl
theorem b_45_28 {d : Nat} {m : Nat → Nat → Int} {q : Nat → Nat → Option Nat} {w : Option (Nat → Int64)} {u0 u1 u2 u3 : Option Value}   : gv d rR45 28 [u0, u1, u2, u3] [] (mk m q w) =
    some (.inl (some (.int (iI 0))), (mk m q w, (0, 0))) := by
  refine Eq.trans (k_con rfl) ?_
  exact k_rtZ rfl rfl (Or.inl rfl)
theorem b_45_30 {d : Nat} {m : Nat → Nat → Int} {q : Nat → Nat → Option Nat} {w : Option (Nat → Int64)} {u3 : Option Value} {v1 v2 : Int} {x : Nat} (hx : iFan x) (g0 : 0 ≤ v1) (g1 : v1 < 7) (g2 : 0 ≤ v2) (g3 : v2 < 7) : gv d rR45 30 [some (.ref x), some (.int (iI v1)), some (.int (iI v2)), u3] [] (mk m q w) =
    some (.inl (some (.int (iI 1))), (mk (wr (wr m (x + 1) (Int.toNat v1) (m (x + 1) (Int.toNat v2))) (x + 1) (Int.toNat v2) (m (x + 1) (Int.toNat v1))) q w, (0, 0))) := by
  refine Eq.trans (k_ald0 rfl) ?_
  refine Eq.trans (k_gtR rfl (fan_0 hx) rfl (by decide)) ?_
  refine Eq.trans (k_ild1 rfl) ?_
  refine Eq.trans (k_iald rfl (fan_1 hx) (bl rfl) g0 g1) ?_
  refine Eq.trans (k_ist3 rfl) ?_
  refine Eq.trans (k_ald0 rfl) ?_
  refine Eq.trans (k_gtR rfl (fan_0 hx) rfl (by decide)) ?_
  refine Eq.trans (k_ild1 rfl) ?_
  refine Eq.trans (k_ald0 rfl) ?_
  refine Eq.trans (k_gtR rfl (fan_0 hx) rfl (by decide)) ?_
  refine Eq.trans (k_ild2 rfl) ?_
  refine Eq.trans (k_iald rfl (fan_1 hx) (bl rfl) g2 g3) ?_
  refine Eq.trans (k_iast rfl (fan_1 hx) (bl rfl) g0 g1) ?_
  refine Eq.trans (k_ald0 rfl) ?_
  refine Eq.trans (k_gtR rfl (fan_0 hx) rfl (by decide)) ?_
  refine Eq.trans (k_ild2 rfl) ?_
  refine Eq.trans (k_ild3 rfl) ?_
  refine Eq.trans (k_iast rfl (fan_1 hx) (bl rfl) g2 g3) ?_
  refine Eq.trans (k_con rfl) ?_
  exact k_rtZ rfl rfl (Or.inr rfl)
theorem e_45 {d : Nat} (hd : 1 ≤ d) {a0 a1 a2 : Value} (M : rMem) (h0 : a0.category = 1) (h1 : a1.category = 1) (h2 : a2.category = 1) : ev d 45 [a0, a1, a2] M = gv (d - 1) rR45 0 [some a0, some a1, some a2, none] [] M := ev_at hd q_45 rfl (by simp [*]) rfl
