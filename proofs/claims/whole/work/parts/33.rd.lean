/-! FanHouse.mark(II)I -/
theorem b_131_0 {d : Nat} {m : Nat → Nat → Int} {q : Nat → Nat → Option Nat} {w : Option (Nat → Int64)} {v1 v2 : Int}   : gv d rR131 0 [some (.ref 100), some (.int (iI v1)), some (.int (iI v2))] [] (mk m q w) =
    rBd (ev d 128 [.int (iI v1)] (mk m q w)) (fun v M' => gv d rR131 5 [some (.ref 100), some (.int (iI v1)), some (.int (iI v2))] (v.toList ++ [.ref 100]) M') := by
  refine Eq.trans (k_ald0 rfl) ?_
  refine Eq.trans (k_ild1 rfl) ?_
  exact k_cS1 rfl (by decide) q_128 rfl rfl (bl rfl)
theorem b_131_5 {d : Nat} {m : Nat → Nat → Int} {q : Nat → Nat → Option Nat} {w : Option (Nat → Int64)} {v1 v2 s1 : Int}   : gv d rR131 5 [some (.ref 100), some (.int (iI v1)), some (.int (iI v2))] [.int (iI s1), .ref 100] (mk m q w) =
    if iI s1 = iI 0 then (gv d rR131 16 [some (.ref 100), some (.int (iI v1)), some (.int (iI v2))] [.ref 100] (mk m q w)) else (if iI v2 < iI 0 then (gv d rR131 16 [some (.ref 100), some (.int (iI v1)), some (.int (iI v2))] [.ref 100] (mk m q w)) else (gv d rR131 17 [some (.ref 100), some (.int (iI v1)), some (.int (iI v2))] [.int (iI 1), .ref 100] (mk m q w))) := by
  refine Eq.trans (k_i1eq rfl rfl) ?_
  refine ifc ?_ ?_
  · exact rfl
  · refine Eq.trans (k_ild2 rfl) ?_
    refine Eq.trans (k_i1lt rfl rfl) ?_
    refine ifc ?_ ?_
    · exact rfl
    · refine Eq.trans (k_con rfl) ?_
      refine Eq.trans (k_go rfl rfl) ?_
      exact rfl
theorem b_131_16 {d : Nat} {m : Nat → Nat → Int} {q : Nat → Nat → Option Nat} {w : Option (Nat → Int64)} {v1 v2 : Int}   : gv d rR131 16 [some (.ref 100), some (.int (iI v1)), some (.int (iI v2))] [.ref 100] (mk m q w) =
    gv d rR131 17 [some (.ref 100), some (.int (iI v1)), some (.int (iI v2))] [.int (iI 0), .ref 100] (mk m q w) := by
  refine Eq.trans (k_con rfl) ?_
  exact rfl
theorem b_131_17 {d : Nat} {m : Nat → Nat → Int} {q : Nat → Nat → Option Nat} {w : Option (Nat → Int64)} {v1 v2 s1 : Int}   : gv d rR131 17 [some (.ref 100), some (.int (iI v1)), some (.int (iI v2))] [.int (iI s1), .ref 100] (mk m q w) =
    rBd (ev d 116 [.ref 100, .int (iI s1)] (mk m q w)) (fun v M' => gv d rR131 20 [some (.ref 100), some (.int (iI v1)), some (.int (iI v2))] (v.toList ++ []) M') := by
  exact k_cV1 rfl s_100 q_116 rfl rfl rfl (bl rfl)
theorem b_131_20 {d : Nat} {m : Nat → Nat → Int} {q : Nat → Nat → Option Nat} {w : Option (Nat → Int64)} {v1 v2 : Int}   : gv d rR131 20 [some (.ref 100), some (.int (iI v1)), some (.int (iI v2))] [] (mk m q w) =
    rBd (ev d 19 [.ref 108, .int (iI v1), .int (iI v2)] (mk m q w)) (fun v M' => gv d rR131 32 [some (.ref 100), some (.int (iI v1)), some (.int (iI v2))] (v.toList ++ []) M') := by
  refine Eq.trans (k_ald0 rfl) ?_
  refine Eq.trans (k_gtR rfl s_100 rfl (by decide)) ?_
  refine Eq.trans (k_gtR rfl s_107 rfl (by decide)) ?_
  refine Eq.trans (k_ild1 rfl) ?_
  refine Eq.trans (k_ild2 rfl) ?_
  exact k_cV2 rfl s_108 q_19 rfl rfl rfl (bl rfl)
theorem b_131_32 {d : Nat} {m : Nat → Nat → Int} {q : Nat → Nat → Option Nat} {w : Option (Nat → Int64)} {u0 u1 u2 : Option Value} {s0 : Int}   : gv d rR131 32 [u0, u1, u2] [.int (iI s0)] (mk m q w) =
    some (.inl (some (.int (iI s0))), (mk m q w, (0, 0))) := by
  exact k_rtI rfl rfl
theorem e_131 {d : Nat} (hd : 1 ≤ d) {a0 a1 a2 : Value} (M : rMem) (h0 : a0.category = 1) (h1 : a1.category = 1) (h2 : a2.category = 1) : ev d 131 [a0, a1, a2] M = gv (d - 1) rR131 0 [some a0, some a1, some a2] [] M := ev_at hd q_131 rfl (by simp [*]) rfl
/-! FanHouse.seen(I)I -/
theorem b_132_0 {d : Nat} {m : Nat → Nat → Int} {q : Nat → Nat → Option Nat} {w : Option (Nat → Int64)} {u2 : Option Value} {v1 : Int}   : gv d rR132 0 [some (.ref 100), some (.int (iI v1)), u2] [] (mk m q w) =
    if iI v1 < iI 0 then (gv d rR132 10 [some (.ref 100), some (.int (iI v1)), u2] [.int (iI 0), .ref 100] (mk m q w)) else (gv d rR132 10 [some (.ref 100), some (.int (iI v1)), u2] [.int (iI 1), .ref 100] (mk m q w)) := by
  refine Eq.trans (k_ald0 rfl) ?_
  refine Eq.trans (k_ild1 rfl) ?_
  refine Eq.trans (k_i1lt rfl rfl) ?_
  refine ifc ?_ ?_
  · refine Eq.trans (k_con rfl) ?_
    exact rfl
  · refine Eq.trans (k_con rfl) ?_
    refine Eq.trans (k_go rfl rfl) ?_
    exact rfl
theorem b_132_10 {d : Nat} {m : Nat → Nat → Int} {q : Nat → Nat → Option Nat} {w : Option (Nat → Int64)} {u2 : Option Value} {v1 s1 : Int}   : gv d rR132 10 [some (.ref 100), some (.int (iI v1)), u2] [.int (iI s1), .ref 100] (mk m q w) =
    rBd (ev d 116 [.ref 100, .int (iI s1)] (mk m q w)) (fun v M' => gv d rR132 13 [some (.ref 100), some (.int (iI v1)), u2] (v.toList ++ []) M') := by
  exact k_cV1 rfl s_100 q_116 rfl rfl rfl (bl rfl)
theorem b_132_13 {d : Nat} {m : Nat → Nat → Int} {q : Nat → Nat → Option Nat} {w : Option (Nat → Int64)} {u2 : Option Value} {v1 : Int}   : gv d rR132 13 [some (.ref 100), some (.int (iI v1)), u2] [] (mk m q w) =
    rBd (ev d 23 [.ref 108] (mk m q w)) (fun v M' => gv d rR132 25 [some (.ref 100), some (.int (iI v1)), some (.ref 108)] (v.toList ++ []) M') := by
  refine Eq.trans (k_ald0 rfl) ?_
  refine Eq.trans (k_gtR rfl s_100 rfl (by decide)) ?_
  refine Eq.trans (k_gtR rfl s_107 rfl (by decide)) ?_
  refine Eq.trans (k_ast2 rfl) ?_
  refine Eq.trans (k_ald2 rfl) ?_
  exact k_cV0 rfl s_108 q_23 rfl rfl rfl (bl rfl)
theorem b_132_25 {d : Nat} {m : Nat → Nat → Int} {q : Nat → Nat → Option Nat} {w : Option (Nat → Int64)} {u0 : Option Value} {v1 s0 : Int}   : gv d rR132 25 [u0, some (.int (iI v1)), some (.ref 108)] [.int (iI s0)] (mk m q w) =
    if iI s0 = iI 0 then (if iI v1 < iI (m 108 8) then (rBd (ev d 19 [.ref 108, .int (iI (m 108 7)), .int (iI v1)] (mk m q w)) (fun v M' => gv d rR132 49 [u0, some (.int (iI v1)), some (.ref 108)] (v.toList ++ []) M')) else (gv d rR132 36 [u0, some (.int (iI v1)), some (.ref 108)] [] (mk m q w))) else (gv d rR132 36 [u0, some (.int (iI v1)), some (.ref 108)] [] (mk m q w)) := by
  refine Eq.trans (k_i1ne rfl rfl) ?_
  refine ifc ?_ ?_
  · refine Eq.trans (k_ild1 rfl) ?_
    refine Eq.trans (k_ald2 rfl) ?_
    refine Eq.trans (k_gtI rfl s_108 rfl (by decide)) ?_
    refine Eq.trans (k_i2lt rfl rfl) ?_
    refine ifc ?_ ?_
    · refine Eq.trans (k_ald2 rfl) ?_
      refine Eq.trans (k_ald2 rfl) ?_
      refine Eq.trans (k_gtI rfl s_108 rfl (by decide)) ?_
      refine Eq.trans (k_ild1 rfl) ?_
      exact k_cV2 rfl s_108 q_19 rfl rfl rfl (bl rfl)
    · exact rfl
  · exact rfl
theorem b_132_36 {d : Nat} {m : Nat → Nat → Int} {q : Nat → Nat → Option Nat} {w : Option (Nat → Int64)} {u0 u1 u2 : Option Value}   : gv d rR132 36 [u0, u1, u2] [] (mk m q w) =
    gv d rR132 49 [u0, u1, u2] [.int (iI (-1))] (mk m q w) := by
  refine Eq.trans (k_con rfl) ?_
  refine Eq.trans (k_go rfl rfl) ?_
  exact rfl
theorem b_132_49 {d : Nat} {m : Nat → Nat → Int} {q : Nat → Nat → Option Nat} {w : Option (Nat → Int64)} {u0 u1 u2 : Option Value} {s0 : Int}   : gv d rR132 49 [u0, u1, u2] [.int (iI s0)] (mk m q w) =
    some (.inl (some (.int (iI s0))), (mk m q w, (0, 0))) := by
  exact k_rtI rfl rfl
theorem e_132 {d : Nat} (hd : 1 ≤ d) {a0 a1 : Value} (M : rMem) (h0 : a0.category = 1) (h1 : a1.category = 1) : ev d 132 [a0, a1] M = gv (d - 1) rR132 0 [some a0, some a1, none] [] M := ev_at hd q_132 rfl (by simp [*]) rfl
/-! FanHouse.marks(I)I -/
theorem b_133_0 {d : Nat} {m : Nat → Nat → Int} {q : Nat → Nat → Option Nat} {w : Option (Nat → Int64)} {u2 u3 : Option Value} {v1 : Int}   : gv d rR133 0 [some (.ref 100), some (.int (iI v1)), u2, u3] [] (mk m q w) =
    rBd (ev d 128 [.int (iI v1)] (mk m q w)) (fun v M' => gv d rR133 5 [some (.ref 100), some (.int (iI v1)), u2, u3] (v.toList ++ [.ref 100]) M') := by
  refine Eq.trans (k_ald0 rfl) ?_
  refine Eq.trans (k_ild1 rfl) ?_
  exact k_cS1 rfl (by decide) q_128 rfl rfl (bl rfl)
theorem b_133_5 {d : Nat} {m : Nat → Nat → Int} {q : Nat → Nat → Option Nat} {w : Option (Nat → Int64)} {u2 u3 : Option Value} {v1 s1 : Int}   : gv d rR133 5 [some (.ref 100), some (.int (iI v1)), u2, u3] [.int (iI s1), .ref 100] (mk m q w) =
    rBd (ev d 116 [.ref 100, .int (iI s1)] (mk m q w)) (fun v M' => gv d rR133 8 [some (.ref 100), some (.int (iI v1)), u2, u3] (v.toList ++ []) M') := by
  exact k_cV1 rfl s_100 q_116 rfl rfl rfl (bl rfl)
theorem b_133_8 {d : Nat} {m : Nat → Nat → Int} {q : Nat → Nat → Option Nat} {w : Option (Nat → Int64)} {u2 u3 : Option Value} {v1 : Int}   : gv d rR133 8 [some (.ref 100), some (.int (iI v1)), u2, u3] [] (mk m q w) =
    gv d rR133 12 [some (.ref 100), some (.int (iI v1)), some (.int (iI 0)), some (.int (iI 0))] [] (mk m q w) := by
  refine Eq.trans (k_con rfl) ?_
  refine Eq.trans (k_ist2 rfl) ?_
  refine Eq.trans (k_con rfl) ?_
  refine Eq.trans (k_ist3 rfl) ?_
  exact rfl
theorem b_133_12 {d : Nat} {m : Nat → Nat → Int} {q : Nat → Nat → Option Nat} {w : Option (Nat → Int64)} {v1 v2 v3 : Int}   : gv d rR133 12 [some (.ref 100), some (.int (iI v1)), some (.int (iI v2)), some (.int (iI v3))] [] (mk m q w) =
    if iI v3 < iI (m 108 0) then (rBd (ev d 19 [.ref 108, .int (iI v1), .int (iI v3)] (mk m q w)) (fun v M' => gv d rR133 40 [some (.ref 100), some (.int (iI v1)), some (.int (iI v2)), some (.int (iI v3))] (v.toList ++ [.int (iI 1), .int (iI v2)]) M')) else (some (.inl (some (.int (iI v2))), (mk m q w, (0, 0)))) := by
  refine Eq.trans (k_ild3 rfl) ?_
  refine Eq.trans (k_ald0 rfl) ?_
  refine Eq.trans (k_gtR rfl s_100 rfl (by decide)) ?_
  refine Eq.trans (k_gtR rfl s_107 rfl (by decide)) ?_
  refine Eq.trans (k_gtI rfl s_108 rfl (by decide)) ?_
  refine Eq.trans (k_i2ge rfl rfl) ?_
  refine ifc ?_ ?_
  · refine Eq.trans (k_ild2 rfl) ?_
    refine Eq.trans (k_con rfl) ?_
    refine Eq.trans (k_ald0 rfl) ?_
    refine Eq.trans (k_gtR rfl s_100 rfl (by decide)) ?_
    refine Eq.trans (k_gtR rfl s_107 rfl (by decide)) ?_
    refine Eq.trans (k_ild1 rfl) ?_
    refine Eq.trans (k_ild3 rfl) ?_
    exact k_cV2 rfl s_108 q_19 rfl rfl rfl (bl rfl)
  · refine Eq.trans (k_ild2 rfl) ?_
    exact k_rtI rfl rfl
theorem b_133_40 {d : Nat} {m : Nat → Nat → Int} {q : Nat → Nat → Option Nat} {w : Option (Nat → Int64)} {u2 : Option Value} {v1 v3 s0 s1 s2 : Int}   : gv d rR133 40 [some (.ref 100), some (.int (iI v1)), u2, some (.int (iI v3))] [.int (iI s2), .int (iI s1), .int (iI s0)] (mk m q w) =
    gv d rR133 12 [some (.ref 100), some (.int (iI v1)), some (.int (iI (zOr s0 (zShl s1 s2)))), some (.int (iI (v3 + 1)))] [] (mk m q w) := by
  refine Eq.trans (k_shl rfl) ?_
  refine Eq.trans (k_ior rfl) ?_
  refine Eq.trans (k_ist2 rfl) ?_
  refine Eq.trans (k_inc3 rfl) ?_
  refine Eq.trans (k_go rfl rfl) ?_
  exact rfl
theorem e_133 {d : Nat} (hd : 1 ≤ d) {a0 a1 : Value} (M : rMem) (h0 : a0.category = 1) (h1 : a1.category = 1) : ev d 133 [a0, a1] M = gv (d - 1) rR133 0 [some a0, some a1, none, none] [] M := ev_at hd q_133 rfl (by simp [*]) rfl
/-! FanHouse.shows(I)Z -/
theorem b_134_0 {d : Nat} {m : Nat → Nat → Int} {q : Nat → Nat → Option Nat} {w : Option (Nat → Int64)} {v1 : Int}   : gv d rR134 0 [some (.ref 100), some (.int (iI v1))] [] (mk m q w) =
    rBd (ev d 128 [.int (iI v1)] (mk m q w)) (fun v M' => gv d rR134 5 [some (.ref 100), some (.int (iI v1))] (v.toList ++ [.ref 100]) M') := by
  refine Eq.trans (k_ald0 rfl) ?_
  refine Eq.trans (k_ild1 rfl) ?_
  exact k_cS1 rfl (by decide) q_128 rfl rfl (bl rfl)
theorem b_134_5 {d : Nat} {m : Nat → Nat → Int} {q : Nat → Nat → Option Nat} {w : Option (Nat → Int64)} {v1 s1 : Int}   : gv d rR134 5 [some (.ref 100), some (.int (iI v1))] [.int (iI s1), .ref 100] (mk m q w) =
    rBd (ev d 116 [.ref 100, .int (iI s1)] (mk m q w)) (fun v M' => gv d rR134 8 [some (.ref 100), some (.int (iI v1))] (v.toList ++ []) M') := by
  exact k_cV1 rfl s_100 q_116 rfl rfl rfl (bl rfl)
theorem b_134_8 {d : Nat} {m : Nat → Nat → Int} {q : Nat → Nat → Option Nat} {w : Option (Nat → Int64)} {v1 : Int}   : gv d rR134 8 [some (.ref 100), some (.int (iI v1))] [] (mk m q w) =
    gv d rR134 14 [some (.ref 100), some (.int (iI v1))] (rOv (q 181 0) :: []) (mk m q w) := by
  refine Eq.trans (k_ald0 rfl) ?_
  refine Eq.trans (k_gtR rfl s_100 rfl (by decide)) ?_
  refine Eq.trans (k_con rfl) ?_
  exact k_aaV (t := 1) rfl s_181 (bl rfl) (by decide) (by decide)
theorem b_134_14 {d : Nat} {m : Nat → Nat → Int} {q : Nat → Nat → Option Nat} {w : Option (Nat → Int64)} {v1 : Int} {z13 : Nat} (hz13 : iPic z13)  : gv d rR134 14 [some (.ref 100), some (.int (iI v1))] [.ref z13] (mk m q w) =
    rBd (ev d 77 [.ref z13, .ref 108, .int (iI v1)] (mk m q w)) (fun v M' => gv d rR134 25 [some (.ref 100), some (.int (iI v1))] (v.toList ++ []) M') := by
  refine Eq.trans (k_ald0 rfl) ?_
  refine Eq.trans (k_gtR rfl s_100 rfl (by decide)) ?_
  refine Eq.trans (k_gtR rfl s_107 rfl (by decide)) ?_
  refine Eq.trans (k_ild1 rfl) ?_
  exact k_cV2 rfl (pic_0 hz13) q_77 rfl rfl rfl (bl rfl)
theorem b_134_25 {d : Nat} {m : Nat → Nat → Int} {q : Nat → Nat → Option Nat} {w : Option (Nat → Int64)} {u0 u1 : Option Value} {s0 : Int}  (g0 : iI s0 = iI 0 ∨ iI s0 = iI 1) : gv d rR134 25 [u0, u1] [.int (iI s0)] (mk m q w) =
    some (.inl (some (.int (iI s0))), (mk m q w, (0, 0))) := by
  exact k_rtZ rfl rfl g0
theorem e_134 {d : Nat} (hd : 1 ≤ d) {a0 a1 : Value} (M : rMem) (h0 : a0.category = 1) (h1 : a1.category = 1) : ev d 134 [a0, a1] M = gv (d - 1) rR134 0 [some a0, some a1] [] M := ev_at hd q_134 rfl (by simp [*]) rfl
/-! FanHouse.countLays(I)I -/
theorem b_135_0 {d : Nat} {m : Nat → Nat → Int} {q : Nat → Nat → Option Nat} {w : Option (Nat → Int64)} {v1 : Int}   : gv d rR135 0 [some (.ref 100), some (.int (iI v1))] [] (mk m q w) =
    rBd (ev d 88 [.ref 164, .ref 108] (mk m q w)) (fun v M' => gv d rR135 14 [some (.ref 100), some (.int (iI v1))] (v.toList ++ []) M') := by
  refine Eq.trans (k_ald0 rfl) ?_
  refine Eq.trans (k_gtR rfl s_100 rfl (by decide)) ?_
  refine Eq.trans (k_ald0 rfl) ?_
  refine Eq.trans (k_gtR rfl s_100 rfl (by decide)) ?_
  refine Eq.trans (k_gtR rfl s_107 rfl (by decide)) ?_
  exact k_cV1 rfl s_164 q_88 rfl rfl rfl (bl rfl)
theorem b_135_14 {d : Nat} {m : Nat → Nat → Int} {q : Nat → Nat → Option Nat} {w : Option (Nat → Int64)} {v1 : Int}   : gv d rR135 14 [some (.ref 100), some (.int (iI v1))] [] (mk m q w) =
    gv d rR135 25 [some (.ref 100), some (.int (iI v1))] (rOv (q 181 0) :: [.int (iI v1), .ref 164]) (mk m q w) := by
  refine Eq.trans (k_ald0 rfl) ?_
  refine Eq.trans (k_gtR rfl s_100 rfl (by decide)) ?_
  refine Eq.trans (k_ild1 rfl) ?_
  refine Eq.trans (k_ald0 rfl) ?_
  refine Eq.trans (k_gtR rfl s_100 rfl (by decide)) ?_
  refine Eq.trans (k_con rfl) ?_
  exact k_aaV (t := 1) rfl s_181 (bl rfl) (by decide) (by decide)
theorem b_135_25 {d : Nat} {m : Nat → Nat → Int} {q : Nat → Nat → Option Nat} {w : Option (Nat → Int64)} {u1 : Option Value} {s1 : Int} {z24 : Nat} (hz24 : iPic z24)  : gv d rR135 25 [some (.ref 100), u1] [.ref z24, .int (iI s1), .ref 164] (mk m q w) =
    rBd (ev d 90 [.ref 164, .int (iI s1), .ref z24] (mk m q w)) (fun v M' => gv d rR135 28 [some (.ref 100), u1] (v.toList ++ []) M') := by
  exact k_cV2 rfl s_164 q_90 rfl rfl rfl (bl rfl)
theorem b_135_28 {d : Nat} {m : Nat → Nat → Int} {q : Nat → Nat → Option Nat} {w : Option (Nat → Int64)} {u1 : Option Value} {s0 : Int}   : gv d rR135 28 [some (.ref 100), u1] [.int (iI s0)] (mk m q w) =
    if iI s0 = iI 0 then (gv d rR135 42 [some (.ref 100), u1] [.int (iI 0)] (mk m q w)) else (rBd (ev d 92 [.ref 164] (mk m q w)) (fun v M' => gv d rR135 38 [some (.ref 100), u1] (v.toList ++ []) M')) := by
  refine Eq.trans (k_i1eq rfl rfl) ?_
  refine ifc ?_ ?_
  · refine Eq.trans (k_con rfl) ?_
    exact rfl
  · refine Eq.trans (k_ald0 rfl) ?_
    refine Eq.trans (k_gtR rfl s_100 rfl (by decide)) ?_
    exact k_cV0 rfl s_164 q_92 rfl rfl rfl (bl rfl)
theorem b_135_38 {d : Nat} {m : Nat → Nat → Int} {q : Nat → Nat → Option Nat} {w : Option (Nat → Int64)} {u0 u1 : Option Value} {s0 : Int}   : gv d rR135 38 [u0, u1] [.int (iI s0)] (mk m q w) =
    gv d rR135 42 [u0, u1] [.int (iI s0)] (mk m q w) := by
  refine Eq.trans (k_go rfl rfl) ?_
  exact rfl
theorem b_135_42 {d : Nat} {m : Nat → Nat → Int} {q : Nat → Nat → Option Nat} {w : Option (Nat → Int64)} {u0 u1 : Option Value} {s0 : Int}   : gv d rR135 42 [u0, u1] [.int (iI s0)] (mk m q w) =
    some (.inl (some (.int (iI s0))), (mk m q w, (0, 0))) := by
  exact k_rtI rfl rfl
theorem e_135 {d : Nat} (hd : 1 ≤ d) {a0 a1 : Value} (M : rMem) (h0 : a0.category = 1) (h1 : a1.category = 1) : ev d 135 [a0, a1] M = gv (d - 1) rR135 0 [some a0, some a1] [] M := ev_at hd q_135 rfl (by simp [*]) rfl
/-! FanHouse.lays(I)I -/
theorem b_136_0 {d : Nat} {m : Nat → Nat → Int} {q : Nat → Nat → Option Nat} {w : Option (Nat → Int64)} {v1 : Int}   : gv d rR136 0 [some (.ref 100), some (.int (iI v1))] [] (mk m q w) =
    rBd (ev d 128 [.int (iI v1)] (mk m q w)) (fun v M' => gv d rR136 5 [some (.ref 100), some (.int (iI v1))] (v.toList ++ [.ref 100]) M') := by
  refine Eq.trans (k_ald0 rfl) ?_
  refine Eq.trans (k_ild1 rfl) ?_
  exact k_cS1 rfl (by decide) q_128 rfl rfl (bl rfl)
theorem b_136_5 {d : Nat} {m : Nat → Nat → Int} {q : Nat → Nat → Option Nat} {w : Option (Nat → Int64)} {v1 s1 : Int}   : gv d rR136 5 [some (.ref 100), some (.int (iI v1))] [.int (iI s1), .ref 100] (mk m q w) =
    rBd (ev d 116 [.ref 100, .int (iI s1)] (mk m q w)) (fun v M' => gv d rR136 8 [some (.ref 100), some (.int (iI v1))] (v.toList ++ []) M') := by
  exact k_cV1 rfl s_100 q_116 rfl rfl rfl (bl rfl)
theorem b_136_8 {d : Nat} {m : Nat → Nat → Int} {q : Nat → Nat → Option Nat} {w : Option (Nat → Int64)} {v1 : Int}   : gv d rR136 8 [some (.ref 100), some (.int (iI v1))] [] (mk m q w) =
    rBd (ev d 135 [.ref 100, .int (iI v1)] (mk m q w)) (fun v M' => gv d rR136 13 [some (.ref 100), some (.int (iI v1))] (v.toList ++ []) M') := by
  refine Eq.trans (k_ald0 rfl) ?_
  refine Eq.trans (k_ild1 rfl) ?_
  exact k_cV1 rfl s_100 q_135 rfl rfl rfl (bl rfl)
theorem b_136_13 {d : Nat} {m : Nat → Nat → Int} {q : Nat → Nat → Option Nat} {w : Option (Nat → Int64)} {u0 u1 : Option Value} {s0 : Int}   : gv d rR136 13 [u0, u1] [.int (iI s0)] (mk m q w) =
    some (.inl (some (.int (iI s0))), (mk m q w, (0, 0))) := by
  exact k_rtI rfl rfl
theorem e_136 {d : Nat} (hd : 1 ≤ d) {a0 a1 : Value} (M : rMem) (h0 : a0.category = 1) (h1 : a1.category = 1) : ev d 136 [a0, a1] M = gv (d - 1) rR136 0 [some a0, some a1] [] M := ev_at hd q_136 rfl (by simp [*]) rfl
/-! FanHouse.laid(II)I -/
theorem b_137_0 {d : Nat} {m : Nat → Nat → Int} {q : Nat → Nat → Option Nat} {w : Option (Nat → Int64)} {v1 v2 : Int}   : gv d rR137 0 [some (.ref 100), some (.int (iI v1)), some (.int (iI v2))] [] (mk m q w) =
    rBd (ev d 13 [.ref 108, .int (iI v2)] (mk m q w)) (fun v M' => gv d rR137 12 [some (.ref 100), some (.int (iI v1)), some (.int (iI v2))] (v.toList ++ [.ref 100]) M') := by
  refine Eq.trans (k_ald0 rfl) ?_
  refine Eq.trans (k_ald0 rfl) ?_
  refine Eq.trans (k_gtR rfl s_100 rfl (by decide)) ?_
  refine Eq.trans (k_gtR rfl s_107 rfl (by decide)) ?_
  refine Eq.trans (k_ild2 rfl) ?_
  exact k_cV1 rfl s_108 q_13 rfl rfl rfl (bl rfl)
theorem b_137_12 {d : Nat} {m : Nat → Nat → Int} {q : Nat → Nat → Option Nat} {w : Option (Nat → Int64)} {v1 v2 s1 : Int}   : gv d rR137 12 [some (.ref 100), some (.int (iI v1)), some (.int (iI v2))] [.int (iI s1), .ref 100] (mk m q w) =
    rBd (ev d 125 [.ref 100, .int (iI s1)] (mk m q w)) (fun v M' => gv d rR137 15 [some (.ref 100), some (.int (iI v1)), some (.int (iI v2))] (v.toList ++ []) M') := by
  exact k_cV1 rfl s_100 q_125 rfl rfl rfl (bl rfl)
theorem b_137_15 {d : Nat} {m : Nat → Nat → Int} {q : Nat → Nat → Option Nat} {w : Option (Nat → Int64)} {v1 v2 : Int}   : gv d rR137 15 [some (.ref 100), some (.int (iI v1)), some (.int (iI v2))] [] (mk m q w) =
    rBd (ev d 128 [.int (iI v1)] (mk m q w)) (fun v M' => gv d rR137 20 [some (.ref 100), some (.int (iI v1)), some (.int (iI v2))] (v.toList ++ [.ref 100]) M') := by
  refine Eq.trans (k_ald0 rfl) ?_
  refine Eq.trans (k_ild1 rfl) ?_
  exact k_cS1 rfl (by decide) q_128 rfl rfl (bl rfl)
theorem b_137_20 {d : Nat} {m : Nat → Nat → Int} {q : Nat → Nat → Option Nat} {w : Option (Nat → Int64)} {v1 v2 s1 : Int}   : gv d rR137 20 [some (.ref 100), some (.int (iI v1)), some (.int (iI v2))] [.int (iI s1), .ref 100] (mk m q w) =
    rBd (ev d 116 [.ref 100, .int (iI s1)] (mk m q w)) (fun v M' => gv d rR137 23 [some (.ref 100), some (.int (iI v1)), some (.int (iI v2))] (v.toList ++ []) M') := by
  exact k_cV1 rfl s_100 q_116 rfl rfl rfl (bl rfl)
theorem b_137_23 {d : Nat} {m : Nat → Nat → Int} {q : Nat → Nat → Option Nat} {w : Option (Nat → Int64)} {v1 v2 : Int}   : gv d rR137 23 [some (.ref 100), some (.int (iI v1)), some (.int (iI v2))] [] (mk m q w) =
    rBd (ev d 135 [.ref 100, .int (iI v1)] (mk m q w)) (fun v M' => gv d rR137 28 [some (.ref 100), some (.int (iI v1)), some (.int (iI v2))] (v.toList ++ []) M') := by
  refine Eq.trans (k_ald0 rfl) ?_
  refine Eq.trans (k_ild1 rfl) ?_
  exact k_cV1 rfl s_100 q_135 rfl rfl rfl (bl rfl)
theorem b_137_28 {d : Nat} {m : Nat → Nat → Int} {q : Nat → Nat → Option Nat} {w : Option (Nat → Int64)} {u1 : Option Value} {v2 s0 : Int}   : gv d rR137 28 [some (.ref 100), u1, some (.int (iI v2))] [.int (iI s0)] (mk m q w) =
    if iI s0 = iI 0 then (gv d rR137 43 [some (.ref 100), u1, some (.int (iI v2))] [.int (iI (-1))] (mk m q w)) else (rBd (ev d 94 [.ref 164, .int (iI v2)] (mk m q w)) (fun v M' => gv d rR137 43 [some (.ref 100), u1, some (.int (iI v2))] (v.toList ++ []) M')) := by
  refine Eq.trans (k_i1ne rfl rfl) ?_
  refine ifc ?_ ?_
  · refine Eq.trans (k_con rfl) ?_
    refine Eq.trans (k_go rfl rfl) ?_
    exact rfl
  · refine Eq.trans (k_ald0 rfl) ?_
    refine Eq.trans (k_gtR rfl s_100 rfl (by decide)) ?_
    refine Eq.trans (k_ild2 rfl) ?_
    exact k_cV1 rfl s_164 q_94 rfl rfl rfl (bl rfl)
theorem b_137_43 {d : Nat} {m : Nat → Nat → Int} {q : Nat → Nat → Option Nat} {w : Option (Nat → Int64)} {u0 u1 u2 : Option Value} {s0 : Int}   : gv d rR137 43 [u0, u1, u2] [.int (iI s0)] (mk m q w) =
    some (.inl (some (.int (iI s0))), (mk m q w, (0, 0))) := by
  exact k_rtI rfl rfl
theorem e_137 {d : Nat} (hd : 1 ≤ d) {a0 a1 a2 : Value} (M : rMem) (h0 : a0.category = 1) (h1 : a1.category = 1) (h2 : a2.category = 1) : ev d 137 [a0, a1, a2] M = gv (d - 1) rR137 0 [some a0, some a1, some a2] [] M := ev_at hd q_137 rfl (by simp [*]) rfl
/-! FanHouse.both(II)I -/
theorem b_138_0 {d : Nat} {m : Nat → Nat → Int} {q : Nat → Nat → Option Nat} {w : Option (Nat → Int64)} {v1 v2 : Int}   : gv d rR138 0 [some (.ref 100), some (.int (iI v1)), some (.int (iI v2))] [] (mk m q w) =
    rBd (ev d 128 [.int (iI v1)] (mk m q w)) (fun v M' => gv d rR138 5 [some (.ref 100), some (.int (iI v1)), some (.int (iI v2))] (v.toList ++ [.ref 100]) M') := by
  refine Eq.trans (k_ald0 rfl) ?_
  refine Eq.trans (k_ild1 rfl) ?_
  exact k_cS1 rfl (by decide) q_128 rfl rfl (bl rfl)
theorem b_138_5 {d : Nat} {m : Nat → Nat → Int} {q : Nat → Nat → Option Nat} {w : Option (Nat → Int64)} {v1 v2 s1 : Int}   : gv d rR138 5 [some (.ref 100), some (.int (iI v1)), some (.int (iI v2))] [.int (iI s1), .ref 100] (mk m q w) =
    if iI s1 = iI 0 then (gv d rR138 19 [some (.ref 100), some (.int (iI v1)), some (.int (iI v2))] [.ref 100] (mk m q w)) else (rBd (ev d 128 [.int (iI v2)] (mk m q w)) (fun v M' => gv d rR138 12 [some (.ref 100), some (.int (iI v1)), some (.int (iI v2))] (v.toList ++ [.ref 100]) M')) := by
  refine Eq.trans (k_i1eq rfl rfl) ?_
  refine ifc ?_ ?_
  · exact rfl
  · refine Eq.trans (k_ild2 rfl) ?_
    exact k_cS1 rfl (by decide) q_128 rfl rfl (bl rfl)
theorem b_138_12 {d : Nat} {m : Nat → Nat → Int} {q : Nat → Nat → Option Nat} {w : Option (Nat → Int64)} {v1 v2 s1 : Int}   : gv d rR138 12 [some (.ref 100), some (.int (iI v1)), some (.int (iI v2))] [.int (iI s1), .ref 100] (mk m q w) =
    if iI s1 = iI 0 then (gv d rR138 19 [some (.ref 100), some (.int (iI v1)), some (.int (iI v2))] [.ref 100] (mk m q w)) else (gv d rR138 20 [some (.ref 100), some (.int (iI v1)), some (.int (iI v2))] [.int (iI 1), .ref 100] (mk m q w)) := by
  refine Eq.trans (k_i1eq rfl rfl) ?_
  refine ifc ?_ ?_
  · exact rfl
  · refine Eq.trans (k_con rfl) ?_
    refine Eq.trans (k_go rfl rfl) ?_
    exact rfl
theorem b_138_19 {d : Nat} {m : Nat → Nat → Int} {q : Nat → Nat → Option Nat} {w : Option (Nat → Int64)} {v1 v2 : Int}   : gv d rR138 19 [some (.ref 100), some (.int (iI v1)), some (.int (iI v2))] [.ref 100] (mk m q w) =
    gv d rR138 20 [some (.ref 100), some (.int (iI v1)), some (.int (iI v2))] [.int (iI 0), .ref 100] (mk m q w) := by
  refine Eq.trans (k_con rfl) ?_
  exact rfl
theorem b_138_20 {d : Nat} {m : Nat → Nat → Int} {q : Nat → Nat → Option Nat} {w : Option (Nat → Int64)} {v1 v2 s1 : Int}   : gv d rR138 20 [some (.ref 100), some (.int (iI v1)), some (.int (iI v2))] [.int (iI s1), .ref 100] (mk m q w) =
    rBd (ev d 116 [.ref 100, .int (iI s1)] (mk m q w)) (fun v M' => gv d rR138 23 [some (.ref 100), some (.int (iI v1)), some (.int (iI v2))] (v.toList ++ []) M') := by
  exact k_cV1 rfl s_100 q_116 rfl rfl rfl (bl rfl)
theorem b_138_23 {d : Nat} {m : Nat → Nat → Int} {q : Nat → Nat → Option Nat} {w : Option (Nat → Int64)} {v1 v2 : Int}   : gv d rR138 23 [some (.ref 100), some (.int (iI v1)), some (.int (iI v2))] [] (mk m q w) =
    rBd (ev d 88 [.ref 164, .ref 108] (mk m q w)) (fun v M' => gv d rR138 37 [some (.ref 100), some (.int (iI v1)), some (.int (iI v2))] (v.toList ++ []) M') := by
  refine Eq.trans (k_ald0 rfl) ?_
  refine Eq.trans (k_gtR rfl s_100 rfl (by decide)) ?_
  refine Eq.trans (k_ald0 rfl) ?_
  refine Eq.trans (k_gtR rfl s_100 rfl (by decide)) ?_
  refine Eq.trans (k_gtR rfl s_107 rfl (by decide)) ?_
  exact k_cV1 rfl s_164 q_88 rfl rfl rfl (bl rfl)
theorem b_138_37 {d : Nat} {m : Nat → Nat → Int} {q : Nat → Nat → Option Nat} {w : Option (Nat → Int64)} {v1 v2 : Int}   : gv d rR138 37 [some (.ref 100), some (.int (iI v1)), some (.int (iI v2))] [] (mk m q w) =
    gv d rR138 48 [some (.ref 100), some (.int (iI v1)), some (.int (iI v2))] (rOv (q 181 0) :: [.int (iI v1), .ref 164]) (mk m q w) := by
  refine Eq.trans (k_ald0 rfl) ?_
  refine Eq.trans (k_gtR rfl s_100 rfl (by decide)) ?_
  refine Eq.trans (k_ild1 rfl) ?_
  refine Eq.trans (k_ald0 rfl) ?_
  refine Eq.trans (k_gtR rfl s_100 rfl (by decide)) ?_
  refine Eq.trans (k_con rfl) ?_
  exact k_aaV (t := 1) rfl s_181 (bl rfl) (by decide) (by decide)
theorem b_138_48 {d : Nat} {m : Nat → Nat → Int} {q : Nat → Nat → Option Nat} {w : Option (Nat → Int64)} {u1 : Option Value} {v2 s1 : Int} {z47 : Nat} (hz47 : iPic z47)  : gv d rR138 48 [some (.ref 100), u1, some (.int (iI v2))] [.ref z47, .int (iI s1), .ref 164] (mk m q w) =
    rBd (ev d 90 [.ref 164, .int (iI s1), .ref z47] (mk m q w)) (fun v M' => gv d rR138 51 [some (.ref 100), u1, some (.int (iI v2))] (v.toList ++ []) M') := by
  exact k_cV2 rfl s_164 q_90 rfl rfl rfl (bl rfl)
theorem b_138_51 {d : Nat} {m : Nat → Nat → Int} {q : Nat → Nat → Option Nat} {w : Option (Nat → Int64)} {u1 : Option Value} {v2 s0 : Int}   : gv d rR138 51 [some (.ref 100), u1, some (.int (iI v2))] [.int (iI s0)] (mk m q w) =
    if iI s0 = iI 0 then (gv d rR138 71 [some (.ref 100), u1, some (.int (iI v2))] [] (mk m q w)) else (gv d rR138 65 [some (.ref 100), u1, some (.int (iI v2))] (rOv (q 181 1) :: [.int (iI v2), .ref 164]) (mk m q w)) := by
  refine Eq.trans (k_i1eq rfl rfl) ?_
  refine ifc ?_ ?_
  · exact rfl
  · refine Eq.trans (k_ald0 rfl) ?_
    refine Eq.trans (k_gtR rfl s_100 rfl (by decide)) ?_
    refine Eq.trans (k_ild2 rfl) ?_
    refine Eq.trans (k_ald0 rfl) ?_
    refine Eq.trans (k_gtR rfl s_100 rfl (by decide)) ?_
    refine Eq.trans (k_con rfl) ?_
    exact k_aaV (t := 1) rfl s_181 (bl rfl) (by decide) (by decide)
theorem b_138_65 {d : Nat} {m : Nat → Nat → Int} {q : Nat → Nat → Option Nat} {w : Option (Nat → Int64)} {u1 u2 : Option Value} {s1 : Int} {z64 : Nat} (hz64 : iPic z64)  : gv d rR138 65 [some (.ref 100), u1, u2] [.ref z64, .int (iI s1), .ref 164] (mk m q w) =
    rBd (ev d 90 [.ref 164, .int (iI s1), .ref z64] (mk m q w)) (fun v M' => gv d rR138 68 [some (.ref 100), u1, u2] (v.toList ++ []) M') := by
  exact k_cV2 rfl s_164 q_90 rfl rfl rfl (bl rfl)
theorem b_138_68 {d : Nat} {m : Nat → Nat → Int} {q : Nat → Nat → Option Nat} {w : Option (Nat → Int64)} {u1 u2 : Option Value} {s0 : Int}   : gv d rR138 68 [some (.ref 100), u1, u2] [.int (iI s0)] (mk m q w) =
    if iI s0 = iI 0 then (gv d rR138 71 [some (.ref 100), u1, u2] [] (mk m q w)) else (rBd (ev d 92 [.ref 164] (mk m q w)) (fun v M' => gv d rR138 80 [some (.ref 100), u1, u2] (v.toList ++ []) M')) := by
  refine Eq.trans (k_i1ne rfl rfl) ?_
  refine ifc ?_ ?_
  · exact rfl
  · refine Eq.trans (k_ald0 rfl) ?_
    refine Eq.trans (k_gtR rfl s_100 rfl (by decide)) ?_
    exact k_cV0 rfl s_164 q_92 rfl rfl rfl (bl rfl)
theorem b_138_71 {d : Nat} {m : Nat → Nat → Int} {q : Nat → Nat → Option Nat} {w : Option (Nat → Int64)} {u0 u1 u2 : Option Value}   : gv d rR138 71 [u0, u1, u2] [] (mk m q w) =
    some (.inl (some (.int (iI 0))), (mk m q w, (0, 0))) := by
  refine Eq.trans (k_con rfl) ?_
  exact k_rtI rfl rfl
theorem b_138_80 {d : Nat} {m : Nat → Nat → Int} {q : Nat → Nat → Option Nat} {w : Option (Nat → Int64)} {u0 u1 u2 : Option Value} {s0 : Int}   : gv d rR138 80 [u0, u1, u2] [.int (iI s0)] (mk m q w) =
    some (.inl (some (.int (iI s0))), (mk m q w, (0, 0))) := by
  exact k_rtI rfl rfl
theorem e_138 {d : Nat} (hd : 1 ≤ d) {a0 a1 a2 : Value} (M : rMem) (h0 : a0.category = 1) (h1 : a1.category = 1) (h2 : a2.category = 1) : ev d 138 [a0, a1, a2] M = gv (d - 1) rR138 0 [some a0, some a1, some a2] [] M := ev_at hd q_138 rfl (by simp [*]) rfl
/-! FanHouse.brush(I)I -/
theorem b_139_0 {d : Nat} {m : Nat → Nat → Int} {q : Nat → Nat → Option Nat} {w : Option (Nat → Int64)} {v1 : Int}   : gv d rR139 0 [some (.ref 100), some (.int (iI v1))] [] (mk m q w) =
    rBd (ev d 128 [.int (iI v1)] (mk m q w)) (fun v M' => gv d rR139 5 [some (.ref 100), some (.int (iI v1))] (v.toList ++ [.ref 100]) M') := by
  refine Eq.trans (k_ald0 rfl) ?_
  refine Eq.trans (k_ild1 rfl) ?_
  exact k_cS1 rfl (by decide) q_128 rfl rfl (bl rfl)
theorem b_139_5 {d : Nat} {m : Nat → Nat → Int} {q : Nat → Nat → Option Nat} {w : Option (Nat → Int64)} {v1 s1 : Int}   : gv d rR139 5 [some (.ref 100), some (.int (iI v1))] [.int (iI s1), .ref 100] (mk m q w) =
    rBd (ev d 116 [.ref 100, .int (iI s1)] (mk m q w)) (fun v M' => gv d rR139 8 [some (.ref 100), some (.int (iI v1))] (v.toList ++ []) M') := by
  exact k_cV1 rfl s_100 q_116 rfl rfl rfl (bl rfl)
theorem b_139_8 {d : Nat} {m : Nat → Nat → Int} {q : Nat → Nat → Option Nat} {w : Option (Nat → Int64)} {v1 : Int}   : gv d rR139 8 [some (.ref 100), some (.int (iI v1))] [] (mk m q w) =
    rBd (ev d 88 [.ref 164, .ref 108] (mk m q w)) (fun v M' => gv d rR139 22 [some (.ref 100), some (.int (iI v1))] (v.toList ++ []) M') := by
  refine Eq.trans (k_ald0 rfl) ?_
  refine Eq.trans (k_gtR rfl s_100 rfl (by decide)) ?_
  refine Eq.trans (k_ald0 rfl) ?_
  refine Eq.trans (k_gtR rfl s_100 rfl (by decide)) ?_
  refine Eq.trans (k_gtR rfl s_107 rfl (by decide)) ?_
  exact k_cV1 rfl s_164 q_88 rfl rfl rfl (bl rfl)
theorem b_139_22 {d : Nat} {m : Nat → Nat → Int} {q : Nat → Nat → Option Nat} {w : Option (Nat → Int64)} {v1 : Int}   : gv d rR139 22 [some (.ref 100), some (.int (iI v1))] [] (mk m q w) =
    gv d rR139 33 [some (.ref 100), some (.int (iI v1))] (rOv (q 181 0) :: [.int (iI v1), .ref 164]) (mk m q w) := by
  refine Eq.trans (k_ald0 rfl) ?_
  refine Eq.trans (k_gtR rfl s_100 rfl (by decide)) ?_
  refine Eq.trans (k_ild1 rfl) ?_
  refine Eq.trans (k_ald0 rfl) ?_
  refine Eq.trans (k_gtR rfl s_100 rfl (by decide)) ?_
  refine Eq.trans (k_con rfl) ?_
  exact k_aaV (t := 1) rfl s_181 (bl rfl) (by decide) (by decide)
theorem b_139_33 {d : Nat} {m : Nat → Nat → Int} {q : Nat → Nat → Option Nat} {w : Option (Nat → Int64)} {u1 : Option Value} {s1 : Int} {z32 : Nat} (hz32 : iPic z32)  : gv d rR139 33 [some (.ref 100), u1] [.ref z32, .int (iI s1), .ref 164] (mk m q w) =
    rBd (ev d 90 [.ref 164, .int (iI s1), .ref z32] (mk m q w)) (fun v M' => gv d rR139 36 [some (.ref 100), u1] (v.toList ++ []) M') := by
  exact k_cV2 rfl s_164 q_90 rfl rfl rfl (bl rfl)
theorem b_139_36 {d : Nat} {m : Nat → Nat → Int} {q : Nat → Nat → Option Nat} {w : Option (Nat → Int64)} {u1 : Option Value} {s0 : Int}   : gv d rR139 36 [some (.ref 100), u1] [.int (iI s0)] (mk m q w) =
    if iI s0 = iI 0 then (gv d rR139 50 [some (.ref 100), u1] [.int (iI (-1))] (mk m q w)) else (rBd (ev d 95 [.ref 164] (mk m q w)) (fun v M' => gv d rR139 46 [some (.ref 100), u1] (v.toList ++ []) M')) := by
  refine Eq.trans (k_i1eq rfl rfl) ?_
  refine ifc ?_ ?_
  · refine Eq.trans (k_con rfl) ?_
    exact rfl
  · refine Eq.trans (k_ald0 rfl) ?_
    refine Eq.trans (k_gtR rfl s_100 rfl (by decide)) ?_
    exact k_cV0 rfl s_164 q_95 rfl rfl rfl (bl rfl)
theorem b_139_46 {d : Nat} {m : Nat → Nat → Int} {q : Nat → Nat → Option Nat} {w : Option (Nat → Int64)} {u0 u1 : Option Value} {s0 : Int}   : gv d rR139 46 [u0, u1] [.int (iI s0)] (mk m q w) =
    gv d rR139 50 [u0, u1] [.int (iI s0)] (mk m q w) := by
  refine Eq.trans (k_go rfl rfl) ?_
  exact rfl
theorem b_139_50 {d : Nat} {m : Nat → Nat → Int} {q : Nat → Nat → Option Nat} {w : Option (Nat → Int64)} {u0 u1 : Option Value} {s0 : Int}   : gv d rR139 50 [u0, u1] [.int (iI s0)] (mk m q w) =
    some (.inl (some (.int (iI s0))), (mk m q w, (0, 0))) := by
  exact k_rtI rfl rfl
theorem e_139 {d : Nat} (hd : 1 ≤ d) {a0 a1 : Value} (M : rMem) (h0 : a0.category = 1) (h1 : a1.category = 1) : ev d 139 [a0, a1] M = gv (d - 1) rR139 0 [some a0, some a1] [] M := ev_at hd q_139 rfl (by simp [*]) rfl
/-! FanHouse.near(I)I -/
theorem b_140_0 {d : Nat} {m : Nat → Nat → Int} {q : Nat → Nat → Option Nat} {w : Option (Nat → Int64)} {v1 : Int}   : gv d rR140 0 [some (.ref 100), some (.int (iI v1))] [] (mk m q w) =
    rBd (ev d 128 [.int (iI v1)] (mk m q w)) (fun v M' => gv d rR140 5 [some (.ref 100), some (.int (iI v1))] (v.toList ++ [.ref 100]) M') := by
  refine Eq.trans (k_ald0 rfl) ?_
  refine Eq.trans (k_ild1 rfl) ?_
  exact k_cS1 rfl (by decide) q_128 rfl rfl (bl rfl)
theorem b_140_5 {d : Nat} {m : Nat → Nat → Int} {q : Nat → Nat → Option Nat} {w : Option (Nat → Int64)} {v1 s1 : Int}   : gv d rR140 5 [some (.ref 100), some (.int (iI v1))] [.int (iI s1), .ref 100] (mk m q w) =
    rBd (ev d 116 [.ref 100, .int (iI s1)] (mk m q w)) (fun v M' => gv d rR140 8 [some (.ref 100), some (.int (iI v1))] (v.toList ++ []) M') := by
  exact k_cV1 rfl s_100 q_116 rfl rfl rfl (bl rfl)
theorem b_140_8 {d : Nat} {m : Nat → Nat → Int} {q : Nat → Nat → Option Nat} {w : Option (Nat → Int64)} {v1 : Int}   : gv d rR140 8 [some (.ref 100), some (.int (iI v1))] [] (mk m q w) =
    rBd (ev d 135 [.ref 100, .int (iI v1)] (mk m q w)) (fun v M' => gv d rR140 13 [some (.ref 100), some (.int (iI v1))] (v.toList ++ []) M') := by
  refine Eq.trans (k_ald0 rfl) ?_
  refine Eq.trans (k_ild1 rfl) ?_
  exact k_cV1 rfl s_100 q_135 rfl rfl rfl (bl rfl)
theorem b_140_13 {d : Nat} {m : Nat → Nat → Int} {q : Nat → Nat → Option Nat} {w : Option (Nat → Int64)} {u1 : Option Value} {s0 : Int}   : gv d rR140 13 [some (.ref 100), u1] [.int (iI s0)] (mk m q w) =
    if iI s0 = iI 0 then (gv d rR140 27 [some (.ref 100), u1] [.int (iI (-1))] (mk m q w)) else (rBd (ev d 97 [.ref 164] (mk m q w)) (fun v M' => gv d rR140 27 [some (.ref 100), u1] (v.toList ++ []) M')) := by
  refine Eq.trans (k_i1ne rfl rfl) ?_
  refine ifc ?_ ?_
  · refine Eq.trans (k_con rfl) ?_
    refine Eq.trans (k_go rfl rfl) ?_
    exact rfl
  · refine Eq.trans (k_ald0 rfl) ?_
    refine Eq.trans (k_gtR rfl s_100 rfl (by decide)) ?_
    exact k_cV0 rfl s_164 q_97 rfl rfl rfl (bl rfl)
theorem b_140_27 {d : Nat} {m : Nat → Nat → Int} {q : Nat → Nat → Option Nat} {w : Option (Nat → Int64)} {u0 u1 : Option Value} {s0 : Int}   : gv d rR140 27 [u0, u1] [.int (iI s0)] (mk m q w) =
    some (.inl (some (.int (iI s0))), (mk m q w, (0, 0))) := by
  exact k_rtI rfl rfl
theorem e_140 {d : Nat} (hd : 1 ≤ d) {a0 a1 : Value} (M : rMem) (h0 : a0.category = 1) (h1 : a1.category = 1) : ev d 140 [a0, a1] M = gv (d - 1) rR140 0 [some a0, some a1] [] M := ev_at hd q_140 rfl (by simp [*]) rfl
/-! FanHouse.greatestDivisor(II)I -/
theorem b_141_0 {d : Nat} {m : Nat → Nat → Int} {q : Nat → Nat → Option Nat} {w : Option (Nat → Int64)} {u2 u3 u4 u5 : Option Value} {v0 v1 : Int}   : gv d rR141 0 [some (.int (iI v0)), some (.int (iI v1)), u2, u3, u4, u5] [] (mk m q w) =
    gv d rR141 7 [some (.int (iI v0)), some (.int (iI v1)), some (.int (iI v1)), some (.int (iI v0)), some (.int (iI 0)), u5] [] (mk m q w) := by
  refine Eq.trans (k_ild1 rfl) ?_
  refine Eq.trans (k_ist2 rfl) ?_
  refine Eq.trans (k_ild0 rfl) ?_
  refine Eq.trans (k_ist3 rfl) ?_
  refine Eq.trans (k_con rfl) ?_
  refine Eq.trans (k_ist4 rfl) ?_
  exact rfl
theorem b_141_7 {d : Nat} {m : Nat → Nat → Int} {q : Nat → Nat → Option Nat} {w : Option (Nat → Int64)} {u0 u1 u5 : Option Value} {v2 v3 v4 : Int}   : gv d rR141 7 [u0, u1, some (.int (iI v2)), some (.int (iI v3)), some (.int (iI v4)), u5] [] (mk m q w) =
    if iI v4 < iI 64 then (if iI v3 = iI 0 then (gv d rR141 34 [u0, u1, some (.int (iI v2)), some (.int (iI v3)), some (.int (iI v4)), u5] [] (mk m q w)) else (gv d rR141 18 [u0, u1, some (.int (iI v2)), some (.int (iI v3)), some (.int (iI v4)), u5] [] (mk m q w))) else (gv d rR141 34 [u0, u1, some (.int (iI v2)), some (.int (iI v3)), some (.int (iI v4)), u5] [] (mk m q w)) := by
  refine Eq.trans (k_ild4 rfl) ?_
  refine Eq.trans (k_bip rfl (by decide)) ?_
  refine Eq.trans (k_i2ge rfl rfl) ?_
  refine ifc ?_ ?_
  · refine Eq.trans (k_ild3 rfl) ?_
    refine Eq.trans (k_i1eq rfl rfl) ?_
    refine ifc ?_ ?_
    · exact rfl
    · exact rfl
  · exact rfl
theorem b_141_18 {d : Nat} {m : Nat → Nat → Int} {q : Nat → Nat → Option Nat} {w : Option (Nat → Int64)} {u0 u1 u5 : Option Value} {v2 v3 v4 : Int}  (g0 : iI v3 ≠ 0) : gv d rR141 18 [u0, u1, some (.int (iI v2)), some (.int (iI v3)), some (.int (iI v4)), u5] [] (mk m q w) =
    gv d rR141 7 [u0, u1, some (.int (iI v3)), some (.int (iI (zRem v2 v3))), some (.int (iI (v4 + 1))), some (.int (iI (zRem v2 v3)))] [] (mk m q w) := by
  refine Eq.trans (k_ild2 rfl) ?_
  refine Eq.trans (k_ild3 rfl) ?_
  refine Eq.trans (k_rem rfl g0) ?_
  refine Eq.trans (k_ist5 rfl) ?_
  refine Eq.trans (k_ild3 rfl) ?_
  refine Eq.trans (k_ist2 rfl) ?_
  refine Eq.trans (k_ild5 rfl) ?_
  refine Eq.trans (k_ist3 rfl) ?_
  refine Eq.trans (k_inc4 rfl) ?_
  refine Eq.trans (k_go rfl rfl) ?_
  exact rfl
theorem b_141_34 {d : Nat} {m : Nat → Nat → Int} {q : Nat → Nat → Option Nat} {w : Option (Nat → Int64)} {u0 u1 u3 u4 u5 : Option Value} {v2 : Int}   : gv d rR141 34 [u0, u1, some (.int (iI v2)), u3, u4, u5] [] (mk m q w) =
    some (.inl (some (.int (iI v2))), (mk m q w, (0, 0))) := by
  refine Eq.trans (k_ild2 rfl) ?_
  exact k_rtI rfl rfl
theorem e_141 {d : Nat} (hd : 1 ≤ d) {a0 a1 : Value} (M : rMem) (h0 : a0.category = 1) (h1 : a1.category = 1) : ev d 141 [a0, a1] M = gv (d - 1) rR141 0 [some a0, some a1, none, none, none, none] [] M := ev_at hd q_141 rfl (by simp [*]) rfl
/-! FanHouse.lot(II)I -/
theorem b_142_0 {d : Nat} {m : Nat → Nat → Int} {q : Nat → Nat → Option Nat} {w : Option (Nat → Int64)} {u3 u4 u5 : Option Value} {v1 v2 : Int}   : gv d rR142 0 [some (.ref 100), some (.int (iI v1)), some (.int (iI v2)), u3, u4, u5] [] (mk m q w) =
    rBd (ev d 128 [.int (iI v1)] (mk m q w)) (fun v M' => gv d rR142 5 [some (.ref 100), some (.int (iI v1)), some (.int (iI v2)), u3, u4, u5] (v.toList ++ [.ref 100]) M') := by
  refine Eq.trans (k_ald0 rfl) ?_
  refine Eq.trans (k_ild1 rfl) ?_
  exact k_cS1 rfl (by decide) q_128 rfl rfl (bl rfl)
theorem b_142_5 {d : Nat} {m : Nat → Nat → Int} {q : Nat → Nat → Option Nat} {w : Option (Nat → Int64)} {u3 u4 u5 : Option Value} {v1 v2 s1 : Int}   : gv d rR142 5 [some (.ref 100), some (.int (iI v1)), some (.int (iI v2)), u3, u4, u5] [.int (iI s1), .ref 100] (mk m q w) =
    if iI s1 = iI 0 then (gv d rR142 21 [some (.ref 100), some (.int (iI v1)), some (.int (iI v2)), u3, u4, u5] [.ref 100] (mk m q w)) else (rBd (ev d 6 [.int (iI v2), .int (iI 0), .int (iI 1)] (mk m q w)) (fun v M' => gv d rR142 14 [some (.ref 100), some (.int (iI v1)), some (.int (iI v2)), u3, u4, u5] (v.toList ++ [.ref 100]) M')) := by
  refine Eq.trans (k_i1eq rfl rfl) ?_
  refine ifc ?_ ?_
  · exact rfl
  · refine Eq.trans (k_ild2 rfl) ?_
    refine Eq.trans (k_con rfl) ?_
    refine Eq.trans (k_con rfl) ?_
    exact k_cS3 rfl (by decide) q_6 rfl rfl (bl rfl)
theorem b_142_14 {d : Nat} {m : Nat → Nat → Int} {q : Nat → Nat → Option Nat} {w : Option (Nat → Int64)} {u3 u4 u5 : Option Value} {v1 v2 s1 : Int}   : gv d rR142 14 [some (.ref 100), some (.int (iI v1)), some (.int (iI v2)), u3, u4, u5] [.int (iI s1), .ref 100] (mk m q w) =
    if iI s1 = iI 0 then (gv d rR142 21 [some (.ref 100), some (.int (iI v1)), some (.int (iI v2)), u3, u4, u5] [.ref 100] (mk m q w)) else (gv d rR142 22 [some (.ref 100), some (.int (iI v1)), some (.int (iI v2)), u3, u4, u5] [.int (iI 1), .ref 100] (mk m q w)) := by
  refine Eq.trans (k_i1eq rfl rfl) ?_
  refine ifc ?_ ?_
  · exact rfl
  · refine Eq.trans (k_con rfl) ?_
    refine Eq.trans (k_go rfl rfl) ?_
    exact rfl
theorem b_142_21 {d : Nat} {m : Nat → Nat → Int} {q : Nat → Nat → Option Nat} {w : Option (Nat → Int64)} {u3 u4 u5 : Option Value} {v1 v2 : Int}   : gv d rR142 21 [some (.ref 100), some (.int (iI v1)), some (.int (iI v2)), u3, u4, u5] [.ref 100] (mk m q w) =
    gv d rR142 22 [some (.ref 100), some (.int (iI v1)), some (.int (iI v2)), u3, u4, u5] [.int (iI 0), .ref 100] (mk m q w) := by
  refine Eq.trans (k_con rfl) ?_
  exact rfl
theorem b_142_22 {d : Nat} {m : Nat → Nat → Int} {q : Nat → Nat → Option Nat} {w : Option (Nat → Int64)} {u3 u4 u5 : Option Value} {v1 v2 s1 : Int}   : gv d rR142 22 [some (.ref 100), some (.int (iI v1)), some (.int (iI v2)), u3, u4, u5] [.int (iI s1), .ref 100] (mk m q w) =
    rBd (ev d 116 [.ref 100, .int (iI s1)] (mk m q w)) (fun v M' => gv d rR142 25 [some (.ref 100), some (.int (iI v1)), some (.int (iI v2)), u3, u4, u5] (v.toList ++ []) M') := by
  exact k_cV1 rfl s_100 q_116 rfl rfl rfl (bl rfl)
theorem b_142_25 {d : Nat} {m : Nat → Nat → Int} {q : Nat → Nat → Option Nat} {w : Option (Nat → Int64)} {u3 u4 u5 : Option Value} {v1 v2 : Int}   : gv d rR142 25 [some (.ref 100), some (.int (iI v1)), some (.int (iI v2)), u3, u4, u5] [] (mk m q w) =
    rBd (ev d 135 [.ref 100, .int (iI v1)] (mk m q w)) (fun v M' => gv d rR142 30 [some (.ref 100), some (.int (iI v1)), some (.int (iI v2)), u3, u4, u5] (v.toList ++ []) M') := by
  refine Eq.trans (k_ald0 rfl) ?_
  refine Eq.trans (k_ild1 rfl) ?_
  exact k_cV1 rfl s_100 q_135 rfl rfl rfl (bl rfl)
theorem b_142_30 {d : Nat} {m : Nat → Nat → Int} {q : Nat → Nat → Option Nat} {w : Option (Nat → Int64)} {u1 u3 u4 u5 : Option Value} {v2 s0 : Int}   : gv d rR142 30 [some (.ref 100), u1, some (.int (iI v2)), u3, u4, u5] [.int (iI s0)] (mk m q w) =
    gv d rR142 37 [some (.ref 100), u1, some (.int (iI v2)), some (.int (iI s0)), some (.int (iI 1)), some (.int (iI 2))] [] (mk m q w) := by
  refine Eq.trans (k_ist3 rfl) ?_
  refine Eq.trans (k_con rfl) ?_
  refine Eq.trans (k_ist4 rfl) ?_
  refine Eq.trans (k_con rfl) ?_
  refine Eq.trans (k_ist5 rfl) ?_
  exact rfl
theorem b_142_37 {d : Nat} {m : Nat → Nat → Int} {q : Nat → Nat → Option Nat} {w : Option (Nat → Int64)} {u1 : Option Value} {v2 v3 v4 v5 : Int}   : gv d rR142 37 [some (.ref 100), u1, some (.int (iI v2)), some (.int (iI v3)), some (.int (iI v4)), some (.int (iI v5))] [] (mk m q w) =
    if iI (m 108 0) < iI v5 then (rBd (ev d 141 [.int (iI v3), .int (iI (zShl v4 (m 108 0)))] (mk m q w)) (fun v M' => gv d rR142 86 [some (.ref 100), u1, some (.int (iI v2)), some (.int (iI v3)), some (.int (iI (zShl v4 (m 108 0)))), some (.int (iI v5))] (v.toList ++ []) M')) else (gv d rR142 37 [some (.ref 100), u1, some (.int (iI v2)), some (.int (iI v3)), some (.int (iI (v4 * v5))), some (.int (iI (v5 + 1)))] [] (mk m q w)) := by
  refine Eq.trans (k_ild5 rfl) ?_
  refine Eq.trans (k_ald0 rfl) ?_
  refine Eq.trans (k_gtR rfl s_100 rfl (by decide)) ?_
  refine Eq.trans (k_gtR rfl s_107 rfl (by decide)) ?_
  refine Eq.trans (k_gtI rfl s_108 rfl (by decide)) ?_
  refine Eq.trans (k_i2gt rfl rfl) ?_
  refine ifc ?_ ?_
  · refine Eq.trans (k_ild4 rfl) ?_
    refine Eq.trans (k_ald0 rfl) ?_
    refine Eq.trans (k_gtR rfl s_100 rfl (by decide)) ?_
    refine Eq.trans (k_gtR rfl s_107 rfl (by decide)) ?_
    refine Eq.trans (k_gtI rfl s_108 rfl (by decide)) ?_
    refine Eq.trans (k_shl rfl) ?_
    refine Eq.trans (k_ist4 rfl) ?_
    refine Eq.trans (k_ild3 rfl) ?_
    refine Eq.trans (k_ild4 rfl) ?_
    exact k_cS2 rfl (by decide) q_141 rfl rfl (bl rfl)
  · refine Eq.trans (k_ild4 rfl) ?_
    refine Eq.trans (k_ild5 rfl) ?_
    refine Eq.trans (k_mul rfl) ?_
    refine Eq.trans (k_ist4 rfl) ?_
    refine Eq.trans (k_inc5 rfl) ?_
    refine Eq.trans (k_go rfl rfl) ?_
    exact rfl
theorem b_142_86 {d : Nat} {m : Nat → Nat → Int} {q : Nat → Nat → Option Nat} {w : Option (Nat → Int64)} {u0 u1 u5 : Option Value} {v2 v3 v4 s0 : Int}   : gv d rR142 86 [u0, u1, some (.int (iI v2)), some (.int (iI v3)), some (.int (iI v4)), u5] [.int (iI s0)] (mk m q w) =
    if iI v2 = iI 0 then (gv d rR142 98 [u0, u1, some (.int (iI v2)), some (.int (iI v3)), some (.int (iI v4)), some (.int (iI s0))] [.int (iI v3)] (mk m q w)) else (gv d rR142 98 [u0, u1, some (.int (iI v2)), some (.int (iI v3)), some (.int (iI v4)), some (.int (iI s0))] [.int (iI v4)] (mk m q w)) := by
  refine Eq.trans (k_ist5 rfl) ?_
  refine Eq.trans (k_ild2 rfl) ?_
  refine Eq.trans (k_i1ne rfl rfl) ?_
  refine ifc ?_ ?_
  · refine Eq.trans (k_ild3 rfl) ?_
    refine Eq.trans (k_go rfl rfl) ?_
    exact rfl
  · refine Eq.trans (k_ild4 rfl) ?_
    exact rfl
theorem b_142_98 {d : Nat} {m : Nat → Nat → Int} {q : Nat → Nat → Option Nat} {w : Option (Nat → Int64)} {u0 u1 u2 u3 u4 : Option Value} {v5 s0 : Int}  (g0 : 9 ≤ d) (g1 : iI (if iI v5 < iI 1 then 1 else v5) ≠ 0) : gv d rR142 98 [u0, u1, u2, u3, u4, some (.int (iI v5))] [.int (iI s0)] (mk m q w) =
    some (.inl (some (.int (iI (zDiv s0 (if iI v5 < iI 1 then 1 else v5))))), (mk m q w, (0, 0))) := by
  refine Eq.trans (k_ild5 rfl) ?_
  refine Eq.trans (k_con rfl) ?_
  refine Eq.trans (k_max rfl g0 (bl rfl)) ?_
  refine Eq.trans (k_div rfl g1) ?_
  exact k_rtI rfl rfl
theorem e_142 {d : Nat} (hd : 1 ≤ d) {a0 a1 a2 : Value} (M : rMem) (h0 : a0.category = 1) (h1 : a1.category = 1) (h2 : a2.category = 1) : ev d 142 [a0, a1, a2] M = gv (d - 1) rR142 0 [some a0, some a1, some a2, none, none, none] [] M := ev_at hd q_142 rfl (by simp [*]) rfl
/-! FanHouse.off(I)I -/
theorem b_143_0 {d : Nat} {m : Nat → Nat → Int} {q : Nat → Nat → Option Nat} {w : Option (Nat → Int64)} {v1 : Int}   : gv d rR143 0 [some (.ref 100), some (.int (iI v1))] [] (mk m q w) =
    rBd (ev d 128 [.int (iI v1)] (mk m q w)) (fun v M' => gv d rR143 5 [some (.ref 100), some (.int (iI v1))] (v.toList ++ [.ref 100]) M') := by
  refine Eq.trans (k_ald0 rfl) ?_
  refine Eq.trans (k_ild1 rfl) ?_
  exact k_cS1 rfl (by decide) q_128 rfl rfl (bl rfl)
theorem b_143_5 {d : Nat} {m : Nat → Nat → Int} {q : Nat → Nat → Option Nat} {w : Option (Nat → Int64)} {v1 s1 : Int}   : gv d rR143 5 [some (.ref 100), some (.int (iI v1))] [.int (iI s1), .ref 100] (mk m q w) =
    rBd (ev d 116 [.ref 100, .int (iI s1)] (mk m q w)) (fun v M' => gv d rR143 8 [some (.ref 100), some (.int (iI v1))] (v.toList ++ []) M') := by
  exact k_cV1 rfl s_100 q_116 rfl rfl rfl (bl rfl)
theorem b_143_8 {d : Nat} {m : Nat → Nat → Int} {q : Nat → Nat → Option Nat} {w : Option (Nat → Int64)} {v1 : Int}   : gv d rR143 8 [some (.ref 100), some (.int (iI v1))] [] (mk m q w) =
    gv d rR143 14 [some (.ref 100), some (.int (iI v1))] (rOv (q 181 0) :: []) (mk m q w) := by
  refine Eq.trans (k_ald0 rfl) ?_
  refine Eq.trans (k_gtR rfl s_100 rfl (by decide)) ?_
  refine Eq.trans (k_con rfl) ?_
  exact k_aaV (t := 1) rfl s_181 (bl rfl) (by decide) (by decide)
theorem b_143_14 {d : Nat} {m : Nat → Nat → Int} {q : Nat → Nat → Option Nat} {w : Option (Nat → Int64)} {v1 : Int} {z13 : Nat} (hz13 : iPic z13)  : gv d rR143 14 [some (.ref 100), some (.int (iI v1))] [.ref z13] (mk m q w) =
    rBd (ev d 76 [.ref z13, .ref 108, .int (iI v1)] (mk m q w)) (fun v M' => gv d rR143 25 [some (.ref 100), some (.int (iI v1))] (v.toList ++ []) M') := by
  refine Eq.trans (k_ald0 rfl) ?_
  refine Eq.trans (k_gtR rfl s_100 rfl (by decide)) ?_
  refine Eq.trans (k_gtR rfl s_107 rfl (by decide)) ?_
  refine Eq.trans (k_ild1 rfl) ?_
  exact k_cV2 rfl (pic_0 hz13) q_76 rfl rfl rfl (bl rfl)
theorem b_143_25 {d : Nat} {m : Nat → Nat → Int} {q : Nat → Nat → Option Nat} {w : Option (Nat → Int64)} {u0 u1 : Option Value} {s0 : Int}   : gv d rR143 25 [u0, u1] [.int (iI s0)] (mk m q w) =
    some (.inl (some (.int (iI s0))), (mk m q w, (0, 0))) := by
  exact k_rtI rfl rfl
theorem e_143 {d : Nat} (hd : 1 ≤ d) {a0 a1 : Value} (M : rMem) (h0 : a0.category = 1) (h1 : a1.category = 1) : ev d 143 [a0, a1] M = gv (d - 1) rR143 0 [some a0, some a1] [] M := ev_at hd q_143 rfl (by simp [*]) rfl
/-! FanHouse.run(II)I -/
theorem b_144_0 {d : Nat} {m : Nat → Nat → Int} {q : Nat → Nat → Option Nat} {w : Option (Nat → Int64)} {u3 u4 u5 u6 u7 u8 : Option Value} {v1 v2 : Int}   : gv d rR144 0 [some (.ref 100), some (.int (iI v1)), some (.int (iI v2)), u3, u4, u5, u6, u7, u8] [] (mk m q w) =
    rBd (ev d 128 [.int (iI v1)] (mk m q w)) (fun v M' => gv d rR144 5 [some (.ref 100), some (.int (iI v1)), some (.int (iI v2)), u3, u4, u5, u6, u7, u8] (v.toList ++ [.ref 100]) M') := by
  refine Eq.trans (k_ald0 rfl) ?_
  refine Eq.trans (k_ild1 rfl) ?_
  exact k_cS1 rfl (by decide) q_128 rfl rfl (bl rfl)
theorem b_144_5 {d : Nat} {m : Nat → Nat → Int} {q : Nat → Nat → Option Nat} {w : Option (Nat → Int64)} {u3 u4 u5 u6 u7 u8 : Option Value} {v1 v2 s1 : Int}   : gv d rR144 5 [some (.ref 100), some (.int (iI v1)), some (.int (iI v2)), u3, u4, u5, u6, u7, u8] [.int (iI s1), .ref 100] (mk m q w) =
    if iI s1 = iI 0 then (gv d rR144 21 [some (.ref 100), some (.int (iI v1)), some (.int (iI v2)), u3, u4, u5, u6, u7, u8] [.ref 100] (mk m q w)) else (rBd (ev d 6 [.int (iI v2), .int (iI 0), .int (iI 1)] (mk m q w)) (fun v M' => gv d rR144 14 [some (.ref 100), some (.int (iI v1)), some (.int (iI v2)), u3, u4, u5, u6, u7, u8] (v.toList ++ [.ref 100]) M')) := by
  refine Eq.trans (k_i1eq rfl rfl) ?_
  refine ifc ?_ ?_
  · exact rfl
  · refine Eq.trans (k_ild2 rfl) ?_
    refine Eq.trans (k_con rfl) ?_
    refine Eq.trans (k_con rfl) ?_
    exact k_cS3 rfl (by decide) q_6 rfl rfl (bl rfl)
theorem b_144_14 {d : Nat} {m : Nat → Nat → Int} {q : Nat → Nat → Option Nat} {w : Option (Nat → Int64)} {u3 u4 u5 u6 u7 u8 : Option Value} {v1 v2 s1 : Int}   : gv d rR144 14 [some (.ref 100), some (.int (iI v1)), some (.int (iI v2)), u3, u4, u5, u6, u7, u8] [.int (iI s1), .ref 100] (mk m q w) =
    if iI s1 = iI 0 then (gv d rR144 21 [some (.ref 100), some (.int (iI v1)), some (.int (iI v2)), u3, u4, u5, u6, u7, u8] [.ref 100] (mk m q w)) else (gv d rR144 22 [some (.ref 100), some (.int (iI v1)), some (.int (iI v2)), u3, u4, u5, u6, u7, u8] [.int (iI 1), .ref 100] (mk m q w)) := by
  refine Eq.trans (k_i1eq rfl rfl) ?_
  refine ifc ?_ ?_
  · exact rfl
  · refine Eq.trans (k_con rfl) ?_
    refine Eq.trans (k_go rfl rfl) ?_
    exact rfl
theorem b_144_21 {d : Nat} {m : Nat → Nat → Int} {q : Nat → Nat → Option Nat} {w : Option (Nat → Int64)} {u3 u4 u5 u6 u7 u8 : Option Value} {v1 v2 : Int}   : gv d rR144 21 [some (.ref 100), some (.int (iI v1)), some (.int (iI v2)), u3, u4, u5, u6, u7, u8] [.ref 100] (mk m q w) =
    gv d rR144 22 [some (.ref 100), some (.int (iI v1)), some (.int (iI v2)), u3, u4, u5, u6, u7, u8] [.int (iI 0), .ref 100] (mk m q w) := by
  refine Eq.trans (k_con rfl) ?_
  exact rfl
theorem b_144_22 {d : Nat} {m : Nat → Nat → Int} {q : Nat → Nat → Option Nat} {w : Option (Nat → Int64)} {u3 u4 u5 u6 u7 u8 : Option Value} {v1 v2 s1 : Int}   : gv d rR144 22 [some (.ref 100), some (.int (iI v1)), some (.int (iI v2)), u3, u4, u5, u6, u7, u8] [.int (iI s1), .ref 100] (mk m q w) =
    rBd (ev d 116 [.ref 100, .int (iI s1)] (mk m q w)) (fun v M' => gv d rR144 25 [some (.ref 100), some (.int (iI v1)), some (.int (iI v2)), u3, u4, u5, u6, u7, u8] (v.toList ++ []) M') := by
  exact k_cV1 rfl s_100 q_116 rfl rfl rfl (bl rfl)
theorem b_144_25 {d : Nat} {m : Nat → Nat → Int} {q : Nat → Nat → Option Nat} {w : Option (Nat → Int64)} {u3 u4 u5 u6 u7 u8 : Option Value} {v1 v2 : Int}   : gv d rR144 25 [some (.ref 100), some (.int (iI v1)), some (.int (iI v2)), u3, u4, u5, u6, u7, u8] [] (mk m q w) =
    gv d rR144 36 [some (.ref 100), some (.int (iI v1)), some (.int (iI v2)), some (.int (iI 0)), some (.int (iI (-1))), some (.int (iI 0)), some (.int (iI 0)), u7, u8] [] (mk m q w) := by
  refine Eq.trans (k_con rfl) ?_
  refine Eq.trans (k_ist3 rfl) ?_
  refine Eq.trans (k_con rfl) ?_
  refine Eq.trans (k_ist4 rfl) ?_
  refine Eq.trans (k_con rfl) ?_
  refine Eq.trans (k_ist5 rfl) ?_
  refine Eq.trans (k_con rfl) ?_
  refine Eq.trans (k_ist6 rfl) ?_
  exact rfl
theorem b_144_36 {d : Nat} {m : Nat → Nat → Int} {q : Nat → Nat → Option Nat} {w : Option (Nat → Int64)} {u7 u8 : Option Value} {v1 v2 v3 v4 v5 v6 : Int}   : gv d rR144 36 [some (.ref 100), some (.int (iI v1)), some (.int (iI v2)), some (.int (iI v3)), some (.int (iI v4)), some (.int (iI v5)), some (.int (iI v6)), u7, u8] [] (mk m q w) =
    if iI v6 < iI (m 108 0) then (rBd (ev d 19 [.ref 108, .int (iI v1), .int (iI v6)] (mk m q w)) (fun v M' => gv d rR144 64 [some (.ref 100), some (.int (iI v1)), some (.int (iI v2)), some (.int (iI v3)), some (.int (iI v4)), some (.int (iI v5)), some (.int (iI v6)), u7, u8] (v.toList ++ []) M')) else (if iI v2 = iI 0 then (gv d rR144 142 [some (.ref 100), some (.int (iI v1)), some (.int (iI v2)), some (.int (iI v3)), some (.int (iI v4)), some (.int (iI v5)), some (.int (iI v6)), u7, u8] [.int (iI v3)] (mk m q w)) else (gv d rR144 142 [some (.ref 100), some (.int (iI v1)), some (.int (iI v2)), some (.int (iI v3)), some (.int (iI v4)), some (.int (iI v5)), some (.int (iI v6)), u7, u8] [.int (iI v4)] (mk m q w))) := by
  refine Eq.trans (k_ild6 rfl) ?_
  refine Eq.trans (k_ald0 rfl) ?_
  refine Eq.trans (k_gtR rfl s_100 rfl (by decide)) ?_
  refine Eq.trans (k_gtR rfl s_107 rfl (by decide)) ?_
  refine Eq.trans (k_gtI rfl s_108 rfl (by decide)) ?_
  refine Eq.trans (k_i2ge rfl rfl) ?_
  refine ifc ?_ ?_
  · refine Eq.trans (k_ald0 rfl) ?_
    refine Eq.trans (k_gtR rfl s_100 rfl (by decide)) ?_
    refine Eq.trans (k_gtR rfl s_107 rfl (by decide)) ?_
    refine Eq.trans (k_ild1 rfl) ?_
    refine Eq.trans (k_ild6 rfl) ?_
    exact k_cV2 rfl s_108 q_19 rfl rfl rfl (bl rfl)
  · refine Eq.trans (k_ild2 rfl) ?_
    refine Eq.trans (k_i1ne rfl rfl) ?_
    refine ifc ?_ ?_
    · refine Eq.trans (k_ild3 rfl) ?_
      refine Eq.trans (k_go rfl rfl) ?_
      exact rfl
    · refine Eq.trans (k_ild4 rfl) ?_
      exact rfl
theorem b_144_64 {d : Nat} {m : Nat → Nat → Int} {q : Nat → Nat → Option Nat} {w : Option (Nat → Int64)} {u7 u8 : Option Value} {v1 v2 v3 v4 v5 v6 s0 : Int}   : gv d rR144 64 [some (.ref 100), some (.int (iI v1)), some (.int (iI v2)), some (.int (iI v3)), some (.int (iI v4)), some (.int (iI v5)), some (.int (iI v6)), u7, u8] [.int (iI s0)] (mk m q w) =
    if iI 0 < iI v6 then (rBd (ev d 19 [.ref 108, .int (iI v1), .int (iI (v6 - 1))] (mk m q w)) (fun v M' => gv d rR144 88 [some (.ref 100), some (.int (iI v1)), some (.int (iI v2)), some (.int (iI v3)), some (.int (iI v4)), some (.int (iI v5)), some (.int (iI v6)), some (.int (iI s0)), u8] (v.toList ++ [.int (iI s0)]) M')) else (gv d rR144 95 [some (.ref 100), some (.int (iI v1)), some (.int (iI v2)), some (.int (iI v3)), some (.int (iI v4)), some (.int (iI v5)), some (.int (iI v6)), some (.int (iI s0)), u8] [] (mk m q w)) := by
  refine Eq.trans (k_ist7 rfl) ?_
  refine Eq.trans (k_ild6 rfl) ?_
  refine Eq.trans (k_i1le rfl rfl) ?_
  refine ifc ?_ ?_
  · refine Eq.trans (k_ild7 rfl) ?_
    refine Eq.trans (k_ald0 rfl) ?_
    refine Eq.trans (k_gtR rfl s_100 rfl (by decide)) ?_
    refine Eq.trans (k_gtR rfl s_107 rfl (by decide)) ?_
    refine Eq.trans (k_ild1 rfl) ?_
    refine Eq.trans (k_ild6 rfl) ?_
    refine Eq.trans (k_con rfl) ?_
    refine Eq.trans (k_sub rfl) ?_
    exact k_cV2 rfl s_108 q_19 rfl rfl rfl (bl rfl)
  · exact rfl
theorem b_144_88 {d : Nat} {m : Nat → Nat → Int} {q : Nat → Nat → Option Nat} {w : Option (Nat → Int64)} {u8 : Option Value} {v1 v2 v3 v4 v5 v6 v7 s0 s1 : Int}   : gv d rR144 88 [some (.ref 100), some (.int (iI v1)), some (.int (iI v2)), some (.int (iI v3)), some (.int (iI v4)), some (.int (iI v5)), some (.int (iI v6)), some (.int (iI v7)), u8] [.int (iI s1), .int (iI s0)] (mk m q w) =
    if iI s0 = iI s1 then (gv d rR144 96 [some (.ref 100), some (.int (iI v1)), some (.int (iI v2)), some (.int (iI v3)), some (.int (iI v4)), some (.int (iI v5)), some (.int (iI v6)), some (.int (iI v7)), u8] [.int (iI 1)] (mk m q w)) else (gv d rR144 95 [some (.ref 100), some (.int (iI v1)), some (.int (iI v2)), some (.int (iI v3)), some (.int (iI v4)), some (.int (iI v5)), some (.int (iI v6)), some (.int (iI v7)), u8] [] (mk m q w)) := by
  refine Eq.trans (k_i2ne rfl rfl) ?_
  refine ifc ?_ ?_
  · refine Eq.trans (k_con rfl) ?_
    refine Eq.trans (k_go rfl rfl) ?_
    exact rfl
  · exact rfl
theorem b_144_95 {d : Nat} {m : Nat → Nat → Int} {q : Nat → Nat → Option Nat} {w : Option (Nat → Int64)} {u8 : Option Value} {v1 v2 v3 v4 v5 v6 v7 : Int}   : gv d rR144 95 [some (.ref 100), some (.int (iI v1)), some (.int (iI v2)), some (.int (iI v3)), some (.int (iI v4)), some (.int (iI v5)), some (.int (iI v6)), some (.int (iI v7)), u8] [] (mk m q w) =
    gv d rR144 96 [some (.ref 100), some (.int (iI v1)), some (.int (iI v2)), some (.int (iI v3)), some (.int (iI v4)), some (.int (iI v5)), some (.int (iI v6)), some (.int (iI v7)), u8] [.int (iI 0)] (mk m q w) := by
  refine Eq.trans (k_con rfl) ?_
  exact rfl
theorem b_144_96 {d : Nat} {m : Nat → Nat → Int} {q : Nat → Nat → Option Nat} {w : Option (Nat → Int64)} {u8 : Option Value} {v1 v2 v3 v4 v5 v6 v7 s0 : Int}   : gv d rR144 96 [some (.ref 100), some (.int (iI v1)), some (.int (iI v2)), some (.int (iI v3)), some (.int (iI v4)), some (.int (iI v5)), some (.int (iI v6)), some (.int (iI v7)), u8] [.int (iI s0)] (mk m q w) =
    if iI s0 = iI 0 then (gv d rR144 111 [some (.ref 100), some (.int (iI v1)), some (.int (iI v2)), some (.int (iI v3)), some (.int (iI v4)), some (.int (iI v5)), some (.int (iI v6)), some (.int (iI v7)), some (.int (iI s0))] [.int (iI 1)] (mk m q w)) else (gv d rR144 111 [some (.ref 100), some (.int (iI v1)), some (.int (iI v2)), some (.int (iI v3)), some (.int (iI v4)), some (.int (iI v5)), some (.int (iI v6)), some (.int (iI v7)), some (.int (iI s0))] [.int (iI (v5 + 1))] (mk m q w)) := by
  refine Eq.trans (k_ist8 rfl) ?_
  refine Eq.trans (k_ild8 rfl) ?_
  refine Eq.trans (k_i1eq rfl rfl) ?_
  refine ifc ?_ ?_
  · refine Eq.trans (k_con rfl) ?_
    exact rfl
  · refine Eq.trans (k_ild5 rfl) ?_
    refine Eq.trans (k_con rfl) ?_
    refine Eq.trans (k_add rfl) ?_
    refine Eq.trans (k_go rfl rfl) ?_
    exact rfl
theorem b_144_111 {d : Nat} {m : Nat → Nat → Int} {q : Nat → Nat → Option Nat} {w : Option (Nat → Int64)} {u5 u8 : Option Value} {v1 v2 v3 v4 v6 v7 s0 : Int}   : gv d rR144 111 [some (.ref 100), some (.int (iI v1)), some (.int (iI v2)), some (.int (iI v3)), some (.int (iI v4)), u5, some (.int (iI v6)), some (.int (iI v7)), u8] [.int (iI s0)] (mk m q w) =
    if iI v3 < iI s0 then (gv d rR144 126 [some (.ref 100), some (.int (iI v1)), some (.int (iI v2)), some (.int (iI s0)), some (.int (iI v7)), some (.int (iI s0)), some (.int (iI v6)), some (.int (iI v7)), u8] [] (mk m q w)) else (gv d rR144 126 [some (.ref 100), some (.int (iI v1)), some (.int (iI v2)), some (.int (iI v3)), some (.int (iI v4)), some (.int (iI s0)), some (.int (iI v6)), some (.int (iI v7)), u8] [] (mk m q w)) := by
  refine Eq.trans (k_ist5 rfl) ?_
  refine Eq.trans (k_ild5 rfl) ?_
  refine Eq.trans (k_ild3 rfl) ?_
  refine Eq.trans (k_i2le rfl rfl) ?_
  refine ifc ?_ ?_
  · refine Eq.trans (k_ild5 rfl) ?_
    refine Eq.trans (k_ist3 rfl) ?_
    refine Eq.trans (k_ild7 rfl) ?_
    refine Eq.trans (k_ist4 rfl) ?_
    exact rfl
  · exact rfl
theorem b_144_126 {d : Nat} {m : Nat → Nat → Int} {q : Nat → Nat → Option Nat} {w : Option (Nat → Int64)} {u7 u8 : Option Value} {v1 v2 v3 v4 v5 v6 : Int}   : gv d rR144 126 [some (.ref 100), some (.int (iI v1)), some (.int (iI v2)), some (.int (iI v3)), some (.int (iI v4)), some (.int (iI v5)), some (.int (iI v6)), u7, u8] [] (mk m q w) =
    gv d rR144 36 [some (.ref 100), some (.int (iI v1)), some (.int (iI v2)), some (.int (iI v3)), some (.int (iI v4)), some (.int (iI v5)), some (.int (iI (v6 + 1))), u7, u8] [] (mk m q w) := by
  refine Eq.trans (k_inc6 rfl) ?_
  refine Eq.trans (k_go rfl rfl) ?_
  exact rfl
theorem b_144_142 {d : Nat} {m : Nat → Nat → Int} {q : Nat → Nat → Option Nat} {w : Option (Nat → Int64)} {u0 u1 u2 u3 u4 u5 u6 u7 u8 : Option Value} {s0 : Int}   : gv d rR144 142 [u0, u1, u2, u3, u4, u5, u6, u7, u8] [.int (iI s0)] (mk m q w) =
    some (.inl (some (.int (iI s0))), (mk m q w, (0, 0))) := by
  exact k_rtI rfl rfl
theorem e_144 {d : Nat} (hd : 1 ≤ d) {a0 a1 a2 : Value} (M : rMem) (h0 : a0.category = 1) (h1 : a1.category = 1) (h2 : a2.category = 1) : ev d 144 [a0, a1, a2] M = gv (d - 1) rR144 0 [some a0, some a1, some a2, none, none, none, none, none, none] [] M := ev_at hd q_144 rfl (by simp [*]) rfl
/-! FanHouse.even()I -/
theorem b_145_0 {d : Nat} {m : Nat → Nat → Int} {q : Nat → Nat → Option Nat} {w : Option (Nat → Int64)} {u1 u2 : Option Value}   : gv d rR145 0 [some (.ref 100), u1, u2] [] (mk m q w) =
    gv d rR145 4 [some (.ref 100), some (.int (iI 0)), some (.int (iI 0))] [] (mk m q w) := by
  refine Eq.trans (k_con rfl) ?_
  refine Eq.trans (k_ist1 rfl) ?_
  refine Eq.trans (k_con rfl) ?_
  refine Eq.trans (k_ist2 rfl) ?_
  exact rfl
theorem b_145_4 {d : Nat} {m : Nat → Nat → Int} {q : Nat → Nat → Option Nat} {w : Option (Nat → Int64)} {v1 v2 : Int}   : gv d rR145 4 [some (.ref 100), some (.int (iI v1)), some (.int (iI v2))] [] (mk m q w) =
    if iI v2 < iI 4 then (rBd (ev d 34 [.ref 108, .int (iI v2)] (mk m q w)) (fun v M' => gv d rR145 20 [some (.ref 100), some (.int (iI v1)), some (.int (iI v2))] (v.toList ++ []) M')) else (some (.inl (some (.int (iI v1))), (mk m q w, (0, 0)))) := by
  refine Eq.trans (k_ild2 rfl) ?_
  refine Eq.trans (k_con rfl) ?_
  refine Eq.trans (k_i2ge rfl rfl) ?_
  refine ifc ?_ ?_
  · refine Eq.trans (k_ald0 rfl) ?_
    refine Eq.trans (k_gtR rfl s_100 rfl (by decide)) ?_
    refine Eq.trans (k_gtR rfl s_107 rfl (by decide)) ?_
    refine Eq.trans (k_ild2 rfl) ?_
    exact k_cV1 rfl s_108 q_34 rfl rfl rfl (bl rfl)
  · refine Eq.trans (k_ild1 rfl) ?_
    exact k_rtI rfl rfl
theorem b_145_20 {d : Nat} {m : Nat → Nat → Int} {q : Nat → Nat → Option Nat} {w : Option (Nat → Int64)} {v1 v2 s0 : Int}   : gv d rR145 20 [some (.ref 100), some (.int (iI v1)), some (.int (iI v2))] [.int (iI s0)] (mk m q w) =
    if iI s0 = iI 0 then (gv d rR145 29 [some (.ref 100), some (.int (iI v1)), some (.int (iI v2))] [] (mk m q w)) else (gv d rR145 29 [some (.ref 100), some (.int (iI (zOr v1 (zShl 1 v2)))), some (.int (iI v2))] [] (mk m q w)) := by
  refine Eq.trans (k_i1eq rfl rfl) ?_
  refine ifc ?_ ?_
  · exact rfl
  · refine Eq.trans (k_ild1 rfl) ?_
    refine Eq.trans (k_con rfl) ?_
    refine Eq.trans (k_ild2 rfl) ?_
    refine Eq.trans (k_shl rfl) ?_
    refine Eq.trans (k_ior rfl) ?_
    refine Eq.trans (k_ist1 rfl) ?_
    exact rfl
theorem b_145_29 {d : Nat} {m : Nat → Nat → Int} {q : Nat → Nat → Option Nat} {w : Option (Nat → Int64)} {v1 v2 : Int}   : gv d rR145 29 [some (.ref 100), some (.int (iI v1)), some (.int (iI v2))] [] (mk m q w) =
    gv d rR145 4 [some (.ref 100), some (.int (iI v1)), some (.int (iI (v2 + 1)))] [] (mk m q w) := by
  refine Eq.trans (k_inc2 rfl) ?_
  refine Eq.trans (k_go rfl rfl) ?_
  exact rfl
theorem e_145 {d : Nat} (hd : 1 ≤ d) {a0 : Value} (M : rMem) (h0 : a0.category = 1) : ev d 145 [a0] M = gv (d - 1) rR145 0 [some a0, none, none] [] M := ev_at hd q_145 rfl (by simp [*]) rfl
/-! FanHouse.fits(I)I -/
theorem b_146_0 {d : Nat} {m : Nat → Nat → Int} {q : Nat → Nat → Option Nat} {w : Option (Nat → Int64)} {v1 : Int}   : gv d rR146 0 [some (.ref 100), some (.int (iI v1))] [] (mk m q w) =
    rBd (ev d 6 [.int (iI v1), .int (iI 0), .int (iI 1)] (mk m q w)) (fun v M' => gv d rR146 7 [some (.ref 100), some (.int (iI v1))] (v.toList ++ [.ref 100]) M') := by
  refine Eq.trans (k_ald0 rfl) ?_
  refine Eq.trans (k_ild1 rfl) ?_
  refine Eq.trans (k_con rfl) ?_
  refine Eq.trans (k_con rfl) ?_
  exact k_cS3 rfl (by decide) q_6 rfl rfl (bl rfl)
theorem b_146_7 {d : Nat} {m : Nat → Nat → Int} {q : Nat → Nat → Option Nat} {w : Option (Nat → Int64)} {v1 s1 : Int}   : gv d rR146 7 [some (.ref 100), some (.int (iI v1))] [.int (iI s1), .ref 100] (mk m q w) =
    rBd (ev d 116 [.ref 100, .int (iI s1)] (mk m q w)) (fun v M' => gv d rR146 10 [some (.ref 100), some (.int (iI v1))] (v.toList ++ []) M') := by
  exact k_cV1 rfl s_100 q_116 rfl rfl rfl (bl rfl)
theorem b_146_10 {d : Nat} {m : Nat → Nat → Int} {q : Nat → Nat → Option Nat} {w : Option (Nat → Int64)} {v1 : Int}   : gv d rR146 10 [some (.ref 100), some (.int (iI v1))] [] (mk m q w) =
    gv d rR146 25 [some (.ref 100), some (.int (iI v1))] (rOv (q 100 12) :: [.ref 108, .ref 171]) (mk m q w) := by
  refine Eq.trans (k_ald0 rfl) ?_
  refine Eq.trans (k_gtR rfl s_100 rfl (by decide)) ?_
  refine Eq.trans (k_ald0 rfl) ?_
  refine Eq.trans (k_gtR rfl s_100 rfl (by decide)) ?_
  refine Eq.trans (k_gtR rfl s_107 rfl (by decide)) ?_
  refine Eq.trans (k_ald0 rfl) ?_
  exact k_gtV rfl s_100 rfl (by decide)
theorem b_146_25 {d : Nat} {m : Nat → Nat → Int} {q : Nat → Nat → Option Nat} {w : Option (Nat → Int64)} {v1 : Int} {z22 : Nat} (hz22 : iBook z22)  : gv d rR146 25 [some (.ref 100), some (.int (iI v1))] [.ref z22, .ref 108, .ref 171] (mk m q w) =
    rBd (ev d 54 [.ref 171, .ref 108, .ref z22] (mk m q w)) (fun v M' => gv d rR146 28 [some (.ref 100), some (.int (iI v1))] (v.toList ++ []) M') := by
  exact k_cV2 rfl s_171 q_54 rfl rfl rfl (bl rfl)
theorem b_146_28 {d : Nat} {m : Nat → Nat → Int} {q : Nat → Nat → Option Nat} {w : Option (Nat → Int64)} {v1 : Int}   : gv d rR146 28 [some (.ref 100), some (.int (iI v1))] [] (mk m q w) =
    if iI v1 = iI 0 then (gv d rR146 49 [some (.ref 100), some (.int (iI v1))] [.int (iI (m 171 3))] (mk m q w)) else (rBd (ev d 55 [.ref 171] (mk m q w)) (fun v M' => gv d rR146 49 [some (.ref 100), some (.int (iI v1))] (v.toList ++ []) M')) := by
  refine Eq.trans (k_ild1 rfl) ?_
  refine Eq.trans (k_i1ne rfl rfl) ?_
  refine ifc ?_ ?_
  · refine Eq.trans (k_ald0 rfl) ?_
    refine Eq.trans (k_gtR rfl s_100 rfl (by decide)) ?_
    refine Eq.trans (k_gtI rfl s_171 rfl (by decide)) ?_
    refine Eq.trans (k_go rfl rfl) ?_
    exact rfl
  · refine Eq.trans (k_ald0 rfl) ?_
    refine Eq.trans (k_gtR rfl s_100 rfl (by decide)) ?_
    exact k_cV0 rfl s_171 q_55 rfl rfl rfl (bl rfl)
theorem b_146_49 {d : Nat} {m : Nat → Nat → Int} {q : Nat → Nat → Option Nat} {w : Option (Nat → Int64)} {u0 u1 : Option Value} {s0 : Int}   : gv d rR146 49 [u0, u1] [.int (iI s0)] (mk m q w) =
    some (.inl (some (.int (iI s0))), (mk m q w, (0, 0))) := by
  exact k_rtI rfl rfl
theorem e_146 {d : Nat} (hd : 1 ≤ d) {a0 a1 : Value} (M : rMem) (h0 : a0.category = 1) (h1 : a1.category = 1) : ev d 146 [a0, a1] M = gv (d - 1) rR146 0 [some a0, some a1] [] M := ev_at hd q_146 rfl (by simp [*]) rfl
/-! FanHouse.look(I)I -/
theorem b_147_0 {d : Nat} {m : Nat → Nat → Int} {q : Nat → Nat → Option Nat} {w : Option (Nat → Int64)} {v1 : Int}   : gv d rR147 0 [some (.ref 100), some (.int (iI v1))] [] (mk m q w) =
    rBd (ev d 6 [.int (iI v1), .int (iI 0), .int (iI 1)] (mk m q w)) (fun v M' => gv d rR147 7 [some (.ref 100), some (.int (iI v1))] (v.toList ++ [.ref 100]) M') := by
  refine Eq.trans (k_ald0 rfl) ?_
  refine Eq.trans (k_ild1 rfl) ?_
  refine Eq.trans (k_con rfl) ?_
  refine Eq.trans (k_con rfl) ?_
  exact k_cS3 rfl (by decide) q_6 rfl rfl (bl rfl)
theorem b_147_7 {d : Nat} {m : Nat → Nat → Int} {q : Nat → Nat → Option Nat} {w : Option (Nat → Int64)} {v1 s1 : Int}   : gv d rR147 7 [some (.ref 100), some (.int (iI v1))] [.int (iI s1), .ref 100] (mk m q w) =
    rBd (ev d 116 [.ref 100, .int (iI s1)] (mk m q w)) (fun v M' => gv d rR147 10 [some (.ref 100), some (.int (iI v1))] (v.toList ++ []) M') := by
  exact k_cV1 rfl s_100 q_116 rfl rfl rfl (bl rfl)
theorem b_147_10 {d : Nat} {m : Nat → Nat → Int} {q : Nat → Nat → Option Nat} {w : Option (Nat → Int64)} {v1 : Int}   : gv d rR147 10 [some (.ref 100), some (.int (iI v1))] [] (mk m q w) =
    gv d rR147 25 [some (.ref 100), some (.int (iI v1))] (rOv (q 100 12) :: [.ref 108, .ref 171]) (mk m q w) := by
  refine Eq.trans (k_ald0 rfl) ?_
  refine Eq.trans (k_gtR rfl s_100 rfl (by decide)) ?_
  refine Eq.trans (k_ald0 rfl) ?_
  refine Eq.trans (k_gtR rfl s_100 rfl (by decide)) ?_
  refine Eq.trans (k_gtR rfl s_107 rfl (by decide)) ?_
  refine Eq.trans (k_ald0 rfl) ?_
  exact k_gtV rfl s_100 rfl (by decide)
theorem b_147_25 {d : Nat} {m : Nat → Nat → Int} {q : Nat → Nat → Option Nat} {w : Option (Nat → Int64)} {v1 : Int} {z22 : Nat} (hz22 : iBook z22)  : gv d rR147 25 [some (.ref 100), some (.int (iI v1))] [.ref z22, .ref 108, .ref 171] (mk m q w) =
    rBd (ev d 54 [.ref 171, .ref 108, .ref z22] (mk m q w)) (fun v M' => gv d rR147 28 [some (.ref 100), some (.int (iI v1))] (v.toList ++ []) M') := by
  exact k_cV2 rfl s_171 q_54 rfl rfl rfl (bl rfl)
theorem b_147_28 {d : Nat} {m : Nat → Nat → Int} {q : Nat → Nat → Option Nat} {w : Option (Nat → Int64)} {v1 : Int}   : gv d rR147 28 [some (.ref 100), some (.int (iI v1))] [] (mk m q w) =
    gv d rR147 36 [some (.ref 100), some (.int (iI v1))] (rOv (q 100 12) :: [.ref 171]) (mk m q w) := by
  refine Eq.trans (k_ald0 rfl) ?_
  refine Eq.trans (k_gtR rfl s_100 rfl (by decide)) ?_
  refine Eq.trans (k_ald0 rfl) ?_
  exact k_gtV rfl s_100 rfl (by decide)
theorem b_147_36 {d : Nat} {m : Nat → Nat → Int} {q : Nat → Nat → Option Nat} {w : Option (Nat → Int64)} {v1 : Int} {z33 : Nat} (hz33 : iBook z33)  : gv d rR147 36 [some (.ref 100), some (.int (iI v1))] [.ref z33, .ref 171] (mk m q w) =
    rBd (ev d 58 [.ref 171, .ref z33] (mk m q w)) (fun v M' => gv d rR147 39 [some (.ref 100), some (.int (iI v1))] (v.toList ++ []) M') := by
  exact k_cV1 rfl s_171 q_58 rfl rfl rfl (bl rfl)
theorem b_147_39 {d : Nat} {m : Nat → Nat → Int} {q : Nat → Nat → Option Nat} {w : Option (Nat → Int64)} {v1 : Int}   : gv d rR147 39 [some (.ref 100), some (.int (iI v1))] [] (mk m q w) =
    if iI v1 = iI 0 then (gv d rR147 60 [some (.ref 100), some (.int (iI v1))] [.int (iI (m 171 4))] (mk m q w)) else (gv d rR147 60 [some (.ref 100), some (.int (iI v1))] [.int (iI (m 171 5))] (mk m q w)) := by
  refine Eq.trans (k_ild1 rfl) ?_
  refine Eq.trans (k_i1ne rfl rfl) ?_
  refine ifc ?_ ?_
  · refine Eq.trans (k_ald0 rfl) ?_
    refine Eq.trans (k_gtR rfl s_100 rfl (by decide)) ?_
    refine Eq.trans (k_gtI rfl s_171 rfl (by decide)) ?_
    refine Eq.trans (k_go rfl rfl) ?_
    exact rfl
  · refine Eq.trans (k_ald0 rfl) ?_
    refine Eq.trans (k_gtR rfl s_100 rfl (by decide)) ?_
    refine Eq.trans (k_gtI rfl s_171 rfl (by decide)) ?_
    exact rfl
theorem b_147_60 {d : Nat} {m : Nat → Nat → Int} {q : Nat → Nat → Option Nat} {w : Option (Nat → Int64)} {u0 u1 : Option Value} {s0 : Int}   : gv d rR147 60 [u0, u1] [.int (iI s0)] (mk m q w) =
    some (.inl (some (.int (iI s0))), (mk m q w, (0, 0))) := by
  exact k_rtI rfl rfl
theorem e_147 {d : Nat} (hd : 1 ≤ d) {a0 a1 : Value} (M : rMem) (h0 : a0.category = 1) (h1 : a1.category = 1) : ev d 147 [a0, a1] M = gv (d - 1) rR147 0 [some a0, some a1] [] M := ev_at hd q_147 rfl (by simp [*]) rfl
/-! FanHouse.ahead(II)I -/
theorem b_148_0 {d : Nat} {m : Nat → Nat → Int} {q : Nat → Nat → Option Nat} {w : Option (Nat → Int64)} {u3 : Option Value} {v1 v2 : Int}   : gv d rR148 0 [some (.ref 100), some (.int (iI v1)), some (.int (iI v2)), u3] [] (mk m q w) =
    rBd (ev d 6 [.int (iI v1), .int (iI 0), .int (iI 99)] (mk m q w)) (fun v M' => gv d rR148 8 [some (.ref 100), some (.int (iI v1)), some (.int (iI v2)), u3] (v.toList ++ [.ref 100]) M') := by
  refine Eq.trans (k_ald0 rfl) ?_
  refine Eq.trans (k_ild1 rfl) ?_
  refine Eq.trans (k_con rfl) ?_
  refine Eq.trans (k_bip rfl (by decide)) ?_
  exact k_cS3 rfl (by decide) q_6 rfl rfl (bl rfl)
theorem b_148_8 {d : Nat} {m : Nat → Nat → Int} {q : Nat → Nat → Option Nat} {w : Option (Nat → Int64)} {u3 : Option Value} {v1 v2 s1 : Int}   : gv d rR148 8 [some (.ref 100), some (.int (iI v1)), some (.int (iI v2)), u3] [.int (iI s1), .ref 100] (mk m q w) =
    if iI s1 = iI 0 then (gv d rR148 24 [some (.ref 100), some (.int (iI v1)), some (.int (iI v2)), u3] [.ref 100] (mk m q w)) else (rBd (ev d 6 [.int (iI v2), .int (iI 0), .int (iI 1)] (mk m q w)) (fun v M' => gv d rR148 17 [some (.ref 100), some (.int (iI v1)), some (.int (iI v2)), u3] (v.toList ++ [.ref 100]) M')) := by
  refine Eq.trans (k_i1eq rfl rfl) ?_
  refine ifc ?_ ?_
  · exact rfl
  · refine Eq.trans (k_ild2 rfl) ?_
    refine Eq.trans (k_con rfl) ?_
    refine Eq.trans (k_con rfl) ?_
    exact k_cS3 rfl (by decide) q_6 rfl rfl (bl rfl)
theorem b_148_17 {d : Nat} {m : Nat → Nat → Int} {q : Nat → Nat → Option Nat} {w : Option (Nat → Int64)} {u3 : Option Value} {v1 v2 s1 : Int}   : gv d rR148 17 [some (.ref 100), some (.int (iI v1)), some (.int (iI v2)), u3] [.int (iI s1), .ref 100] (mk m q w) =
    if iI s1 = iI 0 then (gv d rR148 24 [some (.ref 100), some (.int (iI v1)), some (.int (iI v2)), u3] [.ref 100] (mk m q w)) else (gv d rR148 25 [some (.ref 100), some (.int (iI v1)), some (.int (iI v2)), u3] [.int (iI 1), .ref 100] (mk m q w)) := by
  refine Eq.trans (k_i1eq rfl rfl) ?_
  refine ifc ?_ ?_
  · exact rfl
  · refine Eq.trans (k_con rfl) ?_
    refine Eq.trans (k_go rfl rfl) ?_
    exact rfl
theorem b_148_24 {d : Nat} {m : Nat → Nat → Int} {q : Nat → Nat → Option Nat} {w : Option (Nat → Int64)} {u3 : Option Value} {v1 v2 : Int}   : gv d rR148 24 [some (.ref 100), some (.int (iI v1)), some (.int (iI v2)), u3] [.ref 100] (mk m q w) =
    gv d rR148 25 [some (.ref 100), some (.int (iI v1)), some (.int (iI v2)), u3] [.int (iI 0), .ref 100] (mk m q w) := by
  refine Eq.trans (k_con rfl) ?_
  exact rfl
theorem b_148_25 {d : Nat} {m : Nat → Nat → Int} {q : Nat → Nat → Option Nat} {w : Option (Nat → Int64)} {u3 : Option Value} {v1 v2 s1 : Int}   : gv d rR148 25 [some (.ref 100), some (.int (iI v1)), some (.int (iI v2)), u3] [.int (iI s1), .ref 100] (mk m q w) =
    rBd (ev d 116 [.ref 100, .int (iI s1)] (mk m q w)) (fun v M' => gv d rR148 28 [some (.ref 100), some (.int (iI v1)), some (.int (iI v2)), u3] (v.toList ++ []) M') := by
  exact k_cV1 rfl s_100 q_116 rfl rfl rfl (bl rfl)
theorem b_148_28 {d : Nat} {m : Nat → Nat → Int} {q : Nat → Nat → Option Nat} {w : Option (Nat → Int64)} {u3 : Option Value} {v1 v2 : Int}   : gv d rR148 28 [some (.ref 100), some (.int (iI v1)), some (.int (iI v2)), u3] [] (mk m q w) =
    rBd (ev d 22 [.ref 161, .ref 108] (mk m q w)) (fun v M' => gv d rR148 42 [some (.ref 100), some (.int (iI v1)), some (.int (iI v2)), u3] (v.toList ++ []) M') := by
  refine Eq.trans (k_ald0 rfl) ?_
  refine Eq.trans (k_gtR rfl s_100 rfl (by decide)) ?_
  refine Eq.trans (k_ald0 rfl) ?_
  refine Eq.trans (k_gtR rfl s_100 rfl (by decide)) ?_
  refine Eq.trans (k_gtR rfl s_107 rfl (by decide)) ?_
  exact k_cV1 rfl s_161 q_22 rfl rfl rfl (bl rfl)
theorem b_148_42 {d : Nat} {m : Nat → Nat → Int} {q : Nat → Nat → Option Nat} {w : Option (Nat → Int64)} {u3 : Option Value} {v1 v2 : Int}   : gv d rR148 42 [some (.ref 100), some (.int (iI v1)), some (.int (iI v2)), u3] [] (mk m q w) =
    gv d rR148 44 [some (.ref 100), some (.int (iI v1)), some (.int (iI v2)), some (.int (iI 0))] [] (mk m q w) := by
  refine Eq.trans (k_con rfl) ?_
  refine Eq.trans (k_ist3 rfl) ?_
  exact rfl
theorem b_148_44 {d : Nat} {m : Nat → Nat → Int} {q : Nat → Nat → Option Nat} {w : Option (Nat → Int64)} {v1 v2 v3 : Int}   : gv d rR148 44 [some (.ref 100), some (.int (iI v1)), some (.int (iI v2)), some (.int (iI v3))] [] (mk m q w) =
    if iI v3 < iI v1 then (rBd (ev d 49 [.ref 161] (mk m q w)) (fun v M' => gv d rR148 56 [some (.ref 100), some (.int (iI v1)), some (.int (iI v2)), some (.int (iI v3))] (v.toList ++ []) M')) else (if iI v2 = iI 0 then (gv d rR148 83 [some (.ref 100), some (.int (iI v1)), some (.int (iI v2)), some (.int (iI v3))] [.int (iI (m 161 2))] (mk m q w)) else (gv d rR148 83 [some (.ref 100), some (.int (iI v1)), some (.int (iI v2)), some (.int (iI v3))] [.int (iI (m 161 3))] (mk m q w))) := by
  refine Eq.trans (k_ild3 rfl) ?_
  refine Eq.trans (k_ild1 rfl) ?_
  refine Eq.trans (k_i2ge rfl rfl) ?_
  refine ifc ?_ ?_
  · refine Eq.trans (k_ald0 rfl) ?_
    refine Eq.trans (k_gtR rfl s_100 rfl (by decide)) ?_
    exact k_cV0 rfl s_161 q_49 rfl rfl rfl (bl rfl)
  · refine Eq.trans (k_ild2 rfl) ?_
    refine Eq.trans (k_i1ne rfl rfl) ?_
    refine ifc ?_ ?_
    · refine Eq.trans (k_ald0 rfl) ?_
      refine Eq.trans (k_gtR rfl s_100 rfl (by decide)) ?_
      refine Eq.trans (k_gtI rfl s_161 rfl (by decide)) ?_
      refine Eq.trans (k_go rfl rfl) ?_
      exact rfl
    · refine Eq.trans (k_ald0 rfl) ?_
      refine Eq.trans (k_gtR rfl s_100 rfl (by decide)) ?_
      refine Eq.trans (k_gtI rfl s_161 rfl (by decide)) ?_
      exact rfl
theorem b_148_56 {d : Nat} {m : Nat → Nat → Int} {q : Nat → Nat → Option Nat} {w : Option (Nat → Int64)} {v1 v2 v3 : Int}   : gv d rR148 56 [some (.ref 100), some (.int (iI v1)), some (.int (iI v2)), some (.int (iI v3))] [] (mk m q w) =
    gv d rR148 44 [some (.ref 100), some (.int (iI v1)), some (.int (iI v2)), some (.int (iI (v3 + 1)))] [] (mk m q w) := by
  refine Eq.trans (k_inc3 rfl) ?_
  refine Eq.trans (k_go rfl rfl) ?_
  exact rfl
theorem b_148_83 {d : Nat} {m : Nat → Nat → Int} {q : Nat → Nat → Option Nat} {w : Option (Nat → Int64)} {u0 u1 u2 u3 : Option Value} {s0 : Int}   : gv d rR148 83 [u0, u1, u2, u3] [.int (iI s0)] (mk m q w) =
    some (.inl (some (.int (iI s0))), (mk m q w, (0, 0))) := by
  exact k_rtI rfl rfl
theorem e_148 {d : Nat} (hd : 1 ≤ d) {a0 a1 a2 : Value} (M : rMem) (h0 : a0.category = 1) (h1 : a1.category = 1) (h2 : a2.category = 1) : ev d 148 [a0, a1, a2] M = gv (d - 1) rR148 0 [some a0, some a1, some a2, none] [] M := ev_at hd q_148 rfl (by simp [*]) rfl
/-! FanHouse.lasts(I)I -/
theorem b_149_0 {d : Nat} {m : Nat → Nat → Int} {q : Nat → Nat → Option Nat} {w : Option (Nat → Int64)} {u2 : Option Value} {v1 : Int}   : gv d rR149 0 [some (.ref 100), some (.int (iI v1)), u2] [] (mk m q w) =
    rBd (ev d 128 [.int (iI v1)] (mk m q w)) (fun v M' => gv d rR149 5 [some (.ref 100), some (.int (iI v1)), u2] (v.toList ++ [.ref 100]) M') := by
  refine Eq.trans (k_ald0 rfl) ?_
  refine Eq.trans (k_ild1 rfl) ?_
  exact k_cS1 rfl (by decide) q_128 rfl rfl (bl rfl)
theorem b_149_5 {d : Nat} {m : Nat → Nat → Int} {q : Nat → Nat → Option Nat} {w : Option (Nat → Int64)} {u2 : Option Value} {v1 s1 : Int}   : gv d rR149 5 [some (.ref 100), some (.int (iI v1)), u2] [.int (iI s1), .ref 100] (mk m q w) =
    rBd (ev d 116 [.ref 100, .int (iI s1)] (mk m q w)) (fun v M' => gv d rR149 8 [some (.ref 100), some (.int (iI v1)), u2] (v.toList ++ []) M') := by
  exact k_cV1 rfl s_100 q_116 rfl rfl rfl (bl rfl)
theorem b_149_8 {d : Nat} {m : Nat → Nat → Int} {q : Nat → Nat → Option Nat} {w : Option (Nat → Int64)} {u2 : Option Value} {v1 : Int}   : gv d rR149 8 [some (.ref 100), some (.int (iI v1)), u2] [] (mk m q w) =
    rBd (ev d 22 [.ref 161, .ref 108] (mk m q w)) (fun v M' => gv d rR149 22 [some (.ref 100), some (.int (iI v1)), u2] (v.toList ++ []) M') := by
  refine Eq.trans (k_ald0 rfl) ?_
  refine Eq.trans (k_gtR rfl s_100 rfl (by decide)) ?_
  refine Eq.trans (k_ald0 rfl) ?_
  refine Eq.trans (k_gtR rfl s_100 rfl (by decide)) ?_
  refine Eq.trans (k_gtR rfl s_107 rfl (by decide)) ?_
  exact k_cV1 rfl s_161 q_22 rfl rfl rfl (bl rfl)
theorem b_149_22 {d : Nat} {m : Nat → Nat → Int} {q : Nat → Nat → Option Nat} {w : Option (Nat → Int64)} {u2 : Option Value} {v1 : Int}   : gv d rR149 22 [some (.ref 100), some (.int (iI v1)), u2] [] (mk m q w) =
    rBd (ev d 24 [.ref 161] (mk m q w)) (fun v M' => gv d rR149 29 [some (.ref 100), some (.int (iI v1)), u2] (v.toList ++ []) M') := by
  refine Eq.trans (k_ald0 rfl) ?_
  refine Eq.trans (k_gtR rfl s_100 rfl (by decide)) ?_
  exact k_cV0 rfl s_161 q_24 rfl rfl rfl (bl rfl)
theorem b_149_29 {d : Nat} {m : Nat → Nat → Int} {q : Nat → Nat → Option Nat} {w : Option (Nat → Int64)} {u2 : Option Value} {v1 s0 : Int}   : gv d rR149 29 [some (.ref 100), some (.int (iI v1)), u2] [.int (iI s0)] (mk m q w) =
    gv d rR149 32 [some (.ref 100), some (.int (iI v1)), some (.int (iI 0))] [] (mk m q w) := by
  refine Eq.trans (k_pop rfl rfl) ?_
  refine Eq.trans (k_con rfl) ?_
  refine Eq.trans (k_ist2 rfl) ?_
  exact rfl
theorem b_149_32 {d : Nat} {m : Nat → Nat → Int} {q : Nat → Nat → Option Nat} {w : Option (Nat → Int64)} {v1 v2 : Int}   : gv d rR149 32 [some (.ref 100), some (.int (iI v1)), some (.int (iI v2))] [] (mk m q w) =
    if iI v2 < iI 999 then (gv d rR149 47 [some (.ref 100), some (.int (iI v1)), some (.int (iI v2))] (rOv (q 100 9) :: [.ref 161]) (mk m q w)) else (gv d rR149 75 [some (.ref 100), some (.int (iI v1)), some (.int (iI v2))] [] (mk m q w)) := by
  refine Eq.trans (k_ild2 rfl) ?_
  refine Eq.trans (k_sip rfl (by decide)) ?_
  refine Eq.trans (k_i2ge rfl rfl) ?_
  refine ifc ?_ ?_
  · refine Eq.trans (k_ald0 rfl) ?_
    refine Eq.trans (k_gtR rfl s_100 rfl (by decide)) ?_
    refine Eq.trans (k_ald0 rfl) ?_
    exact k_gtV rfl s_100 rfl (by decide)
  · exact rfl
theorem b_149_47 {d : Nat} {m : Nat → Nat → Int} {q : Nat → Nat → Option Nat} {w : Option (Nat → Int64)} {v1 v2 : Int} {z44 : Nat} (hz44 : iLaw z44)  : gv d rR149 47 [some (.ref 100), some (.int (iI v1)), some (.int (iI v2))] [.ref z44, .ref 161] (mk m q w) =
    rBd (ev d 44 [.ref 161, .ref z44, .int (iI v1), .int (iI (m 161 0))] (mk m q w)) (fun v M' => gv d rR149 58 [some (.ref 100), some (.int (iI v1)), some (.int (iI v2))] (v.toList ++ []) M') := by
  refine Eq.trans (k_ild1 rfl) ?_
  refine Eq.trans (k_ald0 rfl) ?_
  refine Eq.trans (k_gtR rfl s_100 rfl (by decide)) ?_
  refine Eq.trans (k_gtI rfl s_161 rfl (by decide)) ?_
  exact k_cV3 rfl s_161 q_44 rfl rfl rfl (bl rfl)
theorem b_149_58 {d : Nat} {m : Nat → Nat → Int} {q : Nat → Nat → Option Nat} {w : Option (Nat → Int64)} {v1 v2 s0 : Int}   : gv d rR149 58 [some (.ref 100), some (.int (iI v1)), some (.int (iI v2))] [.int (iI s0)] (mk m q w) =
    if iI s0 = iI 0 then (gv d rR149 75 [some (.ref 100), some (.int (iI v1)), some (.int (iI v2))] [] (mk m q w)) else (rBd (ev d 24 [.ref 161] (mk m q w)) (fun v M' => gv d rR149 68 [some (.ref 100), some (.int (iI v1)), some (.int (iI v2))] (v.toList ++ []) M')) := by
  refine Eq.trans (k_i1eq rfl rfl) ?_
  refine ifc ?_ ?_
  · exact rfl
  · refine Eq.trans (k_ald0 rfl) ?_
    refine Eq.trans (k_gtR rfl s_100 rfl (by decide)) ?_
    exact k_cV0 rfl s_161 q_24 rfl rfl rfl (bl rfl)
theorem b_149_68 {d : Nat} {m : Nat → Nat → Int} {q : Nat → Nat → Option Nat} {w : Option (Nat → Int64)} {v1 v2 s0 : Int}   : gv d rR149 68 [some (.ref 100), some (.int (iI v1)), some (.int (iI v2))] [.int (iI s0)] (mk m q w) =
    gv d rR149 32 [some (.ref 100), some (.int (iI v1)), some (.int (iI (v2 + 1)))] [] (mk m q w) := by
  refine Eq.trans (k_pop rfl rfl) ?_
  refine Eq.trans (k_inc2 rfl) ?_
  refine Eq.trans (k_go rfl rfl) ?_
  exact rfl
theorem b_149_75 {d : Nat} {m : Nat → Nat → Int} {q : Nat → Nat → Option Nat} {w : Option (Nat → Int64)} {u0 u1 : Option Value} {v2 : Int}   : gv d rR149 75 [u0, u1, some (.int (iI v2))] [] (mk m q w) =
    some (.inl (some (.int (iI v2))), (mk m q w, (0, 0))) := by
  refine Eq.trans (k_ild2 rfl) ?_
  exact k_rtI rfl rfl
theorem e_149 {d : Nat} (hd : 1 ≤ d) {a0 a1 : Value} (M : rMem) (h0 : a0.category = 1) (h1 : a1.category = 1) : ev d 149 [a0, a1] M = gv (d - 1) rR149 0 [some a0, some a1, none] [] M := ev_at hd q_149 rfl (by simp [*]) rfl
/-! FanHouse.gain(IIII)I -/
theorem b_150_0 {d : Nat} {m : Nat → Nat → Int} {q : Nat → Nat → Option Nat} {w : Option (Nat → Int64)} {v0 v1 v2 v3 : Int}   : gv d rR150 0 [some (.int (iI v0)), some (.int (iI v1)), some (.int (iI v2)), some (.int (iI v3))] [] (mk m q w) =
    if iI v2 = iI 0 then (if iI v3 = iI 0 then (gv d rR150 13 [some (.int (iI v0)), some (.int (iI v1)), some (.int (iI v2)), some (.int (iI v3))] [.int (iI v0)] (mk m q w)) else (gv d rR150 13 [some (.int (iI v0)), some (.int (iI v1)), some (.int (iI v2)), some (.int (iI v3))] [.int (iI 0)] (mk m q w))) else (if iI v3 = iI 0 then (gv d rR150 25 [some (.int (iI v0)), some (.int (iI v1)), some (.int (iI v2)), some (.int (iI v3))] [.int (iI v1)] (mk m q w)) else (gv d rR150 25 [some (.int (iI v0)), some (.int (iI v1)), some (.int (iI v2)), some (.int (iI v3))] [.int (iI (zDiv v1 2))] (mk m q w))) := by
  refine Eq.trans (k_ild2 rfl) ?_
  refine Eq.trans (k_i1ne rfl rfl) ?_
  refine ifc ?_ ?_
  · refine Eq.trans (k_ild3 rfl) ?_
    refine Eq.trans (k_i1ne rfl rfl) ?_
    refine ifc ?_ ?_
    · refine Eq.trans (k_ild0 rfl) ?_
      refine Eq.trans (k_go rfl rfl) ?_
      exact rfl
    · refine Eq.trans (k_con rfl) ?_
      exact rfl
  · refine Eq.trans (k_ild3 rfl) ?_
    refine Eq.trans (k_i1ne rfl rfl) ?_
    refine ifc ?_ ?_
    · refine Eq.trans (k_ild1 rfl) ?_
      refine Eq.trans (k_go rfl rfl) ?_
      exact rfl
    · refine Eq.trans (k_ild1 rfl) ?_
      refine Eq.trans (k_con rfl) ?_
      refine Eq.trans (k_div rfl (by decide)) ?_
      exact rfl
theorem b_150_13 {d : Nat} {m : Nat → Nat → Int} {q : Nat → Nat → Option Nat} {w : Option (Nat → Int64)} {u0 u1 u2 u3 : Option Value} {s0 : Int}   : gv d rR150 13 [u0, u1, u2, u3] [.int (iI s0)] (mk m q w) =
    some (.inl (some (.int (iI s0))), (mk m q w, (0, 0))) := by
  exact k_rtI rfl rfl
theorem b_150_25 {d : Nat} {m : Nat → Nat → Int} {q : Nat → Nat → Option Nat} {w : Option (Nat → Int64)} {u0 u1 u2 u3 : Option Value} {s0 : Int}   : gv d rR150 25 [u0, u1, u2, u3] [.int (iI s0)] (mk m q w) =
    some (.inl (some (.int (iI s0))), (mk m q w, (0, 0))) := by
  exact k_rtI rfl rfl
theorem e_150 {d : Nat} (hd : 1 ≤ d) {a0 a1 a2 a3 : Value} (M : rMem) (h0 : a0.category = 1) (h1 : a1.category = 1) (h2 : a2.category = 1) (h3 : a3.category = 1) : ev d 150 [a0, a1, a2, a3] M = gv (d - 1) rR150 0 [some a0, some a1, some a2, some a3] [] M := ev_at hd q_150 rfl (by simp [*]) rfl
/-! FanHouse.rests(IIII)Z -/
theorem b_151_0 {d : Nat} {m : Nat → Nat → Int} {q : Nat → Nat → Option Nat} {w : Option (Nat → Int64)} {v0 v1 v2 v3 : Int}   : gv d rR151 0 [some (.int (iI v0)), some (.int (iI v1)), some (.int (iI v2)), some (.int (iI v3))] [] (mk m q w) =
    rBd (ev d 150 [.int (iI v0), .int (iI v1), .int (iI v2), .int (iI v3)] (mk m q w)) (fun v M' => gv d rR151 7 [some (.int (iI v0)), some (.int (iI v1)), some (.int (iI v2)), some (.int (iI v3))] (v.toList ++ []) M') := by
  refine Eq.trans (k_ild0 rfl) ?_
  refine Eq.trans (k_ild1 rfl) ?_
  refine Eq.trans (k_ild2 rfl) ?_
  refine Eq.trans (k_ild3 rfl) ?_
  exact k_cS4 rfl (by decide) q_150 rfl rfl (bl rfl)
theorem b_151_7 {d : Nat} {m : Nat → Nat → Int} {q : Nat → Nat → Option Nat} {w : Option (Nat → Int64)} {v0 v1 v2 v3 s0 : Int}   : gv d rR151 7 [some (.int (iI v0)), some (.int (iI v1)), some (.int (iI v2)), some (.int (iI v3))] [.int (iI s0)] (mk m q w) =
    rBd (ev d 150 [.int (iI v0), .int (iI v1), .int (iI (1 - v2)), .int (iI v3)] (mk m q w)) (fun v M' => gv d rR151 16 [some (.int (iI v0)), some (.int (iI v1)), some (.int (iI v2)), some (.int (iI v3))] (v.toList ++ [.int (iI s0)]) M') := by
  refine Eq.trans (k_ild0 rfl) ?_
  refine Eq.trans (k_ild1 rfl) ?_
  refine Eq.trans (k_con rfl) ?_
  refine Eq.trans (k_ild2 rfl) ?_
  refine Eq.trans (k_sub rfl) ?_
  refine Eq.trans (k_ild3 rfl) ?_
  exact k_cS4 rfl (by decide) q_150 rfl rfl (bl rfl)
theorem b_151_16 {d : Nat} {m : Nat → Nat → Int} {q : Nat → Nat → Option Nat} {w : Option (Nat → Int64)} {v0 v1 v2 v3 s0 s1 : Int}   : gv d rR151 16 [some (.int (iI v0)), some (.int (iI v1)), some (.int (iI v2)), some (.int (iI v3))] [.int (iI s1), .int (iI s0)] (mk m q w) =
    if iI s0 < iI s1 then (gv d rR151 42 [some (.int (iI v0)), some (.int (iI v1)), some (.int (iI v2)), some (.int (iI v3))] [] (mk m q w)) else (rBd (ev d 150 [.int (iI v0), .int (iI v1), .int (iI v3), .int (iI v2)] (mk m q w)) (fun v M' => gv d rR151 26 [some (.int (iI v0)), some (.int (iI v1)), some (.int (iI v2)), some (.int (iI v3))] (v.toList ++ []) M')) := by
  refine Eq.trans (k_i2lt rfl rfl) ?_
  refine ifc ?_ ?_
  · exact rfl
  · refine Eq.trans (k_ild0 rfl) ?_
    refine Eq.trans (k_ild1 rfl) ?_
    refine Eq.trans (k_ild3 rfl) ?_
    refine Eq.trans (k_ild2 rfl) ?_
    exact k_cS4 rfl (by decide) q_150 rfl rfl (bl rfl)
theorem b_151_26 {d : Nat} {m : Nat → Nat → Int} {q : Nat → Nat → Option Nat} {w : Option (Nat → Int64)} {v0 v1 v2 v3 s0 : Int}   : gv d rR151 26 [some (.int (iI v0)), some (.int (iI v1)), some (.int (iI v2)), some (.int (iI v3))] [.int (iI s0)] (mk m q w) =
    rBd (ev d 150 [.int (iI v0), .int (iI v1), .int (iI (1 - v3)), .int (iI v2)] (mk m q w)) (fun v M' => gv d rR151 35 [some (.int (iI v0)), some (.int (iI v1)), some (.int (iI v2)), some (.int (iI v3))] (v.toList ++ [.int (iI s0)]) M') := by
  refine Eq.trans (k_ild0 rfl) ?_
  refine Eq.trans (k_ild1 rfl) ?_
  refine Eq.trans (k_con rfl) ?_
  refine Eq.trans (k_ild3 rfl) ?_
  refine Eq.trans (k_sub rfl) ?_
  refine Eq.trans (k_ild2 rfl) ?_
  exact k_cS4 rfl (by decide) q_150 rfl rfl (bl rfl)
theorem b_151_35 {d : Nat} {m : Nat → Nat → Int} {q : Nat → Nat → Option Nat} {w : Option (Nat → Int64)} {u0 u1 u2 u3 : Option Value} {s0 s1 : Int}   : gv d rR151 35 [u0, u1, u2, u3] [.int (iI s1), .int (iI s0)] (mk m q w) =
    if iI s0 < iI s1 then (gv d rR151 42 [u0, u1, u2, u3] [] (mk m q w)) else (gv d rR151 43 [u0, u1, u2, u3] [.int (iI 1)] (mk m q w)) := by
  refine Eq.trans (k_i2lt rfl rfl) ?_
  refine ifc ?_ ?_
  · exact rfl
  · refine Eq.trans (k_con rfl) ?_
    refine Eq.trans (k_go rfl rfl) ?_
    exact rfl
theorem b_151_42 {d : Nat} {m : Nat → Nat → Int} {q : Nat → Nat → Option Nat} {w : Option (Nat → Int64)} {u0 u1 u2 u3 : Option Value}   : gv d rR151 42 [u0, u1, u2, u3] [] (mk m q w) =
    gv d rR151 43 [u0, u1, u2, u3] [.int (iI 0)] (mk m q w) := by
  refine Eq.trans (k_con rfl) ?_
  exact rfl
theorem b_151_43 {d : Nat} {m : Nat → Nat → Int} {q : Nat → Nat → Option Nat} {w : Option (Nat → Int64)} {u0 u1 u2 u3 : Option Value} {s0 : Int}  (g0 : iI s0 = iI 0 ∨ iI s0 = iI 1) : gv d rR151 43 [u0, u1, u2, u3] [.int (iI s0)] (mk m q w) =
    some (.inl (some (.int (iI s0))), (mk m q w, (0, 0))) := by
  exact k_rtZ rfl rfl g0
theorem e_151 {d : Nat} (hd : 1 ≤ d) {a0 a1 a2 a3 : Value} (M : rMem) (h0 : a0.category = 1) (h1 : a1.category = 1) (h2 : a2.category = 1) (h3 : a3.category = 1) : ev d 151 [a0, a1, a2, a3] M = gv (d - 1) rR151 0 [some a0, some a1, some a2, some a3] [] M := ev_at hd q_151 rfl (by simp [*]) rfl
/-! FanHouse.sellers(III)I -/
theorem b_152_0 {d : Nat} {m : Nat → Nat → Int} {q : Nat → Nat → Option Nat} {w : Option (Nat → Int64)} {u4 u5 u6 u7 u8 u9 : Option Value} {v1 v2 v3 : Int}   : gv d rR152 0 [some (.ref 100), some (.int (iI v1)), some (.int (iI v2)), some (.int (iI v3)), u4, u5, u6, u7, u8, u9] [] (mk m q w) =
    rBd (ev d 6 [.int (iI v1), .int (iI 0), .int (iI 99)] (mk m q w)) (fun v M' => gv d rR152 8 [some (.ref 100), some (.int (iI v1)), some (.int (iI v2)), some (.int (iI v3)), u4, u5, u6, u7, u8, u9] (v.toList ++ [.ref 100]) M') := by
  refine Eq.trans (k_ald0 rfl) ?_
  refine Eq.trans (k_ild1 rfl) ?_
  refine Eq.trans (k_con rfl) ?_
  refine Eq.trans (k_bip rfl (by decide)) ?_
  exact k_cS3 rfl (by decide) q_6 rfl rfl (bl rfl)
theorem b_152_8 {d : Nat} {m : Nat → Nat → Int} {q : Nat → Nat → Option Nat} {w : Option (Nat → Int64)} {u0 u4 u5 u6 u7 u8 u9 : Option Value} {v1 v2 v3 s1 : Int}   : gv d rR152 8 [u0, some (.int (iI v1)), some (.int (iI v2)), some (.int (iI v3)), u4, u5, u6, u7, u8, u9] [.int (iI s1), .ref 100] (mk m q w) =
    if iI s1 = iI 0 then (gv d rR152 34 [u0, some (.int (iI v1)), some (.int (iI v2)), some (.int (iI v3)), u4, u5, u6, u7, u8, u9] [.ref 100] (mk m q w)) else (rBd (ev d 6 [.int (iI v2), .int (iI 0), .int (iI 99)] (mk m q w)) (fun v M' => gv d rR152 18 [u0, some (.int (iI v1)), some (.int (iI v2)), some (.int (iI v3)), u4, u5, u6, u7, u8, u9] (v.toList ++ [.ref 100]) M')) := by
  refine Eq.trans (k_i1eq rfl rfl) ?_
  refine ifc ?_ ?_
  · exact rfl
  · refine Eq.trans (k_ild2 rfl) ?_
    refine Eq.trans (k_con rfl) ?_
    refine Eq.trans (k_bip rfl (by decide)) ?_
    exact k_cS3 rfl (by decide) q_6 rfl rfl (bl rfl)
theorem b_152_18 {d : Nat} {m : Nat → Nat → Int} {q : Nat → Nat → Option Nat} {w : Option (Nat → Int64)} {u0 u4 u5 u6 u7 u8 u9 : Option Value} {v1 v2 v3 s1 : Int}   : gv d rR152 18 [u0, some (.int (iI v1)), some (.int (iI v2)), some (.int (iI v3)), u4, u5, u6, u7, u8, u9] [.int (iI s1), .ref 100] (mk m q w) =
    if iI s1 = iI 0 then (gv d rR152 34 [u0, some (.int (iI v1)), some (.int (iI v2)), some (.int (iI v3)), u4, u5, u6, u7, u8, u9] [.ref 100] (mk m q w)) else (rBd (ev d 6 [.int (iI v3), .int (iI 0), .int (iI 2)] (mk m q w)) (fun v M' => gv d rR152 27 [u0, some (.int (iI v1)), some (.int (iI v2)), some (.int (iI v3)), u4, u5, u6, u7, u8, u9] (v.toList ++ [.ref 100]) M')) := by
  refine Eq.trans (k_i1eq rfl rfl) ?_
  refine ifc ?_ ?_
  · exact rfl
  · refine Eq.trans (k_ild3 rfl) ?_
    refine Eq.trans (k_con rfl) ?_
    refine Eq.trans (k_con rfl) ?_
    exact k_cS3 rfl (by decide) q_6 rfl rfl (bl rfl)
theorem b_152_27 {d : Nat} {m : Nat → Nat → Int} {q : Nat → Nat → Option Nat} {w : Option (Nat → Int64)} {u0 u4 u5 u6 u7 u8 u9 : Option Value} {v1 v2 v3 s1 : Int}   : gv d rR152 27 [u0, some (.int (iI v1)), some (.int (iI v2)), some (.int (iI v3)), u4, u5, u6, u7, u8, u9] [.int (iI s1), .ref 100] (mk m q w) =
    if iI s1 = iI 0 then (gv d rR152 34 [u0, some (.int (iI v1)), some (.int (iI v2)), some (.int (iI v3)), u4, u5, u6, u7, u8, u9] [.ref 100] (mk m q w)) else (gv d rR152 35 [u0, some (.int (iI v1)), some (.int (iI v2)), some (.int (iI v3)), u4, u5, u6, u7, u8, u9] [.int (iI 1), .ref 100] (mk m q w)) := by
  refine Eq.trans (k_i1eq rfl rfl) ?_
  refine ifc ?_ ?_
  · exact rfl
  · refine Eq.trans (k_con rfl) ?_
    refine Eq.trans (k_go rfl rfl) ?_
    exact rfl
theorem b_152_34 {d : Nat} {m : Nat → Nat → Int} {q : Nat → Nat → Option Nat} {w : Option (Nat → Int64)} {u0 u4 u5 u6 u7 u8 u9 : Option Value} {v1 v2 v3 : Int}   : gv d rR152 34 [u0, some (.int (iI v1)), some (.int (iI v2)), some (.int (iI v3)), u4, u5, u6, u7, u8, u9] [.ref 100] (mk m q w) =
    gv d rR152 35 [u0, some (.int (iI v1)), some (.int (iI v2)), some (.int (iI v3)), u4, u5, u6, u7, u8, u9] [.int (iI 0), .ref 100] (mk m q w) := by
  refine Eq.trans (k_con rfl) ?_
  exact rfl
theorem b_152_35 {d : Nat} {m : Nat → Nat → Int} {q : Nat → Nat → Option Nat} {w : Option (Nat → Int64)} {u0 u4 u5 u6 u7 u8 u9 : Option Value} {v1 v2 v3 s1 : Int}   : gv d rR152 35 [u0, some (.int (iI v1)), some (.int (iI v2)), some (.int (iI v3)), u4, u5, u6, u7, u8, u9] [.int (iI s1), .ref 100] (mk m q w) =
    rBd (ev d 116 [.ref 100, .int (iI s1)] (mk m q w)) (fun v M' => gv d rR152 38 [u0, some (.int (iI v1)), some (.int (iI v2)), some (.int (iI v3)), u4, u5, u6, u7, u8, u9] (v.toList ++ []) M') := by
  exact k_cV1 rfl s_100 q_116 rfl rfl rfl (bl rfl)
theorem b_152_38 {d : Nat} {m : Nat → Nat → Int} {q : Nat → Nat → Option Nat} {w : Option (Nat → Int64)} {u0 u4 u5 u6 u7 u8 u9 : Option Value} {v1 v2 v3 : Int}   : gv d rR152 38 [u0, some (.int (iI v1)), some (.int (iI v2)), some (.int (iI v3)), u4, u5, u6, u7, u8, u9] [] (mk m q w) =
    gv d rR152 50 [u0, some (.int (iI v1)), some (.int (iI v2)), some (.int (iI v3)), some (.int (iI 0)), some (.int (iI (-1))), some (.int (iI 0)), some (.int (iI 0)), u8, u9] [] (mk m q w) := by
  refine Eq.trans (k_con rfl) ?_
  refine Eq.trans (k_ist4 rfl) ?_
  refine Eq.trans (k_con rfl) ?_
  refine Eq.trans (k_ist5 rfl) ?_
  refine Eq.trans (k_con rfl) ?_
  refine Eq.trans (k_ist6 rfl) ?_
  refine Eq.trans (k_con rfl) ?_
  refine Eq.trans (k_ist7 rfl) ?_
  exact rfl
theorem b_152_50 {d : Nat} {m : Nat → Nat → Int} {q : Nat → Nat → Option Nat} {w : Option (Nat → Int64)} {u0 u8 u9 : Option Value} {v1 v2 v3 v4 v5 v6 v7 : Int}   : gv d rR152 50 [u0, some (.int (iI v1)), some (.int (iI v2)), some (.int (iI v3)), some (.int (iI v4)), some (.int (iI v5)), some (.int (iI v6)), some (.int (iI v7)), u8, u9] [] (mk m q w) =
    if iI v7 < iI 4 then (rBd (ev d 151 [.int (iI v1), .int (iI v2), .int (iI (zDiv v7 2)), .int (iI (zRem v7 2))] (mk m q w)) (fun v M' => gv d rR152 77 [u0, some (.int (iI v1)), some (.int (iI v2)), some (.int (iI v3)), some (.int (iI v4)), some (.int (iI v5)), some (.int (iI v6)), some (.int (iI v7)), some (.int (iI (zDiv v7 2))), some (.int (iI (zRem v7 2)))] (v.toList ++ []) M')) else (if iI v3 = iI 0 then (gv d rR152 149 [u0, some (.int (iI v1)), some (.int (iI v2)), some (.int (iI v3)), some (.int (iI v4)), some (.int (iI v5)), some (.int (iI v6)), some (.int (iI v7)), u8, u9] [.int (iI v4)] (mk m q w)) else (if iI v3 = iI 1 then (gv d rR152 149 [u0, some (.int (iI v1)), some (.int (iI v2)), some (.int (iI v3)), some (.int (iI v4)), some (.int (iI v5)), some (.int (iI v6)), some (.int (iI v7)), u8, u9] [.int (iI v5)] (mk m q w)) else (gv d rR152 149 [u0, some (.int (iI v1)), some (.int (iI v2)), some (.int (iI v3)), some (.int (iI v4)), some (.int (iI v5)), some (.int (iI v6)), some (.int (iI v7)), u8, u9] [.int (iI v6)] (mk m q w)))) := by
  refine Eq.trans (k_ild7 rfl) ?_
  refine Eq.trans (k_con rfl) ?_
  refine Eq.trans (k_i2ge rfl rfl) ?_
  refine ifc ?_ ?_
  · refine Eq.trans (k_ild7 rfl) ?_
    refine Eq.trans (k_con rfl) ?_
    refine Eq.trans (k_div rfl (by decide)) ?_
    refine Eq.trans (k_ist8 rfl) ?_
    refine Eq.trans (k_ild7 rfl) ?_
    refine Eq.trans (k_con rfl) ?_
    refine Eq.trans (k_rem rfl (by decide)) ?_
    refine Eq.trans (k_ist9 rfl) ?_
    refine Eq.trans (k_ild1 rfl) ?_
    refine Eq.trans (k_ild2 rfl) ?_
    refine Eq.trans (k_ild8 rfl) ?_
    refine Eq.trans (k_ild9 rfl) ?_
    exact k_cS4 rfl (by decide) q_151 rfl rfl (bl rfl)
  · refine Eq.trans (k_ild3 rfl) ?_
    refine Eq.trans (k_i1ne rfl rfl) ?_
    refine ifc ?_ ?_
    · refine Eq.trans (k_ild4 rfl) ?_
      refine Eq.trans (k_go rfl rfl) ?_
      exact rfl
    · refine Eq.trans (k_ild3 rfl) ?_
      refine Eq.trans (k_con rfl) ?_
      refine Eq.trans (k_i2ne rfl rfl) ?_
      refine ifc ?_ ?_
      · refine Eq.trans (k_ild5 rfl) ?_
        refine Eq.trans (k_go rfl rfl) ?_
        exact rfl
      · refine Eq.trans (k_ild6 rfl) ?_
        exact rfl
theorem b_152_77 {d : Nat} {m : Nat → Nat → Int} {q : Nat → Nat → Option Nat} {w : Option (Nat → Int64)} {u0 : Option Value} {v1 v2 v3 v4 v5 v6 v7 v8 v9 s0 : Int}   : gv d rR152 77 [u0, some (.int (iI v1)), some (.int (iI v2)), some (.int (iI v3)), some (.int (iI v4)), some (.int (iI v5)), some (.int (iI v6)), some (.int (iI v7)), some (.int (iI v8)), some (.int (iI v9))] [.int (iI s0)] (mk m q w) =
    if iI s0 = iI 0 then (gv d rR152 122 [u0, some (.int (iI v1)), some (.int (iI v2)), some (.int (iI v3)), some (.int (iI v4)), some (.int (iI v5)), some (.int (iI v6)), some (.int (iI v7)), some (.int (iI v8)), some (.int (iI v9))] [] (mk m q w)) else (if iI v4 = iI 0 then (rBd (ev d 150 [.int (iI v1), .int (iI v2), .int (iI v8), .int (iI v9)] (mk m q w)) (fun v M' => gv d rR152 107 [u0, some (.int (iI v1)), some (.int (iI v2)), some (.int (iI v3)), some (.int (iI v4)), some (.int (iI ((10 * v8) + v9))), some (.int (iI v6)), some (.int (iI v7)), some (.int (iI v8)), some (.int (iI v9))] (v.toList ++ []) M')) else (gv d rR152 119 [u0, some (.int (iI v1)), some (.int (iI v2)), some (.int (iI v3)), some (.int (iI v4)), some (.int (iI v5)), some (.int (iI v6)), some (.int (iI v7)), some (.int (iI v8)), some (.int (iI v9))] [] (mk m q w))) := by
  refine Eq.trans (k_i1ne rfl rfl) ?_
  refine ifc ?_ ?_
  · refine Eq.trans (k_go rfl rfl) ?_
    exact rfl
  · refine Eq.trans (k_ild4 rfl) ?_
    refine Eq.trans (k_i1ne rfl rfl) ?_
    refine ifc ?_ ?_
    · refine Eq.trans (k_bip rfl (by decide)) ?_
      refine Eq.trans (k_ild8 rfl) ?_
      refine Eq.trans (k_mul rfl) ?_
      refine Eq.trans (k_ild9 rfl) ?_
      refine Eq.trans (k_add rfl) ?_
      refine Eq.trans (k_ist5 rfl) ?_
      refine Eq.trans (k_ild1 rfl) ?_
      refine Eq.trans (k_ild2 rfl) ?_
      refine Eq.trans (k_ild8 rfl) ?_
      refine Eq.trans (k_ild9 rfl) ?_
      exact k_cS4 rfl (by decide) q_150 rfl rfl (bl rfl)
    · exact rfl
theorem b_152_107 {d : Nat} {m : Nat → Nat → Int} {q : Nat → Nat → Option Nat} {w : Option (Nat → Int64)} {u0 u6 : Option Value} {v1 v2 v3 v4 v5 v7 v8 v9 s0 : Int}   : gv d rR152 107 [u0, some (.int (iI v1)), some (.int (iI v2)), some (.int (iI v3)), some (.int (iI v4)), some (.int (iI v5)), u6, some (.int (iI v7)), some (.int (iI v8)), some (.int (iI v9))] [.int (iI s0)] (mk m q w) =
    rBd (ev d 150 [.int (iI v1), .int (iI v2), .int (iI v9), .int (iI v8)] (mk m q w)) (fun v M' => gv d rR152 116 [u0, some (.int (iI v1)), some (.int (iI v2)), some (.int (iI v3)), some (.int (iI v4)), some (.int (iI v5)), u6, some (.int (iI v7)), some (.int (iI v8)), some (.int (iI v9))] (v.toList ++ [.int (iI s0)]) M') := by
  refine Eq.trans (k_ild1 rfl) ?_
  refine Eq.trans (k_ild2 rfl) ?_
  refine Eq.trans (k_ild9 rfl) ?_
  refine Eq.trans (k_ild8 rfl) ?_
  exact k_cS4 rfl (by decide) q_150 rfl rfl (bl rfl)
theorem b_152_116 {d : Nat} {m : Nat → Nat → Int} {q : Nat → Nat → Option Nat} {w : Option (Nat → Int64)} {u0 u6 u8 u9 : Option Value} {v1 v2 v3 v4 v5 v7 s0 s1 : Int}   : gv d rR152 116 [u0, some (.int (iI v1)), some (.int (iI v2)), some (.int (iI v3)), some (.int (iI v4)), some (.int (iI v5)), u6, some (.int (iI v7)), u8, u9] [.int (iI s1), .int (iI s0)] (mk m q w) =
    gv d rR152 119 [u0, some (.int (iI v1)), some (.int (iI v2)), some (.int (iI v3)), some (.int (iI v4)), some (.int (iI v5)), some (.int (iI (s0 + s1))), some (.int (iI v7)), u8, u9] [] (mk m q w) := by
  refine Eq.trans (k_add rfl) ?_
  refine Eq.trans (k_ist6 rfl) ?_
  exact rfl
theorem b_152_119 {d : Nat} {m : Nat → Nat → Int} {q : Nat → Nat → Option Nat} {w : Option (Nat → Int64)} {u0 u8 u9 : Option Value} {v1 v2 v3 v4 v5 v6 v7 : Int}   : gv d rR152 119 [u0, some (.int (iI v1)), some (.int (iI v2)), some (.int (iI v3)), some (.int (iI v4)), some (.int (iI v5)), some (.int (iI v6)), some (.int (iI v7)), u8, u9] [] (mk m q w) =
    gv d rR152 122 [u0, some (.int (iI v1)), some (.int (iI v2)), some (.int (iI v3)), some (.int (iI (v4 + 1))), some (.int (iI v5)), some (.int (iI v6)), some (.int (iI v7)), u8, u9] [] (mk m q w) := by
  refine Eq.trans (k_inc4 rfl) ?_
  exact rfl
theorem b_152_122 {d : Nat} {m : Nat → Nat → Int} {q : Nat → Nat → Option Nat} {w : Option (Nat → Int64)} {u0 u8 u9 : Option Value} {v1 v2 v3 v4 v5 v6 v7 : Int}   : gv d rR152 122 [u0, some (.int (iI v1)), some (.int (iI v2)), some (.int (iI v3)), some (.int (iI v4)), some (.int (iI v5)), some (.int (iI v6)), some (.int (iI v7)), u8, u9] [] (mk m q w) =
    gv d rR152 50 [u0, some (.int (iI v1)), some (.int (iI v2)), some (.int (iI v3)), some (.int (iI v4)), some (.int (iI v5)), some (.int (iI v6)), some (.int (iI (v7 + 1))), u8, u9] [] (mk m q w) := by
  refine Eq.trans (k_inc7 rfl) ?_
  refine Eq.trans (k_go rfl rfl) ?_
  exact rfl
theorem b_152_149 {d : Nat} {m : Nat → Nat → Int} {q : Nat → Nat → Option Nat} {w : Option (Nat → Int64)} {u0 u1 u2 u3 u4 u5 u6 u7 u8 u9 : Option Value} {s0 : Int}   : gv d rR152 149 [u0, u1, u2, u3, u4, u5, u6, u7, u8, u9] [.int (iI s0)] (mk m q w) =
    some (.inl (some (.int (iI s0))), (mk m q w, (0, 0))) := by
  exact k_rtI rfl rfl
theorem e_152 {d : Nat} (hd : 1 ≤ d) {a0 a1 a2 a3 : Value} (M : rMem) (h0 : a0.category = 1) (h1 : a1.category = 1) (h2 : a2.category = 1) (h3 : a3.category = 1) : ev d 152 [a0, a1, a2, a3] M = gv (d - 1) rR152 0 [some a0, some a1, some a2, some a3, none, none, none, none, none, none] [] M := ev_at hd q_152 rfl (by simp [*]) rfl
/-! FanHouse.year(IIII)I -/
theorem b_153_0 {d : Nat} {m : Nat → Nat → Int} {q : Nat → Nat → Option Nat} {w : Option (Nat → Int64)} {v1 v2 v3 v4 : Int}   : gv d rR153 0 [some (.ref 100), some (.int (iI v1)), some (.int (iI v2)), some (.int (iI v3)), some (.int (iI v4))] [] (mk m q w) =
    rBd (ev d 6 [.int (iI v2), .int (iI 0), .int (iI 16)] (mk m q w)) (fun v M' => gv d rR153 8 [some (.ref 100), some (.int (iI v1)), some (.int (iI v2)), some (.int (iI v3)), some (.int (iI v4))] (v.toList ++ [.ref 100]) M') := by
  refine Eq.trans (k_ald0 rfl) ?_
  refine Eq.trans (k_ild2 rfl) ?_
  refine Eq.trans (k_con rfl) ?_
  refine Eq.trans (k_bip rfl (by decide)) ?_
  exact k_cS3 rfl (by decide) q_6 rfl rfl (bl rfl)
theorem b_153_8 {d : Nat} {m : Nat → Nat → Int} {q : Nat → Nat → Option Nat} {w : Option (Nat → Int64)} {v1 v2 v3 v4 s1 : Int}   : gv d rR153 8 [some (.ref 100), some (.int (iI v1)), some (.int (iI v2)), some (.int (iI v3)), some (.int (iI v4))] [.int (iI s1), .ref 100] (mk m q w) =
    if iI s1 = iI 0 then (gv d rR153 35 [some (.ref 100), some (.int (iI v1)), some (.int (iI v2)), some (.int (iI v3)), some (.int (iI v4))] [.ref 100] (mk m q w)) else (rBd (ev d 6 [.int (iI v3), .int (iI 1), .int (iI 48)] (mk m q w)) (fun v M' => gv d rR153 18 [some (.ref 100), some (.int (iI v1)), some (.int (iI v2)), some (.int (iI v3)), some (.int (iI v4))] (v.toList ++ [.ref 100]) M')) := by
  refine Eq.trans (k_i1eq rfl rfl) ?_
  refine ifc ?_ ?_
  · exact rfl
  · refine Eq.trans (k_ild3 rfl) ?_
    refine Eq.trans (k_con rfl) ?_
    refine Eq.trans (k_bip rfl (by decide)) ?_
    exact k_cS3 rfl (by decide) q_6 rfl rfl (bl rfl)
theorem b_153_18 {d : Nat} {m : Nat → Nat → Int} {q : Nat → Nat → Option Nat} {w : Option (Nat → Int64)} {v1 v2 v3 v4 s1 : Int}   : gv d rR153 18 [some (.ref 100), some (.int (iI v1)), some (.int (iI v2)), some (.int (iI v3)), some (.int (iI v4))] [.int (iI s1), .ref 100] (mk m q w) =
    if iI s1 = iI 0 then (gv d rR153 35 [some (.ref 100), some (.int (iI v1)), some (.int (iI v2)), some (.int (iI v3)), some (.int (iI v4))] [.ref 100] (mk m q w)) else (rBd (ev d 6 [.int (iI v4), .int (iI 0), .int (iI 3)] (mk m q w)) (fun v M' => gv d rR153 28 [some (.ref 100), some (.int (iI v1)), some (.int (iI v2)), some (.int (iI v3)), some (.int (iI v4))] (v.toList ++ [.ref 100]) M')) := by
  refine Eq.trans (k_i1eq rfl rfl) ?_
  refine ifc ?_ ?_
  · exact rfl
  · refine Eq.trans (k_ild4 rfl) ?_
    refine Eq.trans (k_con rfl) ?_
    refine Eq.trans (k_con rfl) ?_
    exact k_cS3 rfl (by decide) q_6 rfl rfl (bl rfl)
theorem b_153_28 {d : Nat} {m : Nat → Nat → Int} {q : Nat → Nat → Option Nat} {w : Option (Nat → Int64)} {v1 v2 v3 v4 s1 : Int}   : gv d rR153 28 [some (.ref 100), some (.int (iI v1)), some (.int (iI v2)), some (.int (iI v3)), some (.int (iI v4))] [.int (iI s1), .ref 100] (mk m q w) =
    if iI s1 = iI 0 then (gv d rR153 35 [some (.ref 100), some (.int (iI v1)), some (.int (iI v2)), some (.int (iI v3)), some (.int (iI v4))] [.ref 100] (mk m q w)) else (gv d rR153 36 [some (.ref 100), some (.int (iI v1)), some (.int (iI v2)), some (.int (iI v3)), some (.int (iI v4))] [.int (iI 1), .ref 100] (mk m q w)) := by
  refine Eq.trans (k_i1eq rfl rfl) ?_
  refine ifc ?_ ?_
  · exact rfl
  · refine Eq.trans (k_con rfl) ?_
    refine Eq.trans (k_go rfl rfl) ?_
    exact rfl
theorem b_153_35 {d : Nat} {m : Nat → Nat → Int} {q : Nat → Nat → Option Nat} {w : Option (Nat → Int64)} {v1 v2 v3 v4 : Int}   : gv d rR153 35 [some (.ref 100), some (.int (iI v1)), some (.int (iI v2)), some (.int (iI v3)), some (.int (iI v4))] [.ref 100] (mk m q w) =
    gv d rR153 36 [some (.ref 100), some (.int (iI v1)), some (.int (iI v2)), some (.int (iI v3)), some (.int (iI v4))] [.int (iI 0), .ref 100] (mk m q w) := by
  refine Eq.trans (k_con rfl) ?_
  exact rfl
theorem b_153_36 {d : Nat} {m : Nat → Nat → Int} {q : Nat → Nat → Option Nat} {w : Option (Nat → Int64)} {v1 v2 v3 v4 s1 : Int}   : gv d rR153 36 [some (.ref 100), some (.int (iI v1)), some (.int (iI v2)), some (.int (iI v3)), some (.int (iI v4))] [.int (iI s1), .ref 100] (mk m q w) =
    rBd (ev d 116 [.ref 100, .int (iI s1)] (mk m q w)) (fun v M' => gv d rR153 39 [some (.ref 100), some (.int (iI v1)), some (.int (iI v2)), some (.int (iI v3)), some (.int (iI v4))] (v.toList ++ []) M') := by
  exact k_cV1 rfl s_100 q_116 rfl rfl rfl (bl rfl)
theorem b_153_39 {d : Nat} {m : Nat → Nat → Int} {q : Nat → Nat → Option Nat} {w : Option (Nat → Int64)} {v1 v2 v3 v4 : Int}   : gv d rR153 39 [some (.ref 100), some (.int (iI v1)), some (.int (iI v2)), some (.int (iI v3)), some (.int (iI v4))] [] (mk m q w) =
    gv d rR153 54 [some (.ref 100), some (.int (iI v1)), some (.int (iI v2)), some (.int (iI v3)), some (.int (iI v4))] (rOv (q 100 9) :: [.ref 108, .ref 177]) (mk m q w) := by
  refine Eq.trans (k_ald0 rfl) ?_
  refine Eq.trans (k_gtR rfl s_100 rfl (by decide)) ?_
  refine Eq.trans (k_ald0 rfl) ?_
  refine Eq.trans (k_gtR rfl s_100 rfl (by decide)) ?_
  refine Eq.trans (k_gtR rfl s_107 rfl (by decide)) ?_
  refine Eq.trans (k_ald0 rfl) ?_
  exact k_gtV rfl s_100 rfl (by decide)
theorem b_153_54 {d : Nat} {m : Nat → Nat → Int} {q : Nat → Nat → Option Nat} {w : Option (Nat → Int64)} {v1 v2 v3 v4 : Int} {z51 : Nat} (hz51 : iLaw z51)  : gv d rR153 54 [some (.ref 100), some (.int (iI v1)), some (.int (iI v2)), some (.int (iI v3)), some (.int (iI v4))] [.ref z51, .ref 108, .ref 177] (mk m q w) =
    rBd (ev d 113 [.ref 177, .ref 108, .ref z51, .int (iI v1), .int (iI v2), .int (iI v3)] (mk m q w)) (fun v M' => gv d rR153 60 [some (.ref 100), some (.int (iI v1)), some (.int (iI v2)), some (.int (iI v3)), some (.int (iI v4))] (v.toList ++ []) M') := by
  refine Eq.trans (k_ild1 rfl) ?_
  refine Eq.trans (k_ild2 rfl) ?_
  refine Eq.trans (k_ild3 rfl) ?_
  exact k_cV5 rfl s_177 q_113 rfl rfl rfl (bl rfl)
theorem b_153_60 {d : Nat} {m : Nat → Nat → Int} {q : Nat → Nat → Option Nat} {w : Option (Nat → Int64)} {u1 u2 u3 : Option Value} {v4 : Int}   : gv d rR153 60 [some (.ref 100), u1, u2, u3, some (.int (iI v4))] [] (mk m q w) =
    gv d rR153 62 [some (.ref 100), u1, u2, u3, some (.int (iI v4))] [.int (iI v4)] (mk m q w) := by
  refine Eq.trans (k_ild4 rfl) ?_
  exact rfl
theorem b_153_62_0 {d : Nat} {m : Nat → Nat → Int} {q : Nat → Nat → Option Nat} {w : Option (Nat → Int64)} {u1 u2 u3 u4 : Option Value}   : gv d rR153 62 [some (.ref 100), u1, u2, u3, u4] [.int (iI 0)] (mk m q w) = gv d rR153 88 [some (.ref 100), u1, u2, u3, u4] [] (mk m q w) := k_tsw rfl (by decide) (by decide) rfl rfl
theorem b_153_62_1 {d : Nat} {m : Nat → Nat → Int} {q : Nat → Nat → Option Nat} {w : Option (Nat → Int64)} {u1 u2 u3 u4 : Option Value}   : gv d rR153 62 [some (.ref 100), u1, u2, u3, u4] [.int (iI 1)] (mk m q w) = gv d rR153 96 [some (.ref 100), u1, u2, u3, u4] [] (mk m q w) := k_tsw rfl (by decide) (by decide) rfl rfl
theorem b_153_62_2 {d : Nat} {m : Nat → Nat → Int} {q : Nat → Nat → Option Nat} {w : Option (Nat → Int64)} {u1 u2 u3 u4 : Option Value}   : gv d rR153 62 [some (.ref 100), u1, u2, u3, u4] [.int (iI 2)] (mk m q w) = gv d rR153 107 [some (.ref 100), u1, u2, u3, u4] [] (mk m q w) := k_tsw rfl (by decide) (by decide) rfl rfl
theorem b_153_62_d {d : Nat} {m : Nat → Nat → Int} {q : Nat → Nat → Option Nat} {w : Option (Nat → Int64)} {u1 u2 u3 u4 : Option Value} {s0 : Int}  (g0 : i32 s0) (g1 : s0 < 0 ∨ 2 < s0) : gv d rR153 62 [some (.ref 100), u1, u2, u3, u4] [.int (iI s0)] (mk m q w) = gv d rR153 118 [some (.ref 100), u1, u2, u3, u4] [] (mk m q w) := k_tsd rfl g0 g1 rfl
theorem b_153_88 {d : Nat} {m : Nat → Nat → Int} {q : Nat → Nat → Option Nat} {w : Option (Nat → Int64)} {u1 u2 u3 u4 : Option Value}   : gv d rR153 88 [some (.ref 100), u1, u2, u3, u4] [] (mk m q w) =
    some (.inl (some (.int (iI (m 177 1)))), (mk m q w, (0, 0))) := by
  refine Eq.trans (k_ald0 rfl) ?_
  refine Eq.trans (k_gtR rfl s_100 rfl (by decide)) ?_
  refine Eq.trans (k_gtI rfl s_177 rfl (by decide)) ?_
  exact k_rtI rfl rfl
theorem b_153_96 {d : Nat} {m : Nat → Nat → Int} {q : Nat → Nat → Option Nat} {w : Option (Nat → Int64)} {u1 u2 u3 u4 : Option Value}   : gv d rR153 96 [some (.ref 100), u1, u2, u3, u4] [] (mk m q w) =
    some (.inl (some (.int (iI (m 178 2)))), (mk m q w, (0, 0))) := by
  refine Eq.trans (k_ald0 rfl) ?_
  refine Eq.trans (k_gtR rfl s_100 rfl (by decide)) ?_
  refine Eq.trans (k_gtR rfl s_177 rfl (by decide)) ?_
  refine Eq.trans (k_gtI rfl s_178 rfl (by decide)) ?_
  exact k_rtI rfl rfl
theorem b_153_107 {d : Nat} {m : Nat → Nat → Int} {q : Nat → Nat → Option Nat} {w : Option (Nat → Int64)} {u1 u2 u3 u4 : Option Value}   : gv d rR153 107 [some (.ref 100), u1, u2, u3, u4] [] (mk m q w) =
    some (.inl (some (.int (iI (m 178 3)))), (mk m q w, (0, 0))) := by
  refine Eq.trans (k_ald0 rfl) ?_
  refine Eq.trans (k_gtR rfl s_100 rfl (by decide)) ?_
  refine Eq.trans (k_gtR rfl s_177 rfl (by decide)) ?_
  refine Eq.trans (k_gtI rfl s_178 rfl (by decide)) ?_
  exact k_rtI rfl rfl
theorem b_153_118 {d : Nat} {m : Nat → Nat → Int} {q : Nat → Nat → Option Nat} {w : Option (Nat → Int64)} {u1 u2 u3 u4 : Option Value}   : gv d rR153 118 [some (.ref 100), u1, u2, u3, u4] [] (mk m q w) =
    some (.inl (some (.int (iI (m 178 6)))), (mk m q w, (0, 0))) := by
  refine Eq.trans (k_ald0 rfl) ?_
  refine Eq.trans (k_gtR rfl s_100 rfl (by decide)) ?_
  refine Eq.trans (k_gtR rfl s_177 rfl (by decide)) ?_
  refine Eq.trans (k_gtI rfl s_178 rfl (by decide)) ?_
  exact k_rtI rfl rfl
theorem e_153 {d : Nat} (hd : 1 ≤ d) {a0 a1 a2 a3 a4 : Value} (M : rMem) (h0 : a0.category = 1) (h1 : a1.category = 1) (h2 : a2.category = 1) (h3 : a3.category = 1) (h4 : a4.category = 1) : ev d 153 [a0, a1, a2, a3, a4] M = gv (d - 1) rR153 0 [some a0, some a1, some a2, some a3, some a4] [] M := ev_at hd q_153 rfl (by simp [*]) rfl
/-! FanHouse.span(IIIII)I -/
theorem b_154_0 {d : Nat} {m : Nat → Nat → Int} {q : Nat → Nat → Option Nat} {w : Option (Nat → Int64)} {u6 u7 u8 u9 : Option Value} {v1 v2 v3 v4 v5 : Int}   : gv d rR154 0 [some (.ref 100), some (.int (iI v1)), some (.int (iI v2)), some (.int (iI v3)), some (.int (iI v4)), some (.int (iI v5)), u6, u7, u8, u9] [] (mk m q w) =
    rBd (ev d 6 [.int (iI v2), .int (iI 1), .int (iI 10)] (mk m q w)) (fun v M' => gv d rR154 8 [some (.ref 100), some (.int (iI v1)), some (.int (iI v2)), some (.int (iI v3)), some (.int (iI v4)), some (.int (iI v5)), u6, u7, u8, u9] (v.toList ++ [.ref 100]) M') := by
  refine Eq.trans (k_ald0 rfl) ?_
  refine Eq.trans (k_ild2 rfl) ?_
  refine Eq.trans (k_con rfl) ?_
  refine Eq.trans (k_bip rfl (by decide)) ?_
  exact k_cS3 rfl (by decide) q_6 rfl rfl (bl rfl)
theorem b_154_8 {d : Nat} {m : Nat → Nat → Int} {q : Nat → Nat → Option Nat} {w : Option (Nat → Int64)} {u6 u7 u8 u9 : Option Value} {v1 v2 v3 v4 v5 s1 : Int}   : gv d rR154 8 [some (.ref 100), some (.int (iI v1)), some (.int (iI v2)), some (.int (iI v3)), some (.int (iI v4)), some (.int (iI v5)), u6, u7, u8, u9] [.int (iI s1), .ref 100] (mk m q w) =
    if iI s1 = iI 0 then (gv d rR154 25 [some (.ref 100), some (.int (iI v1)), some (.int (iI v2)), some (.int (iI v3)), some (.int (iI v4)), some (.int (iI v5)), u6, u7, u8, u9] [.ref 100] (mk m q w)) else (rBd (ev d 6 [.int (iI v3), .int (iI 0), .int (iI 16)] (mk m q w)) (fun v M' => gv d rR154 18 [some (.ref 100), some (.int (iI v1)), some (.int (iI v2)), some (.int (iI v3)), some (.int (iI v4)), some (.int (iI v5)), u6, u7, u8, u9] (v.toList ++ [.ref 100]) M')) := by
  refine Eq.trans (k_i1eq rfl rfl) ?_
  refine ifc ?_ ?_
  · exact rfl
  · refine Eq.trans (k_ild3 rfl) ?_
    refine Eq.trans (k_con rfl) ?_
    refine Eq.trans (k_bip rfl (by decide)) ?_
    exact k_cS3 rfl (by decide) q_6 rfl rfl (bl rfl)
theorem b_154_18 {d : Nat} {m : Nat → Nat → Int} {q : Nat → Nat → Option Nat} {w : Option (Nat → Int64)} {u6 u7 u8 u9 : Option Value} {v1 v2 v3 v4 v5 s1 : Int}   : gv d rR154 18 [some (.ref 100), some (.int (iI v1)), some (.int (iI v2)), some (.int (iI v3)), some (.int (iI v4)), some (.int (iI v5)), u6, u7, u8, u9] [.int (iI s1), .ref 100] (mk m q w) =
    if iI s1 = iI 0 then (gv d rR154 25 [some (.ref 100), some (.int (iI v1)), some (.int (iI v2)), some (.int (iI v3)), some (.int (iI v4)), some (.int (iI v5)), u6, u7, u8, u9] [.ref 100] (mk m q w)) else (gv d rR154 26 [some (.ref 100), some (.int (iI v1)), some (.int (iI v2)), some (.int (iI v3)), some (.int (iI v4)), some (.int (iI v5)), u6, u7, u8, u9] [.int (iI 1), .ref 100] (mk m q w)) := by
  refine Eq.trans (k_i1eq rfl rfl) ?_
  refine ifc ?_ ?_
  · exact rfl
  · refine Eq.trans (k_con rfl) ?_
    refine Eq.trans (k_go rfl rfl) ?_
    exact rfl
theorem b_154_25 {d : Nat} {m : Nat → Nat → Int} {q : Nat → Nat → Option Nat} {w : Option (Nat → Int64)} {u6 u7 u8 u9 : Option Value} {v1 v2 v3 v4 v5 : Int}   : gv d rR154 25 [some (.ref 100), some (.int (iI v1)), some (.int (iI v2)), some (.int (iI v3)), some (.int (iI v4)), some (.int (iI v5)), u6, u7, u8, u9] [.ref 100] (mk m q w) =
    gv d rR154 26 [some (.ref 100), some (.int (iI v1)), some (.int (iI v2)), some (.int (iI v3)), some (.int (iI v4)), some (.int (iI v5)), u6, u7, u8, u9] [.int (iI 0), .ref 100] (mk m q w) := by
  refine Eq.trans (k_con rfl) ?_
  exact rfl
theorem b_154_26 {d : Nat} {m : Nat → Nat → Int} {q : Nat → Nat → Option Nat} {w : Option (Nat → Int64)} {u6 u7 u8 u9 : Option Value} {v1 v2 v3 v4 v5 s1 : Int}   : gv d rR154 26 [some (.ref 100), some (.int (iI v1)), some (.int (iI v2)), some (.int (iI v3)), some (.int (iI v4)), some (.int (iI v5)), u6, u7, u8, u9] [.int (iI s1), .ref 100] (mk m q w) =
    rBd (ev d 116 [.ref 100, .int (iI s1)] (mk m q w)) (fun v M' => gv d rR154 29 [some (.ref 100), some (.int (iI v1)), some (.int (iI v2)), some (.int (iI v3)), some (.int (iI v4)), some (.int (iI v5)), u6, u7, u8, u9] (v.toList ++ []) M') := by
  exact k_cV1 rfl s_100 q_116 rfl rfl rfl (bl rfl)
theorem b_154_29 {d : Nat} {m : Nat → Nat → Int} {q : Nat → Nat → Option Nat} {w : Option (Nat → Int64)} {u6 u7 u8 u9 : Option Value} {v1 v2 v3 v4 v5 : Int}   : gv d rR154 29 [some (.ref 100), some (.int (iI v1)), some (.int (iI v2)), some (.int (iI v3)), some (.int (iI v4)), some (.int (iI v5)), u6, u7, u8, u9] [] (mk m q w) =
    rBd (ev d 6 [.int (iI v4), .int (iI 1), .int (iI 48)] (mk m q w)) (fun v M' => gv d rR154 38 [some (.ref 100), some (.int (iI v1)), some (.int (iI v2)), some (.int (iI v3)), some (.int (iI v4)), some (.int (iI v5)), u6, u7, u8, u9] (v.toList ++ [.ref 100]) M') := by
  refine Eq.trans (k_ald0 rfl) ?_
  refine Eq.trans (k_ild4 rfl) ?_
  refine Eq.trans (k_con rfl) ?_
  refine Eq.trans (k_bip rfl (by decide)) ?_
  exact k_cS3 rfl (by decide) q_6 rfl rfl (bl rfl)
theorem b_154_38 {d : Nat} {m : Nat → Nat → Int} {q : Nat → Nat → Option Nat} {w : Option (Nat → Int64)} {u6 u7 u8 u9 : Option Value} {v1 v2 v3 v4 v5 s1 : Int}   : gv d rR154 38 [some (.ref 100), some (.int (iI v1)), some (.int (iI v2)), some (.int (iI v3)), some (.int (iI v4)), some (.int (iI v5)), u6, u7, u8, u9] [.int (iI s1), .ref 100] (mk m q w) =
    if iI s1 = iI 0 then (gv d rR154 55 [some (.ref 100), some (.int (iI v1)), some (.int (iI v2)), some (.int (iI v3)), some (.int (iI v4)), some (.int (iI v5)), u6, u7, u8, u9] [.ref 100] (mk m q w)) else (rBd (ev d 6 [.int (iI v5), .int (iI 0), .int (iI 2)] (mk m q w)) (fun v M' => gv d rR154 48 [some (.ref 100), some (.int (iI v1)), some (.int (iI v2)), some (.int (iI v3)), some (.int (iI v4)), some (.int (iI v5)), u6, u7, u8, u9] (v.toList ++ [.ref 100]) M')) := by
  refine Eq.trans (k_i1eq rfl rfl) ?_
  refine ifc ?_ ?_
  · exact rfl
  · refine Eq.trans (k_ild5 rfl) ?_
    refine Eq.trans (k_con rfl) ?_
    refine Eq.trans (k_con rfl) ?_
    exact k_cS3 rfl (by decide) q_6 rfl rfl (bl rfl)
theorem b_154_48 {d : Nat} {m : Nat → Nat → Int} {q : Nat → Nat → Option Nat} {w : Option (Nat → Int64)} {u6 u7 u8 u9 : Option Value} {v1 v2 v3 v4 v5 s1 : Int}   : gv d rR154 48 [some (.ref 100), some (.int (iI v1)), some (.int (iI v2)), some (.int (iI v3)), some (.int (iI v4)), some (.int (iI v5)), u6, u7, u8, u9] [.int (iI s1), .ref 100] (mk m q w) =
    if iI s1 = iI 0 then (gv d rR154 55 [some (.ref 100), some (.int (iI v1)), some (.int (iI v2)), some (.int (iI v3)), some (.int (iI v4)), some (.int (iI v5)), u6, u7, u8, u9] [.ref 100] (mk m q w)) else (gv d rR154 56 [some (.ref 100), some (.int (iI v1)), some (.int (iI v2)), some (.int (iI v3)), some (.int (iI v4)), some (.int (iI v5)), u6, u7, u8, u9] [.int (iI 1), .ref 100] (mk m q w)) := by
  refine Eq.trans (k_i1eq rfl rfl) ?_
  refine ifc ?_ ?_
  · exact rfl
  · refine Eq.trans (k_con rfl) ?_
    refine Eq.trans (k_go rfl rfl) ?_
    exact rfl
theorem b_154_55 {d : Nat} {m : Nat → Nat → Int} {q : Nat → Nat → Option Nat} {w : Option (Nat → Int64)} {u6 u7 u8 u9 : Option Value} {v1 v2 v3 v4 v5 : Int}   : gv d rR154 55 [some (.ref 100), some (.int (iI v1)), some (.int (iI v2)), some (.int (iI v3)), some (.int (iI v4)), some (.int (iI v5)), u6, u7, u8, u9] [.ref 100] (mk m q w) =
    gv d rR154 56 [some (.ref 100), some (.int (iI v1)), some (.int (iI v2)), some (.int (iI v3)), some (.int (iI v4)), some (.int (iI v5)), u6, u7, u8, u9] [.int (iI 0), .ref 100] (mk m q w) := by
  refine Eq.trans (k_con rfl) ?_
  exact rfl
theorem b_154_56 {d : Nat} {m : Nat → Nat → Int} {q : Nat → Nat → Option Nat} {w : Option (Nat → Int64)} {u6 u7 u8 u9 : Option Value} {v1 v2 v3 v4 v5 s1 : Int}   : gv d rR154 56 [some (.ref 100), some (.int (iI v1)), some (.int (iI v2)), some (.int (iI v3)), some (.int (iI v4)), some (.int (iI v5)), u6, u7, u8, u9] [.int (iI s1), .ref 100] (mk m q w) =
    rBd (ev d 116 [.ref 100, .int (iI s1)] (mk m q w)) (fun v M' => gv d rR154 59 [some (.ref 100), some (.int (iI v1)), some (.int (iI v2)), some (.int (iI v3)), some (.int (iI v4)), some (.int (iI v5)), u6, u7, u8, u9] (v.toList ++ []) M') := by
  exact k_cV1 rfl s_100 q_116 rfl rfl rfl (bl rfl)
theorem b_154_59 {d : Nat} {m : Nat → Nat → Int} {q : Nat → Nat → Option Nat} {w : Option (Nat → Int64)} {u6 u7 u8 u9 : Option Value} {v1 v2 v3 v4 v5 : Int}   : gv d rR154 59 [some (.ref 100), some (.int (iI v1)), some (.int (iI v2)), some (.int (iI v3)), some (.int (iI v4)), some (.int (iI v5)), u6, u7, u8, u9] [] (mk m q w) =
    gv d rR154 73 [some (.ref 100), some (.int (iI v1)), some (.int (iI v2)), some (.int (iI v3)), some (.int (iI v4)), some (.int (iI v5)), some (.int (iI (((2147483647 : Nat) : Int)))), some (.int (iI 0)), some (.int (iI 0)), some (.int (iI 0))] [] (mk m q w) := by
  refine Eq.trans (k_ldwi rfl) ?_
  refine Eq.trans (k_ist6 rfl) ?_
  refine Eq.trans (k_con rfl) ?_
  refine Eq.trans (k_ist7 rfl) ?_
  refine Eq.trans (k_con rfl) ?_
  refine Eq.trans (k_ist8 rfl) ?_
  refine Eq.trans (k_con rfl) ?_
  refine Eq.trans (k_ist9 rfl) ?_
  exact rfl
theorem b_154_73 {d : Nat} {m : Nat → Nat → Int} {q : Nat → Nat → Option Nat} {w : Option (Nat → Int64)} {v1 v2 v3 v4 v5 v6 v7 v8 v9 : Int}   : gv d rR154 73 [some (.ref 100), some (.int (iI v1)), some (.int (iI v2)), some (.int (iI v3)), some (.int (iI v4)), some (.int (iI v5)), some (.int (iI v6)), some (.int (iI v7)), some (.int (iI v8)), some (.int (iI v9))] [] (mk m q w) =
    if iI v9 < iI v2 then (gv d rR154 94 [some (.ref 100), some (.int (iI v1)), some (.int (iI v2)), some (.int (iI v3)), some (.int (iI v4)), some (.int (iI v5)), some (.int (iI v6)), some (.int (iI v7)), some (.int (iI v8)), some (.int (iI v9))] (rOv (q 100 9) :: [.ref 108, .ref 177]) (mk m q w)) else (if iI v5 = iI 0 then (gv d rR154 191 [some (.ref 100), some (.int (iI v1)), some (.int (iI v2)), some (.int (iI v3)), some (.int (iI v4)), some (.int (iI v5)), some (.int (iI v6)), some (.int (iI v7)), some (.int (iI v8)), some (.int (iI v9))] [.int (iI v6)] (mk m q w)) else (if iI v5 = iI 1 then (gv d rR154 191 [some (.ref 100), some (.int (iI v1)), some (.int (iI v2)), some (.int (iI v3)), some (.int (iI v4)), some (.int (iI v5)), some (.int (iI v6)), some (.int (iI v7)), some (.int (iI v8)), some (.int (iI v9))] [.int (iI v7)] (mk m q w)) else (gv d rR154 191 [some (.ref 100), some (.int (iI v1)), some (.int (iI v2)), some (.int (iI v3)), some (.int (iI v4)), some (.int (iI v5)), some (.int (iI v6)), some (.int (iI v7)), some (.int (iI v8)), some (.int (iI v9))] [.int (iI v8)] (mk m q w)))) := by
  refine Eq.trans (k_ild9 rfl) ?_
  refine Eq.trans (k_ild2 rfl) ?_
  refine Eq.trans (k_i2ge rfl rfl) ?_
  refine ifc ?_ ?_
  · refine Eq.trans (k_ald0 rfl) ?_
    refine Eq.trans (k_gtR rfl s_100 rfl (by decide)) ?_
    refine Eq.trans (k_ald0 rfl) ?_
    refine Eq.trans (k_gtR rfl s_100 rfl (by decide)) ?_
    refine Eq.trans (k_gtR rfl s_107 rfl (by decide)) ?_
    refine Eq.trans (k_ald0 rfl) ?_
    exact k_gtV rfl s_100 rfl (by decide)
  · refine Eq.trans (k_ild5 rfl) ?_
    refine Eq.trans (k_i1ne rfl rfl) ?_
    refine ifc ?_ ?_
    · refine Eq.trans (k_ild6 rfl) ?_
      refine Eq.trans (k_go rfl rfl) ?_
      exact rfl
    · refine Eq.trans (k_ild5 rfl) ?_
      refine Eq.trans (k_con rfl) ?_
      refine Eq.trans (k_i2ne rfl rfl) ?_
      refine ifc ?_ ?_
      · refine Eq.trans (k_ild7 rfl) ?_
        refine Eq.trans (k_go rfl rfl) ?_
        exact rfl
      · refine Eq.trans (k_ild8 rfl) ?_
        exact rfl
theorem b_154_94 {d : Nat} {m : Nat → Nat → Int} {q : Nat → Nat → Option Nat} {w : Option (Nat → Int64)} {v1 v2 v3 v4 v5 v6 v7 v8 v9 : Int} {z91 : Nat} (hz91 : iLaw z91)  : gv d rR154 94 [some (.ref 100), some (.int (iI v1)), some (.int (iI v2)), some (.int (iI v3)), some (.int (iI v4)), some (.int (iI v5)), some (.int (iI v6)), some (.int (iI v7)), some (.int (iI v8)), some (.int (iI v9))] [.ref z91, .ref 108, .ref 177] (mk m q w) =
    rBd (ev d 113 [.ref 177, .ref 108, .ref z91, .int (iI (v1 + v9)), .int (iI v3), .int (iI v4)] (mk m q w)) (fun v M' => gv d rR154 104 [some (.ref 100), some (.int (iI v1)), some (.int (iI v2)), some (.int (iI v3)), some (.int (iI v4)), some (.int (iI v5)), some (.int (iI v6)), some (.int (iI v7)), some (.int (iI v8)), some (.int (iI v9))] (v.toList ++ []) M') := by
  refine Eq.trans (k_ild1 rfl) ?_
  refine Eq.trans (k_ild9 rfl) ?_
  refine Eq.trans (k_add rfl) ?_
  refine Eq.trans (k_ild3 rfl) ?_
  refine Eq.trans (k_ild4 rfl) ?_
  exact k_cV5 rfl s_177 q_113 rfl rfl rfl (bl rfl)
theorem b_154_104 {d : Nat} {m : Nat → Nat → Int} {q : Nat → Nat → Option Nat} {w : Option (Nat → Int64)} {v1 v2 v3 v4 v5 v6 v7 v8 v9 : Int}  (g0 : 9 ≤ d) : gv d rR154 104 [some (.ref 100), some (.int (iI v1)), some (.int (iI v2)), some (.int (iI v3)), some (.int (iI v4)), some (.int (iI v5)), some (.int (iI v6)), some (.int (iI v7)), some (.int (iI v8)), some (.int (iI v9))] [] (mk m q w) =
    gv d rR154 140 [some (.ref 100), some (.int (iI v1)), some (.int (iI v2)), some (.int (iI v3)), some (.int (iI v4)), some (.int (iI v5)), some (.int (iI (if iI (m 177 1) < iI v6 then (m 177 1) else v6))), some (.int (iI (if iI v7 < iI (m 177 1) then (m 177 1) else v7))), some (.int (iI v8)), some (.int (iI v9))] (rOv (q 181 0) :: [.int (iI v8)]) (mk m q w) := by
  refine Eq.trans (k_ild6 rfl) ?_
  refine Eq.trans (k_ald0 rfl) ?_
  refine Eq.trans (k_gtR rfl s_100 rfl (by decide)) ?_
  refine Eq.trans (k_gtI rfl s_177 rfl (by decide)) ?_
  refine Eq.trans (k_min rfl g0 (bl rfl)) ?_
  refine Eq.trans (k_ist6 rfl) ?_
  refine Eq.trans (k_ild7 rfl) ?_
  refine Eq.trans (k_ald0 rfl) ?_
  refine Eq.trans (k_gtR rfl s_100 rfl (by decide)) ?_
  refine Eq.trans (k_gtI rfl s_177 rfl (by decide)) ?_
  refine Eq.trans (k_max rfl g0 (bl rfl)) ?_
  refine Eq.trans (k_ist7 rfl) ?_
  refine Eq.trans (k_ild8 rfl) ?_
  refine Eq.trans (k_ald0 rfl) ?_
  refine Eq.trans (k_gtR rfl s_100 rfl (by decide)) ?_
  refine Eq.trans (k_con rfl) ?_
  exact k_aaV (t := 1) rfl s_181 (bl rfl) (by decide) (by decide)
theorem b_154_140 {d : Nat} {m : Nat → Nat → Int} {q : Nat → Nat → Option Nat} {w : Option (Nat → Int64)} {u8 : Option Value} {v1 v2 v3 v4 v5 v6 v7 v9 s0 : Int} {z139 : Nat} (hz139 : iPic z139)  : gv d rR154 140 [some (.ref 100), some (.int (iI v1)), some (.int (iI v2)), some (.int (iI v3)), some (.int (iI v4)), some (.int (iI v5)), some (.int (iI v6)), some (.int (iI v7)), u8, some (.int (iI v9))] [.ref z139, .int (iI s0)] (mk m q w) =
    rBd (ev d 77 [.ref z139, .ref 178, .int (iI 0)] (mk m q w)) (fun v M' => gv d rR154 151 [some (.ref 100), some (.int (iI v1)), some (.int (iI v2)), some (.int (iI v3)), some (.int (iI v4)), some (.int (iI v5)), some (.int (iI v6)), some (.int (iI v7)), u8, some (.int (iI v9))] (v.toList ++ [.int (iI s0)]) M') := by
  refine Eq.trans (k_ald0 rfl) ?_
  refine Eq.trans (k_gtR rfl s_100 rfl (by decide)) ?_
  refine Eq.trans (k_gtR rfl s_177 rfl (by decide)) ?_
  refine Eq.trans (k_con rfl) ?_
  exact k_cV2 rfl (pic_0 hz139) q_77 rfl rfl rfl (bl rfl)
theorem b_154_151 {d : Nat} {m : Nat → Nat → Int} {q : Nat → Nat → Option Nat} {w : Option (Nat → Int64)} {u8 : Option Value} {v1 v2 v3 v4 v5 v6 v7 v9 s0 s1 : Int}   : gv d rR154 151 [some (.ref 100), some (.int (iI v1)), some (.int (iI v2)), some (.int (iI v3)), some (.int (iI v4)), some (.int (iI v5)), some (.int (iI v6)), some (.int (iI v7)), u8, some (.int (iI v9))] [.int (iI s1), .int (iI s0)] (mk m q w) =
    if iI s1 = iI 0 then (gv d rR154 159 [some (.ref 100), some (.int (iI v1)), some (.int (iI v2)), some (.int (iI v3)), some (.int (iI v4)), some (.int (iI v5)), some (.int (iI v6)), some (.int (iI v7)), u8, some (.int (iI v9))] [.int (iI 0), .int (iI s0)] (mk m q w)) else (gv d rR154 159 [some (.ref 100), some (.int (iI v1)), some (.int (iI v2)), some (.int (iI v3)), some (.int (iI v4)), some (.int (iI v5)), some (.int (iI v6)), some (.int (iI v7)), u8, some (.int (iI v9))] [.int (iI 1), .int (iI s0)] (mk m q w)) := by
  refine Eq.trans (k_i1eq rfl rfl) ?_
  refine ifc ?_ ?_
  · refine Eq.trans (k_con rfl) ?_
    exact rfl
  · refine Eq.trans (k_con rfl) ?_
    refine Eq.trans (k_go rfl rfl) ?_
    exact rfl
theorem b_154_159 {d : Nat} {m : Nat → Nat → Int} {q : Nat → Nat → Option Nat} {w : Option (Nat → Int64)} {u8 : Option Value} {v1 v2 v3 v4 v5 v6 v7 v9 s0 s1 : Int}   : gv d rR154 159 [some (.ref 100), some (.int (iI v1)), some (.int (iI v2)), some (.int (iI v3)), some (.int (iI v4)), some (.int (iI v5)), some (.int (iI v6)), some (.int (iI v7)), u8, some (.int (iI v9))] [.int (iI s1), .int (iI s0)] (mk m q w) =
    gv d rR154 73 [some (.ref 100), some (.int (iI v1)), some (.int (iI v2)), some (.int (iI v3)), some (.int (iI v4)), some (.int (iI v5)), some (.int (iI v6)), some (.int (iI v7)), some (.int (iI (s0 + s1))), some (.int (iI (v9 + 1)))] [] (mk m q w) := by
  refine Eq.trans (k_add rfl) ?_
  refine Eq.trans (k_ist8 rfl) ?_
  refine Eq.trans (k_inc9 rfl) ?_
  refine Eq.trans (k_go rfl rfl) ?_
  exact rfl
theorem b_154_191 {d : Nat} {m : Nat → Nat → Int} {q : Nat → Nat → Option Nat} {w : Option (Nat → Int64)} {u0 u1 u2 u3 u4 u5 u6 u7 u8 u9 : Option Value} {s0 : Int}   : gv d rR154 191 [u0, u1, u2, u3, u4, u5, u6, u7, u8, u9] [.int (iI s0)] (mk m q w) =
    some (.inl (some (.int (iI s0))), (mk m q w, (0, 0))) := by
  exact k_rtI rfl rfl
theorem e_154 {d : Nat} (hd : 1 ≤ d) {a0 a1 a2 a3 a4 a5 : Value} (M : rMem) (h0 : a0.category = 1) (h1 : a1.category = 1) (h2 : a2.category = 1) (h3 : a3.category = 1) (h4 : a4.category = 1) (h5 : a5.category = 1) : ev d 154 [a0, a1, a2, a3, a4, a5] M = gv (d - 1) rR154 0 [some a0, some a1, some a2, some a3, some a4, some a5, none, none, none, none] [] M := ev_at hd q_154 rfl (by simp [*]) rfl
/-! FanHouse.image()I -/
theorem b_155_0 {d : Nat} {m : Nat → Nat → Int} {q : Nat → Nat → Option Nat} {w : Option (Nat → Int64)}   : gv d rR155 0 [some (.ref 100)] [] (mk m q w) =
    if iI (m 100 14) < iI (((3 : Nat) : Int)) then (gv d rR155 14 [some (.ref 100)] [] (mk m q w)) else (some (.inl (some (.int (iI (-1)))), (mk m q w, (0, 0)))) := by
  refine Eq.trans (k_ald0 rfl) ?_
  refine Eq.trans (k_gtI rfl s_100 rfl (by decide)) ?_
  refine Eq.trans (k_ald0 rfl) ?_
  refine Eq.trans (k_gtR rfl s_100 rfl (by decide)) ?_
  refine Eq.trans (k_alen rfl s_160 (by decide)) ?_
  refine Eq.trans (k_i2lt rfl rfl) ?_
  refine ifc ?_ ?_
  · exact rfl
  · refine Eq.trans (k_con rfl) ?_
    exact k_rtI rfl rfl
theorem b_155_14 {d : Nat} {m : Nat → Nat → Int} {q : Nat → Nat → Option Nat} {w : Option (Nat → Int64)}  (g0 : 0 ≤ (m 100 14)) (g1 : (m 100 14) < 3) : gv d rR155 14 [some (.ref 100)] [] (mk m q w) =
    gv d rR155 23 [some (.ref 100)] (.ref (200 + 53 * (Int.toNat (m 100 14))) :: []) (mk m q w) := by
  refine Eq.trans (k_ald0 rfl) ?_
  refine Eq.trans (k_gtR rfl s_100 rfl (by decide)) ?_
  refine Eq.trans (k_ald0 rfl) ?_
  refine Eq.trans (k_gtI rfl s_100 rfl (by decide)) ?_
  exact k_aaR (t := 0) rfl s_160 (bl rfl) g0 g1
theorem b_155_23 {d : Nat} {m : Nat → Nat → Int} {q : Nat → Nat → Option Nat} {w : Option (Nat → Int64)} {z22 : Nat} (hz22 : iKeep z22)  : gv d rR155 23 [some (.ref 100)] [.ref z22] (mk m q w) =
    rBd (ev d 60 [.ref z22, .ref 107] (mk m q w)) (fun v M' => gv d rR155 30 [some (.ref 100)] (v.toList ++ []) M') := by
  refine Eq.trans (k_ald0 rfl) ?_
  refine Eq.trans (k_gtR rfl s_100 rfl (by decide)) ?_
  exact k_cV1 rfl (keep_0 hz22) q_60 rfl rfl rfl (bl rfl)
theorem b_155_30 {d : Nat} {m : Nat → Nat → Int} {q : Nat → Nat → Option Nat} {w : Option (Nat → Int64)}   : gv d rR155 30 [some (.ref 100)] [] (mk m q w) =
    some (.inl (some (.int (iI ((wr m 100 14 ((m 100 14) + 1)) 100 14)))), (mk (wr m 100 14 ((m 100 14) + 1)) q w, (0, 0))) := by
  refine Eq.trans (k_ald0 rfl) ?_
  refine Eq.trans (k_dup rfl rfl) ?_
  refine Eq.trans (k_gtI rfl s_100 rfl (by decide)) ?_
  refine Eq.trans (k_con rfl) ?_
  refine Eq.trans (k_add rfl) ?_
  refine Eq.trans (k_ptI rfl s_100 rfl rfl) ?_
  refine Eq.trans (k_ald0 rfl) ?_
  refine Eq.trans (k_gtI rfl s_100 rfl (by decide)) ?_
  exact k_rtI rfl rfl
theorem e_155 {d : Nat} (hd : 1 ≤ d) {a0 : Value} (M : rMem) (h0 : a0.category = 1) : ev d 155 [a0] M = gv (d - 1) rR155 0 [some a0] [] M := ev_at hd q_155 rfl (by simp [*]) rfl
/-! FanHouse.restore()I -/
theorem b_156_0 {d : Nat} {m : Nat → Nat → Int} {q : Nat → Nat → Option Nat} {w : Option (Nat → Int64)}   : gv d rR156 0 [some (.ref 100)] [] (mk m q w) =
    if iI 0 < iI (m 100 14) then (gv d rR156 9 [some (.ref 100)] [] (mk m q w)) else (some (.inl (some (.int (iI (-1)))), (mk m q w, (0, 0)))) := by
  refine Eq.trans (k_ald0 rfl) ?_
  refine Eq.trans (k_gtI rfl s_100 rfl (by decide)) ?_
  refine Eq.trans (k_i1gt rfl rfl) ?_
  refine ifc ?_ ?_
  · exact rfl
  · refine Eq.trans (k_con rfl) ?_
    exact k_rtI rfl rfl
theorem b_156_9 {d : Nat} {m : Nat → Nat → Int} {q : Nat → Nat → Option Nat} {w : Option (Nat → Int64)}  (g0 : 0 ≤ ((wr m 100 14 ((m 100 14) - 1)) 100 14)) (g1 : ((wr m 100 14 ((m 100 14) - 1)) 100 14) < 3) : gv d rR156 9 [some (.ref 100)] [] (mk m q w) =
    gv d rR156 32 [some (.ref 100)] (.ref (200 + 53 * (Int.toNat ((wr m 100 14 ((m 100 14) - 1)) 100 14))) :: [.ref 107]) (mk (wr m 100 14 ((m 100 14) - 1)) q w) := by
  refine Eq.trans (k_ald0 rfl) ?_
  refine Eq.trans (k_dup rfl rfl) ?_
  refine Eq.trans (k_gtI rfl s_100 rfl (by decide)) ?_
  refine Eq.trans (k_con rfl) ?_
  refine Eq.trans (k_sub rfl) ?_
  refine Eq.trans (k_ptI rfl s_100 rfl rfl) ?_
  refine Eq.trans (k_ald0 rfl) ?_
  refine Eq.trans (k_gtR rfl s_100 rfl (by decide)) ?_
  refine Eq.trans (k_ald0 rfl) ?_
  refine Eq.trans (k_gtR rfl s_100 rfl (by decide)) ?_
  refine Eq.trans (k_ald0 rfl) ?_
  refine Eq.trans (k_gtI rfl s_100 rfl (by decide)) ?_
  exact k_aaR (t := 0) rfl s_160 (bl rfl) g0 g1
theorem b_156_32 {d : Nat} {m : Nat → Nat → Int} {q : Nat → Nat → Option Nat} {w : Option (Nat → Int64)} {z31 : Nat} (hz31 : iKeep z31)  : gv d rR156 32 [some (.ref 100)] [.ref z31, .ref 107] (mk m q w) =
    rBd (ev d 60 [.ref 107, .ref z31] (mk m q w)) (fun v M' => gv d rR156 35 [some (.ref 100)] (v.toList ++ []) M') := by
  exact k_cV1 rfl s_107 q_60 rfl rfl rfl (bl rfl)
theorem b_156_35 {d : Nat} {m : Nat → Nat → Int} {q : Nat → Nat → Option Nat} {w : Option (Nat → Int64)}   : gv d rR156 35 [some (.ref 100)] [] (mk m q w) =
    some (.inl (some (.int (iI ((wr m 100 15 0) 100 14)))), (mk (wr m 100 15 0) q w, (0, 0))) := by
  refine Eq.trans (k_ald0 rfl) ?_
  refine Eq.trans (k_con rfl) ?_
  refine Eq.trans (k_ptI rfl s_100 rfl rfl) ?_
  refine Eq.trans (k_ald0 rfl) ?_
  refine Eq.trans (k_gtI rfl s_100 rfl (by decide)) ?_
  exact k_rtI rfl rfl
theorem e_156 {d : Nat} (hd : 1 ≤ d) {a0 : Value} (M : rMem) (h0 : a0.category = 1) : ev d 156 [a0] M = gv (d - 1) rR156 0 [some a0] [] M := ev_at hd q_156 rfl (by simp [*]) rfl
/-! FanHouse.status(I)I -/
theorem b_157_0 {d : Nat} {m : Nat → Nat → Int} {q : Nat → Nat → Option Nat} {w : Option (Nat → Int64)} {v1 : Int}   : gv d rR157 0 [some (.ref 100), some (.int (iI v1))] [] (mk m q w) =
    if iI v1 = iI 0 then (gv d rR157 24 [some (.ref 100), some (.int (iI v1))] [.int (iI (m 100 16))] (mk m q w)) else (if iI v1 = iI 1 then (gv d rR157 24 [some (.ref 100), some (.int (iI v1))] [.int (iI (m 100 17))] (mk m q w)) else (gv d rR157 24 [some (.ref 100), some (.int (iI v1))] [.int (iI (-1))] (mk m q w))) := by
  refine Eq.trans (k_ild1 rfl) ?_
  refine Eq.trans (k_i1ne rfl rfl) ?_
  refine ifc ?_ ?_
  · refine Eq.trans (k_ald0 rfl) ?_
    refine Eq.trans (k_gtI rfl s_100 rfl (by decide)) ?_
    refine Eq.trans (k_go rfl rfl) ?_
    exact rfl
  · refine Eq.trans (k_ild1 rfl) ?_
    refine Eq.trans (k_con rfl) ?_
    refine Eq.trans (k_i2ne rfl rfl) ?_
    refine ifc ?_ ?_
    · refine Eq.trans (k_ald0 rfl) ?_
      refine Eq.trans (k_gtI rfl s_100 rfl (by decide)) ?_
      refine Eq.trans (k_go rfl rfl) ?_
      exact rfl
    · refine Eq.trans (k_con rfl) ?_
      exact rfl
theorem b_157_24 {d : Nat} {m : Nat → Nat → Int} {q : Nat → Nat → Option Nat} {w : Option (Nat → Int64)} {u0 u1 : Option Value} {s0 : Int}   : gv d rR157 24 [u0, u1] [.int (iI s0)] (mk m q w) =
    some (.inl (some (.int (iI s0))), (mk m q w, (0, 0))) := by
  exact k_rtI rfl rfl
theorem e_157 {d : Nat} (hd : 1 ≤ d) {a0 a1 : Value} (M : rMem) (h0 : a0.category = 1) (h1 : a1.category = 1) : ev d 157 [a0, a1] M = gv (d - 1) rR157 0 [some a0, some a1] [] M := ev_at hd q_157 rfl (by simp [*]) rfl
/-! FanHouse.count(I)I -/
theorem b_158_0 {d : Nat} {m : Nat → Nat → Int} {q : Nat → Nat → Option Nat} {w : Option (Nat → Int64)} {v1 : Int}   : gv d rR158 0 [some (.ref 100), some (.int (iI v1))] [] (mk m q w) =
    gv d rR158 1 [some (.ref 100), some (.int (iI v1))] [.int (iI v1)] (mk m q w) := by
  refine Eq.trans (k_ild1 rfl) ?_
  exact rfl
theorem b_158_1_0 {d : Nat} {m : Nat → Nat → Int} {q : Nat → Nat → Option Nat} {w : Option (Nat → Int64)} {u1 : Option Value}   : gv d rR158 1 [some (.ref 100), u1] [.int (iI 0)] (mk m q w) = gv d rR158 28 [some (.ref 100), u1] [] (mk m q w) := k_tsw rfl (by decide) (by decide) rfl rfl
theorem b_158_1_1 {d : Nat} {m : Nat → Nat → Int} {q : Nat → Nat → Option Nat} {w : Option (Nat → Int64)} {u1 : Option Value}   : gv d rR158 1 [some (.ref 100), u1] [.int (iI 1)] (mk m q w) = gv d rR158 33 [some (.ref 100), u1] [] (mk m q w) := k_tsw rfl (by decide) (by decide) rfl rfl
theorem b_158_1_2 {d : Nat} {m : Nat → Nat → Int} {q : Nat → Nat → Option Nat} {w : Option (Nat → Int64)} {u1 : Option Value}   : gv d rR158 1 [some (.ref 100), u1] [.int (iI 2)] (mk m q w) = gv d rR158 41 [some (.ref 100), u1] [] (mk m q w) := k_tsw rfl (by decide) (by decide) rfl rfl
theorem b_158_1_d {d : Nat} {m : Nat → Nat → Int} {q : Nat → Nat → Option Nat} {w : Option (Nat → Int64)} {u1 : Option Value} {s0 : Int}  (g0 : i32 s0) (g1 : s0 < 0 ∨ 2 < s0) : gv d rR158 1 [some (.ref 100), u1] [.int (iI s0)] (mk m q w) = gv d rR158 49 [some (.ref 100), u1] [] (mk m q w) := k_tsd rfl g0 g1 rfl
theorem b_158_28 {d : Nat} {m : Nat → Nat → Int} {q : Nat → Nat → Option Nat} {w : Option (Nat → Int64)} {u1 : Option Value}   : gv d rR158 28 [some (.ref 100), u1] [] (mk m q w) =
    some (.inl (some (.int (iI (m 100 14)))), (mk m q w, (0, 0))) := by
  refine Eq.trans (k_ald0 rfl) ?_
  refine Eq.trans (k_gtI rfl s_100 rfl (by decide)) ?_
  exact k_rtI rfl rfl
theorem b_158_33 {d : Nat} {m : Nat → Nat → Int} {q : Nat → Nat → Option Nat} {w : Option (Nat → Int64)} {u1 : Option Value}   : gv d rR158 33 [some (.ref 100), u1] [] (mk m q w) =
    some (.inl (some (.int (iI (m 101 1)))), (mk m q w, (0, 0))) := by
  refine Eq.trans (k_ald0 rfl) ?_
  refine Eq.trans (k_gtR rfl s_100 rfl (by decide)) ?_
  refine Eq.trans (k_gtI rfl s_101 rfl (by decide)) ?_
  exact k_rtI rfl rfl
theorem b_158_41 {d : Nat} {m : Nat → Nat → Int} {q : Nat → Nat → Option Nat} {w : Option (Nat → Int64)} {u1 : Option Value}   : gv d rR158 41 [some (.ref 100), u1] [] (mk m q w) =
    some (.inl (some (.int (iI (m 107 2)))), (mk m q w, (0, 0))) := by
  refine Eq.trans (k_ald0 rfl) ?_
  refine Eq.trans (k_gtR rfl s_100 rfl (by decide)) ?_
  refine Eq.trans (k_gtI rfl s_107 rfl (by decide)) ?_
  exact k_rtI rfl rfl
theorem b_158_49 {d : Nat} {m : Nat → Nat → Int} {q : Nat → Nat → Option Nat} {w : Option (Nat → Int64)} {u0 u1 : Option Value}   : gv d rR158 49 [u0, u1] [] (mk m q w) =
    some (.inl (some (.int (iI (-1)))), (mk m q w, (0, 0))) := by
  refine Eq.trans (k_con rfl) ?_
  exact k_rtI rfl rfl
theorem e_158 {d : Nat} (hd : 1 ≤ d) {a0 a1 : Value} (M : rMem) (h0 : a0.category = 1) (h1 : a1.category = 1) : ev d 158 [a0, a1] M = gv (d - 1) rR158 0 [some a0, some a1] [] M := ev_at hd q_158 rfl (by simp [*]) rfl
/-! FanHouseModel.thrown()I -/
theorem b_159_0 {d : Nat} {m : Nat → Nat → Int} {q : Nat → Nat → Option Nat} {w : Option (Nat → Int64)}   : gv d rR159 0 [some (.ref 363)] [] (mk m q w) =
    some (.inl (some (.int (iI (m 363 0)))), (mk m q w, (0, 0))) := by
  refine Eq.trans (k_ald0 rfl) ?_
  refine Eq.trans (k_gtI rfl s_363 rfl (by decide)) ?_
  exact k_rtI rfl rfl
theorem e_159 {d : Nat} (hd : 1 ≤ d) {a0 : Value} (M : rMem) (h0 : a0.category = 1) : ev d 159 [a0] M = gv (d - 1) rR159 0 [some a0] [] M := ev_at hd q_159 rfl (by simp [*]) rfl
/-! FanHouseModel.may(ZII)Z -/
theorem b_160_0 {d : Nat} {m : Nat → Nat → Int} {q : Nat → Nat → Option Nat} {w : Option (Nat → Int64)} {v1 v2 v3 : Int}   : gv d rR160 0 [some (.ref 363), some (.int (iI v1)), some (.int (iI v2)), some (.int (iI v3))] [] (mk m q w) =
    if iI v1 = iI 0 then (if iI (m 363 0) = iI 0 then (gv d rR160 11 [some (.ref 363), some (.int (iI v1)), some (.int (iI v2)), some (.int (iI v3))] [] (mk m q w)) else (gv d rR160 26 [some (.ref 363), some (.int (iI v1)), some (.int (iI v2)), some (.int (iI v3))] [] (mk m q w))) else (gv d rR160 26 [some (.ref 363), some (.int (iI v1)), some (.int (iI v2)), some (.int (iI v3))] [] (mk m q w)) := by
  refine Eq.trans (k_ild1 rfl) ?_
  refine Eq.trans (k_i1ne rfl rfl) ?_
  refine ifc ?_ ?_
  · refine Eq.trans (k_ald0 rfl) ?_
    refine Eq.trans (k_gtI rfl s_363 rfl (by decide)) ?_
    refine Eq.trans (k_i1ne rfl rfl) ?_
    refine ifc ?_ ?_
    · exact rfl
    · exact rfl
  · exact rfl
theorem b_160_11 {d : Nat} {m : Nat → Nat → Int} {q : Nat → Nat → Option Nat} {w : Option (Nat → Int64)} {u1 : Option Value} {v2 v3 : Int}  (g0 : 0 ≤ v3) (g1 : v3 < 2) : gv d rR160 11 [some (.ref 363), u1, some (.int (iI v2)), some (.int (iI v3))] [] (mk m q w) =
    gv d rR160 26 [some (.ref 363), u1, some (.int (iI v2)), some (.int (iI v3))] [] (mk (wr (wr m 363 0 v2) 364 (Int.toNat v3) (((wr m 363 0 v2) 364 (Int.toNat v3)) + 1)) q w) := by
  refine Eq.trans (k_ald0 rfl) ?_
  refine Eq.trans (k_ild2 rfl) ?_
  refine Eq.trans (k_ptI rfl s_363 rfl rfl) ?_
  refine Eq.trans (k_ald0 rfl) ?_
  refine Eq.trans (k_gtR rfl s_363 rfl (by decide)) ?_
  refine Eq.trans (k_ild3 rfl) ?_
  refine Eq.trans (k_du2 rfl ⟨rfl, rfl⟩) ?_
  refine Eq.trans (k_iald rfl s_364 (bl rfl) g0 g1) ?_
  refine Eq.trans (k_con rfl) ?_
  refine Eq.trans (k_add rfl) ?_
  refine Eq.trans (k_iast rfl s_364 (bl rfl) g0 g1) ?_
  exact rfl
theorem b_160_26 {d : Nat} {m : Nat → Nat → Int} {q : Nat → Nat → Option Nat} {w : Option (Nat → Int64)} {u1 u2 u3 : Option Value}   : gv d rR160 26 [some (.ref 363), u1, u2, u3] [] (mk m q w) =
    if iI (m 363 0) = iI 0 then (gv d rR160 38 [some (.ref 363), u1, u2, u3] [.int (iI 1)] (mk m q w)) else (gv d rR160 38 [some (.ref 363), u1, u2, u3] [.int (iI 0)] (mk m q w)) := by
  refine Eq.trans (k_ald0 rfl) ?_
  refine Eq.trans (k_gtI rfl s_363 rfl (by decide)) ?_
  refine Eq.trans (k_i1ne rfl rfl) ?_
  refine ifc ?_ ?_
  · refine Eq.trans (k_con rfl) ?_
    refine Eq.trans (k_go rfl rfl) ?_
    exact rfl
  · refine Eq.trans (k_con rfl) ?_
    exact rfl
theorem b_160_38 {d : Nat} {m : Nat → Nat → Int} {q : Nat → Nat → Option Nat} {w : Option (Nat → Int64)} {u0 u1 u2 u3 : Option Value} {s0 : Int}  (g0 : iI s0 = iI 0 ∨ iI s0 = iI 1) : gv d rR160 38 [u0, u1, u2, u3] [.int (iI s0)] (mk m q w) =
    some (.inl (some (.int (iI s0))), (mk m q w, (0, 0))) := by
  exact k_rtZ rfl rfl g0
theorem e_160 {d : Nat} (hd : 1 ≤ d) {a0 a1 a2 a3 : Value} (M : rMem) (h0 : a0.category = 1) (h1 : a1.category = 1) (h2 : a2.category = 1) (h3 : a3.category = 1) : ev d 160 [a0, a1, a2, a3] M = gv (d - 1) rR160 0 [some a0, some a1, some a2, some a3] [] M := ev_at hd q_160 rfl (by simp [*]) rfl
/-! FanHouseModel.within(III)Z -/
theorem b_161_0 {d : Nat} {m : Nat → Nat → Int} {q : Nat → Nat → Option Nat} {w : Option (Nat → Int64)} {v0 v1 v2 : Int}   : gv d rR161 0 [some (.int (iI v0)), some (.int (iI v1)), some (.int (iI v2))] [] (mk m q w) =
    if iI v0 < iI v1 then (gv d rR161 14 [some (.int (iI v0)), some (.int (iI v1)), some (.int (iI v2))] [] (mk m q w)) else (if iI v2 < iI v0 then (gv d rR161 14 [some (.int (iI v0)), some (.int (iI v1)), some (.int (iI v2))] [] (mk m q w)) else (gv d rR161 15 [some (.int (iI v0)), some (.int (iI v1)), some (.int (iI v2))] [.int (iI 1)] (mk m q w))) := by
  refine Eq.trans (k_ild0 rfl) ?_
  refine Eq.trans (k_ild1 rfl) ?_
  refine Eq.trans (k_i2lt rfl rfl) ?_
  refine ifc ?_ ?_
  · exact rfl
  · refine Eq.trans (k_ild0 rfl) ?_
    refine Eq.trans (k_ild2 rfl) ?_
    refine Eq.trans (k_i2gt rfl rfl) ?_
    refine ifc ?_ ?_
    · exact rfl
    · refine Eq.trans (k_con rfl) ?_
      refine Eq.trans (k_go rfl rfl) ?_
      exact rfl
theorem b_161_14 {d : Nat} {m : Nat → Nat → Int} {q : Nat → Nat → Option Nat} {w : Option (Nat → Int64)} {u0 u1 u2 : Option Value}   : gv d rR161 14 [u0, u1, u2] [] (mk m q w) =
    gv d rR161 15 [u0, u1, u2] [.int (iI 0)] (mk m q w) := by
  refine Eq.trans (k_con rfl) ?_
  exact rfl
theorem b_161_15 {d : Nat} {m : Nat → Nat → Int} {q : Nat → Nat → Option Nat} {w : Option (Nat → Int64)} {u0 u1 u2 : Option Value} {s0 : Int}  (g0 : iI s0 = iI 0 ∨ iI s0 = iI 1) : gv d rR161 15 [u0, u1, u2] [.int (iI s0)] (mk m q w) =
    some (.inl (some (.int (iI s0))), (mk m q w, (0, 0))) := by
  exact k_rtZ rfl rfl g0
theorem e_161 {d : Nat} (hd : 1 ≤ d) {a0 a1 a2 : Value} (M : rMem) (h0 : a0.category = 1) (h1 : a1.category = 1) (h2 : a2.category = 1) : ev d 161 [a0, a1, a2] M = gv (d - 1) rR161 0 [some a0, some a1, some a2] [] M := ev_at hd q_161 rfl (by simp [*]) rfl
/-! FanHouseModel.clears()V -/
theorem b_162_0 {d : Nat} {m : Nat → Nat → Int} {q : Nat → Nat → Option Nat} {w : Option (Nat → Int64)}   : gv d rR162 0 [some (.ref 363)] [] (mk m q w) =
    some (.inl none, (mk (wr (wr (wr m 363 12 0) 363 13 99) 363 14 20) q w, (0, 0))) := by
  refine Eq.trans (k_ald0 rfl) ?_
  refine Eq.trans (k_con rfl) ?_
  refine Eq.trans (k_ptI rfl s_363 rfl rfl) ?_
  refine Eq.trans (k_ald0 rfl) ?_
  refine Eq.trans (k_bip rfl (by decide)) ?_
  refine Eq.trans (k_ptI rfl s_363 rfl rfl) ?_
  refine Eq.trans (k_ald0 rfl) ?_
  refine Eq.trans (k_bip rfl (by decide)) ?_
  refine Eq.trans (k_ptI rfl s_363 rfl rfl) ?_
  exact k_rtV rfl rfl
theorem e_162 {d : Nat} (hd : 1 ≤ d) {a0 : Value} (M : rMem) (h0 : a0.category = 1) : ev d 162 [a0] M = gv (d - 1) rR162 0 [some a0] [] M := ev_at hd q_162 rfl (by simp [*]) rfl
/-! FanHouseModel.copies([I[II)V -/
theorem b_163_0 {d : Nat} {m : Nat → Nat → Int} {q : Nat → Nat → Option Nat} {w : Option (Nat → Int64)} {u0 u4 : Option Value} {v3 : Int} {p1 np1 bp1 kp1 : Nat} {p2 np2 bp2 kp2 : Nat} (hp1 : rShp p1 = some (aS 0 np1 bp1 kp1)) (hnp1 : np1 ≤ 100000) (hp2 : rShp p2 = some (aS 0 np2 bp2 kp2)) (hnp2 : np2 ≤ 100000)  : gv d rR163 0 [u0, some (.ref p1), some (.ref p2), some (.int (iI v3)), u4] [] (mk m q w) =
    gv d rR163 3 [u0, some (.ref p1), some (.ref p2), some (.int (iI v3)), some (.int (iI 0))] [] (mk m q w) := by
  refine Eq.trans (k_con rfl) ?_
  refine Eq.trans (k_ist4 rfl) ?_
  exact rfl
theorem b_163_3 {d : Nat} {m : Nat → Nat → Int} {q : Nat → Nat → Option Nat} {w : Option (Nat → Int64)} {u0 : Option Value} {v3 v4 : Int} {p1 np1 bp1 kp1 : Nat} {p2 np2 bp2 kp2 : Nat} (hp1 : rShp p1 = some (aS 0 np1 bp1 kp1)) (hnp1 : np1 ≤ 100000) (hp2 : rShp p2 = some (aS 0 np2 bp2 kp2)) (hnp2 : np2 ≤ 100000)  : gv d rR163 3 [u0, some (.ref p1), some (.ref p2), some (.int (iI v3)), some (.int (iI v4))] [] (mk m q w) =
    if iI v4 < iI v3 then (gv d rR163 9 [u0, some (.ref p1), some (.ref p2), some (.int (iI v3)), some (.int (iI v4))] [] (mk m q w)) else (some (.inl none, (mk m q w, (0, 0)))) := by
  refine Eq.trans (k_ild4 rfl) ?_
  refine Eq.trans (k_ild3 rfl) ?_
  refine Eq.trans (k_i2ge rfl rfl) ?_
  refine ifc ?_ ?_
  · exact rfl
  · exact k_rtV rfl rfl
theorem b_163_9 {d : Nat} {m : Nat → Nat → Int} {q : Nat → Nat → Option Nat} {w : Option (Nat → Int64)} {u0 : Option Value} {v3 v4 : Int} {p1 np1 bp1 kp1 : Nat} {p2 np2 bp2 kp2 : Nat} (hp1 : rShp p1 = some (aS 0 np1 bp1 kp1)) (hnp1 : np1 ≤ 100000) (hp2 : rShp p2 = some (aS 0 np2 bp2 kp2)) (hnp2 : np2 ≤ 100000) (g0 : 0 ≤ v4) (g1 : v4 < (np1 : Nat)) (g2 : v4 < (np2 : Nat)) : gv d rR163 9 [u0, some (.ref p1), some (.ref p2), some (.int (iI v3)), some (.int (iI v4))] [] (mk m q w) =
    gv d rR163 3 [u0, some (.ref p1), some (.ref p2), some (.int (iI v3)), some (.int (iI (v4 + 1)))] [] (mk (wr m p2 (Int.toNat v4) (m p1 (Int.toNat v4))) q w) := by
  refine Eq.trans (k_ald2 rfl) ?_
  refine Eq.trans (k_ild4 rfl) ?_
  refine Eq.trans (k_ald1 rfl) ?_
  refine Eq.trans (k_ild4 rfl) ?_
  refine Eq.trans (k_iald rfl hp1 hnp1 g0 g1) ?_
  refine Eq.trans (k_iast rfl hp2 hnp2 g0 g2) ?_
  refine Eq.trans (k_inc4 rfl) ?_
  refine Eq.trans (k_go rfl rfl) ?_
  exact rfl
theorem e_163 {d : Nat} (hd : 1 ≤ d) {a0 a1 a2 a3 : Value} (M : rMem) (h0 : a0.category = 1) (h1 : a1.category = 1) (h2 : a2.category = 1) (h3 : a3.category = 1) : ev d 163 [a0, a1, a2, a3] M = gv (d - 1) rR163 0 [some a0, some a1, some a2, some a3, none] [] M := ev_at hd q_163 rfl (by simp [*]) rfl
/-! FanHouseModel.sets()V -/
theorem b_164_0 {d : Nat} {m : Nat → Nat → Int} {q : Nat → Nat → Option Nat} {w : Option (Nat → Int64)} {u1 : Option Value}   : gv d rR164 0 [some (.ref 363), u1] [] (mk m q w) =
    rBd (ev d 163 [.ref 363, .ref 366, .ref 367, .int (iI 28)] (mk (wr (wr (wr m 363 15 (m 363 12)) 363 16 ((wr m 363 15 (m 363 12)) 363 13)) 363 17 ((wr (wr m 363 15 (m 363 12)) 363 16 ((wr m 363 15 (m 363 12)) 363 13)) 363 14)) q w)) (fun v M' => gv d rR164 38 [some (.ref 363), u1] (v.toList ++ []) M') := by
  refine Eq.trans (k_ald0 rfl) ?_
  refine Eq.trans (k_ald0 rfl) ?_
  refine Eq.trans (k_gtI rfl s_363 rfl (by decide)) ?_
  refine Eq.trans (k_ptI rfl s_363 rfl rfl) ?_
  refine Eq.trans (k_ald0 rfl) ?_
  refine Eq.trans (k_ald0 rfl) ?_
  refine Eq.trans (k_gtI rfl s_363 rfl (by decide)) ?_
  refine Eq.trans (k_ptI rfl s_363 rfl rfl) ?_
  refine Eq.trans (k_ald0 rfl) ?_
  refine Eq.trans (k_ald0 rfl) ?_
  refine Eq.trans (k_gtI rfl s_363 rfl (by decide)) ?_
  refine Eq.trans (k_ptI rfl s_363 rfl rfl) ?_
  refine Eq.trans (k_ald0 rfl) ?_
  refine Eq.trans (k_ald0 rfl) ?_
  refine Eq.trans (k_gtR rfl s_363 rfl (by decide)) ?_
  refine Eq.trans (k_ald0 rfl) ?_
  refine Eq.trans (k_gtR rfl s_363 rfl (by decide)) ?_
  refine Eq.trans (k_bip rfl (by decide)) ?_
  exact k_cV3 rfl s_363 q_163 rfl rfl rfl (bl rfl)
theorem b_164_38 {d : Nat} {m : Nat → Nat → Int} {q : Nat → Nat → Option Nat} {w : Option (Nat → Int64)} {u1 : Option Value}   : gv d rR164 38 [some (.ref 363), u1] [] (mk m q w) =
    gv d rR164 79 [some (.ref 363), some (.int (iI 0))] [] (mk (wr (wr (wr (wr (wr (wr (wr m 363 24 0) 381 0 0) 381 1 0) 363 42 0) 363 29 0) 363 52 0) 363 30 0) q w) := by
  refine Eq.trans (k_ald0 rfl) ?_
  refine Eq.trans (k_con rfl) ?_
  refine Eq.trans (k_ptI rfl s_363 rfl rfl) ?_
  refine Eq.trans (k_ald0 rfl) ?_
  refine Eq.trans (k_gtR rfl s_363 rfl (by decide)) ?_
  refine Eq.trans (k_con rfl) ?_
  refine Eq.trans (k_con rfl) ?_
  refine Eq.trans (k_iast rfl s_381 (bl rfl) (by decide) (by decide)) ?_
  refine Eq.trans (k_ald0 rfl) ?_
  refine Eq.trans (k_gtR rfl s_363 rfl (by decide)) ?_
  refine Eq.trans (k_con rfl) ?_
  refine Eq.trans (k_con rfl) ?_
  refine Eq.trans (k_iast rfl s_381 (bl rfl) (by decide) (by decide)) ?_
  refine Eq.trans (k_ald0 rfl) ?_
  refine Eq.trans (k_con rfl) ?_
  refine Eq.trans (k_ptI rfl s_363 rfl rfl) ?_
  refine Eq.trans (k_ald0 rfl) ?_
  refine Eq.trans (k_con rfl) ?_
  refine Eq.trans (k_ptI rfl s_363 rfl rfl) ?_
  refine Eq.trans (k_ald0 rfl) ?_
  refine Eq.trans (k_con rfl) ?_
  refine Eq.trans (k_ptI rfl s_363 rfl rfl) ?_
  refine Eq.trans (k_ald0 rfl) ?_
  refine Eq.trans (k_con rfl) ?_
  refine Eq.trans (k_ptI rfl s_363 rfl rfl) ?_
  refine Eq.trans (k_con rfl) ?_
  refine Eq.trans (k_ist1 rfl) ?_
  exact rfl
theorem b_164_79 {d : Nat} {m : Nat → Nat → Int} {q : Nat → Nat → Option Nat} {w : Option (Nat → Int64)} {v1 : Int}   : gv d rR164 79 [some (.ref 363), some (.int (iI v1))] [] (mk m q w) =
    if iI v1 < iI 48 then (gv d rR164 85 [some (.ref 363), some (.int (iI v1))] [] (mk m q w)) else (gv d rR164 100 [some (.ref 363), some (.int (iI 0))] [] (mk m q w)) := by
  refine Eq.trans (k_ild1 rfl) ?_
  refine Eq.trans (k_bip rfl (by decide)) ?_
  refine Eq.trans (k_i2ge rfl rfl) ?_
  refine ifc ?_ ?_
  · exact rfl
  · refine Eq.trans (k_con rfl) ?_
    refine Eq.trans (k_ist1 rfl) ?_
    exact rfl
theorem b_164_85 {d : Nat} {m : Nat → Nat → Int} {q : Nat → Nat → Option Nat} {w : Option (Nat → Int64)} {v1 : Int}  (g0 : 0 ≤ v1) (g1 : v1 < 48) : gv d rR164 85 [some (.ref 363), some (.int (iI v1))] [] (mk m q w) =
    gv d rR164 79 [some (.ref 363), some (.int (iI (v1 + 1)))] [] (mk (wr m 376 (Int.toNat v1) 0) q w) := by
  refine Eq.trans (k_ald0 rfl) ?_
  refine Eq.trans (k_gtR rfl s_363 rfl (by decide)) ?_
  refine Eq.trans (k_ild1 rfl) ?_
  refine Eq.trans (k_con rfl) ?_
  refine Eq.trans (k_iast rfl s_376 (bl rfl) g0 g1) ?_
  refine Eq.trans (k_inc1 rfl) ?_
  refine Eq.trans (k_go rfl rfl) ?_
  exact rfl
theorem b_164_100 {d : Nat} {m : Nat → Nat → Int} {q : Nat → Nat → Option Nat} {w : Option (Nat → Int64)} {v1 : Int}   : gv d rR164 100 [some (.ref 363), some (.int (iI v1))] [] (mk m q w) =
    if iI v1 < iI 7 then (gv d rR164 106 [some (.ref 363), some (.int (iI v1))] [] (mk m q w)) else (rBd (ev d 163 [.ref 363, .ref 367, .ref 376, .int (iI 28)] (mk m q w)) (fun v M' => gv d rR164 136 [some (.ref 363), some (.int (iI v1))] (v.toList ++ []) M')) := by
  refine Eq.trans (k_ild1 rfl) ?_
  refine Eq.trans (k_bip rfl (by decide)) ?_
  refine Eq.trans (k_i2ge rfl rfl) ?_
  refine ifc ?_ ?_
  · exact rfl
  · refine Eq.trans (k_ald0 rfl) ?_
    refine Eq.trans (k_ald0 rfl) ?_
    refine Eq.trans (k_gtR rfl s_363 rfl (by decide)) ?_
    refine Eq.trans (k_ald0 rfl) ?_
    refine Eq.trans (k_gtR rfl s_363 rfl (by decide)) ?_
    refine Eq.trans (k_bip rfl (by decide)) ?_
    exact k_cV3 rfl s_363 q_163 rfl rfl rfl (bl rfl)
theorem b_164_106 {d : Nat} {m : Nat → Nat → Int} {q : Nat → Nat → Option Nat} {w : Option (Nat → Int64)} {v1 : Int}  (g0 : 0 ≤ (28 + v1)) (g1 : (28 + v1) < 48) : gv d rR164 106 [some (.ref 363), some (.int (iI v1))] [] (mk m q w) =
    gv d rR164 100 [some (.ref 363), some (.int (iI (v1 + 1)))] [] (mk (wr m 376 (Int.toNat (28 + v1)) v1) q w) := by
  refine Eq.trans (k_ald0 rfl) ?_
  refine Eq.trans (k_gtR rfl s_363 rfl (by decide)) ?_
  refine Eq.trans (k_bip rfl (by decide)) ?_
  refine Eq.trans (k_ild1 rfl) ?_
  refine Eq.trans (k_add rfl) ?_
  refine Eq.trans (k_ild1 rfl) ?_
  refine Eq.trans (k_iast rfl s_376 (bl rfl) g0 g1) ?_
  refine Eq.trans (k_inc1 rfl) ?_
  refine Eq.trans (k_go rfl rfl) ?_
  exact rfl
theorem b_164_136 {d : Nat} {m : Nat → Nat → Int} {q : Nat → Nat → Option Nat} {w : Option (Nat → Int64)} {u1 : Option Value}   : gv d rR164 136 [some (.ref 363), u1] [] (mk m q w) =
    some (.inl none, (mk (wr (wr m 376 43 (m 363 17)) 376 45 (-1)) q w, (0, 0))) := by
  refine Eq.trans (k_ald0 rfl) ?_
  refine Eq.trans (k_gtR rfl s_363 rfl (by decide)) ?_
  refine Eq.trans (k_bip rfl (by decide)) ?_
  refine Eq.trans (k_ald0 rfl) ?_
  refine Eq.trans (k_gtI rfl s_363 rfl (by decide)) ?_
  refine Eq.trans (k_iast rfl s_376 (bl rfl) (by decide) (by decide)) ?_
  refine Eq.trans (k_ald0 rfl) ?_
  refine Eq.trans (k_gtR rfl s_363 rfl (by decide)) ?_
  refine Eq.trans (k_bip rfl (by decide)) ?_
  refine Eq.trans (k_con rfl) ?_
  refine Eq.trans (k_iast rfl s_376 (bl rfl) (by decide) (by decide)) ?_
  exact k_rtV rfl rfl
theorem e_164 {d : Nat} (hd : 1 ≤ d) {a0 : Value} (M : rMem) (h0 : a0.category = 1) : ev d 164 [a0] M = gv (d - 1) rR164 0 [some a0, none] [] M := ev_at hd q_164 rfl (by simp [*]) rfl
/-! FanHouseModel.feed(IIIII)I -/
theorem b_166_0 {d : Nat} {m : Nat → Nat → Int} {q : Nat → Nat → Option Nat} {w : Option (Nat → Int64)} {u6 u7 : Option Value} {v1 v2 v3 v4 v5 : Int}   : gv d rR166 0 [some (.ref 363), some (.int (iI v1)), some (.int (iI v2)), some (.int (iI v3)), some (.int (iI v4)), some (.int (iI v5)), u6, u7] [] (mk m q w) =
    if iI 600 < iI (((wr m 363 0 0) 363 2) + 20) then (some (.inl (some (.int (iI (-1)))), (mk (wr m 363 0 0) q w, (0, 0)))) else (gv d rR166 23 [some (.ref 363), some (.int (iI v1)), some (.int (iI v2)), some (.int (iI v3)), some (.int (iI v4)), some (.int (iI v5)), some (.int (iI 0)), u7] [] (mk (wr m 363 0 0) q w)) := by
  refine Eq.trans (k_ald0 rfl) ?_
  refine Eq.trans (k_con rfl) ?_
  refine Eq.trans (k_ptI rfl s_363 rfl rfl) ?_
  refine Eq.trans (k_ald0 rfl) ?_
  refine Eq.trans (k_gtI rfl s_363 rfl (by decide)) ?_
  refine Eq.trans (k_bip rfl (by decide)) ?_
  refine Eq.trans (k_add rfl) ?_
  refine Eq.trans (k_sip rfl (by decide)) ?_
  refine Eq.trans (k_i2le rfl rfl) ?_
  refine ifc ?_ ?_
  · refine Eq.trans (k_con rfl) ?_
    exact k_rtI rfl rfl
  · refine Eq.trans (k_con rfl) ?_
    refine Eq.trans (k_ist6 rfl) ?_
    exact rfl
theorem b_166_23 {d : Nat} {m : Nat → Nat → Int} {q : Nat → Nat → Option Nat} {w : Option (Nat → Int64)} {u7 : Option Value} {v1 v2 v3 v4 v5 v6 : Int}   : gv d rR166 23 [some (.ref 363), some (.int (iI v1)), some (.int (iI v2)), some (.int (iI v3)), some (.int (iI v4)), some (.int (iI v5)), some (.int (iI v6)), u7] [] (mk m q w) =
    if iI v6 < iI 20 then (if iI v6 < iI 4 then (gv d rR166 76 [some (.ref 363), some (.int (iI v1)), some (.int (iI v2)), some (.int (iI v3)), some (.int (iI v4)), some (.int (iI v5)), some (.int (iI v6)), u7] [.int (iI v1)] (mk m q w)) else (if iI v6 < iI 8 then (gv d rR166 76 [some (.ref 363), some (.int (iI v1)), some (.int (iI v2)), some (.int (iI v3)), some (.int (iI v4)), some (.int (iI v5)), some (.int (iI v6)), u7] [.int (iI v2)] (mk m q w)) else (if iI v6 < iI 12 then (gv d rR166 76 [some (.ref 363), some (.int (iI v1)), some (.int (iI v2)), some (.int (iI v3)), some (.int (iI v4)), some (.int (iI v5)), some (.int (iI v6)), u7] [.int (iI v3)] (mk m q w)) else (if iI v6 < iI 16 then (gv d rR166 76 [some (.ref 363), some (.int (iI v1)), some (.int (iI v2)), some (.int (iI v3)), some (.int (iI v4)), some (.int (iI v5)), some (.int (iI v6)), u7] [.int (iI v4)] (mk m q w)) else (gv d rR166 76 [some (.ref 363), some (.int (iI v1)), some (.int (iI v2)), some (.int (iI v3)), some (.int (iI v4)), some (.int (iI v5)), some (.int (iI v6)), u7] [.int (iI v5)] (mk m q w)))))) else (some (.inl (some (.int (iI (m 363 2)))), (mk m q w, (0, 0)))) := by
  refine Eq.trans (k_ild6 rfl) ?_
  refine Eq.trans (k_bip rfl (by decide)) ?_
  refine Eq.trans (k_i2ge rfl rfl) ?_
  refine ifc ?_ ?_
  · refine Eq.trans (k_ild6 rfl) ?_
    refine Eq.trans (k_con rfl) ?_
    refine Eq.trans (k_i2ge rfl rfl) ?_
    refine ifc ?_ ?_
    · refine Eq.trans (k_ild1 rfl) ?_
      refine Eq.trans (k_go rfl rfl) ?_
      exact rfl
    · refine Eq.trans (k_ild6 rfl) ?_
      refine Eq.trans (k_bip rfl (by decide)) ?_
      refine Eq.trans (k_i2ge rfl rfl) ?_
      refine ifc ?_ ?_
      · refine Eq.trans (k_ild2 rfl) ?_
        refine Eq.trans (k_go rfl rfl) ?_
        exact rfl
      · refine Eq.trans (k_ild6 rfl) ?_
        refine Eq.trans (k_bip rfl (by decide)) ?_
        refine Eq.trans (k_i2ge rfl rfl) ?_
        refine ifc ?_ ?_
        · refine Eq.trans (k_ild3 rfl) ?_
          refine Eq.trans (k_go rfl rfl) ?_
          exact rfl
        · refine Eq.trans (k_ild6 rfl) ?_
          refine Eq.trans (k_bip rfl (by decide)) ?_
          refine Eq.trans (k_i2ge rfl rfl) ?_
          refine ifc ?_ ?_
          · refine Eq.trans (k_ild4 rfl) ?_
            refine Eq.trans (k_go rfl rfl) ?_
            exact rfl
          · refine Eq.trans (k_ild5 rfl) ?_
            exact rfl
  · refine Eq.trans (k_ald0 rfl) ?_
    refine Eq.trans (k_gtI rfl s_363 rfl (by decide)) ?_
    exact k_rtI rfl rfl
theorem b_166_76 {d : Nat} {m : Nat → Nat → Int} {q : Nat → Nat → Option Nat} {w : Option (Nat → Int64)} {u7 : Option Value} {v1 v2 v3 v4 v5 v6 s0 : Int}  (g0 : 0 ≤ (m 363 2)) (g1 : (m 363 2) < 600) : gv d rR166 76 [some (.ref 363), some (.int (iI v1)), some (.int (iI v2)), some (.int (iI v3)), some (.int (iI v4)), some (.int (iI v5)), some (.int (iI v6)), u7] [.int (iI s0)] (mk m q w) =
    gv d rR166 23 [some (.ref 363), some (.int (iI v1)), some (.int (iI v2)), some (.int (iI v3)), some (.int (iI v4)), some (.int (iI v5)), some (.int (iI (v6 + 1))), some (.int (iI s0))] [] (mk (wr (wr m 365 (Int.toNat (m 363 2)) (zAnd (zShr s0 (24 - (8 * (zRem v6 4)))) 255)) 363 2 (((wr m 365 (Int.toNat (m 363 2)) (zAnd (zShr s0 (24 - (8 * (zRem v6 4)))) 255)) 363 2) + 1)) q w) := by
  refine Eq.trans (k_ist7 rfl) ?_
  refine Eq.trans (k_ald0 rfl) ?_
  refine Eq.trans (k_gtR rfl s_363 rfl (by decide)) ?_
  refine Eq.trans (k_ald0 rfl) ?_
  refine Eq.trans (k_gtI rfl s_363 rfl (by decide)) ?_
  refine Eq.trans (k_ild7 rfl) ?_
  refine Eq.trans (k_bip rfl (by decide)) ?_
  refine Eq.trans (k_bip rfl (by decide)) ?_
  refine Eq.trans (k_ild6 rfl) ?_
  refine Eq.trans (k_con rfl) ?_
  refine Eq.trans (k_rem rfl (by decide)) ?_
  refine Eq.trans (k_mul rfl) ?_
  refine Eq.trans (k_sub rfl) ?_
  refine Eq.trans (k_shr rfl) ?_
  refine Eq.trans (k_sip rfl (by decide)) ?_
  refine Eq.trans (k_and rfl) ?_
  refine Eq.trans (k_iast rfl s_365 (bl rfl) g0 g1) ?_
  refine Eq.trans (k_ald0 rfl) ?_
  refine Eq.trans (k_dup rfl rfl) ?_
  refine Eq.trans (k_gtI rfl s_363 rfl (by decide)) ?_
  refine Eq.trans (k_con rfl) ?_
  refine Eq.trans (k_add rfl) ?_
  refine Eq.trans (k_ptI rfl s_363 rfl rfl) ?_
  refine Eq.trans (k_inc6 rfl) ?_
  refine Eq.trans (k_go rfl rfl) ?_
  exact rfl
theorem e_166 {d : Nat} (hd : 1 ≤ d) {a0 a1 a2 a3 a4 a5 : Value} (M : rMem) (h0 : a0.category = 1) (h1 : a1.category = 1) (h2 : a2.category = 1) (h3 : a3.category = 1) (h4 : a4.category = 1) (h5 : a5.category = 1) : ev d 166 [a0, a1, a2, a3, a4, a5] M = gv (d - 1) rR166 0 [some a0, some a1, some a2, some a3, some a4, some a5, none, none] [] M := ev_at hd q_166 rfl (by simp [*]) rfl
/-! FanHouseModel.fine()Z -/
theorem b_167_0 {d : Nat} {m : Nat → Nat → Int} {q : Nat → Nat → Option Nat} {w : Option (Nat → Int64)}   : gv d rR167 0 [some (.ref 363)] [] (mk m q w) =
    if iI (m 363 5) = iI (-1) then (gv d rR167 13 [some (.ref 363)] [.int (iI 1)] (mk m q w)) else (gv d rR167 13 [some (.ref 363)] [.int (iI 0)] (mk m q w)) := by
  refine Eq.trans (k_ald0 rfl) ?_
  refine Eq.trans (k_gtI rfl s_363 rfl (by decide)) ?_
  refine Eq.trans (k_con rfl) ?_
  refine Eq.trans (k_i2ne rfl rfl) ?_
  refine ifc ?_ ?_
  · refine Eq.trans (k_con rfl) ?_
    refine Eq.trans (k_go rfl rfl) ?_
    exact rfl
  · refine Eq.trans (k_con rfl) ?_
    exact rfl
theorem b_167_13 {d : Nat} {m : Nat → Nat → Int} {q : Nat → Nat → Option Nat} {w : Option (Nat → Int64)} {u0 : Option Value} {s0 : Int}  (g0 : iI s0 = iI 0 ∨ iI s0 = iI 1) : gv d rR167 13 [u0] [.int (iI s0)] (mk m q w) =
    some (.inl (some (.int (iI s0))), (mk m q w, (0, 0))) := by
  exact k_rtZ rfl rfl g0
theorem e_167 {d : Nat} (hd : 1 ≤ d) {a0 : Value} (M : rMem) (h0 : a0.category = 1) : ev d 167 [a0] M = gv (d - 1) rR167 0 [some a0] [] M := ev_at hd q_167 rfl (by simp [*]) rfl
