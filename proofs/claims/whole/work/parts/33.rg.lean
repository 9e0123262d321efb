/-! FanHouseModel.at(I)I -/
theorem b_227_0 {d : Nat} {m : Nat → Nat → Int} {q : Nat → Nat → Option Nat} {w : Option (Nat → Int64)} {v1 : Int}   : gv d rR227 0 [some (.ref 363), some (.int (iI v1))] [] (mk m q w) =
    rBd (ev d 223 [.ref 363, .int (iI v1)] (mk (wr m 363 0 0) q w)) (fun v M' => gv d rR227 10 [some (.ref 363), some (.int (iI v1))] (v.toList ++ []) M') := by
  refine Eq.trans (k_ald0 rfl) ?_
  refine Eq.trans (k_con rfl) ?_
  refine Eq.trans (k_ptI rfl s_363 rfl rfl) ?_
  refine Eq.trans (k_ald0 rfl) ?_
  refine Eq.trans (k_ild1 rfl) ?_
  exact k_cV1 rfl s_363 q_223 rfl rfl rfl (bl rfl)
theorem b_227_10 {d : Nat} {m : Nat → Nat → Int} {q : Nat → Nat → Option Nat} {w : Option (Nat → Int64)} {v1 s0 : Int}   : gv d rR227 10 [some (.ref 363), some (.int (iI v1))] [.int (iI s0)] (mk m q w) =
    if iI s0 = iI 0 then (some (.inl (some (.int (iI 0))), (mk m q w, (0, 0)))) else (gv d rR227 15 [some (.ref 363), some (.int (iI v1))] [] (mk m q w)) := by
  refine Eq.trans (k_i1ne rfl rfl) ?_
  refine ifc ?_ ?_
  · refine Eq.trans (k_con rfl) ?_
    exact k_rtI rfl rfl
  · exact rfl
theorem b_227_15 {d : Nat} {m : Nat → Nat → Int} {q : Nat → Nat → Option Nat} {w : Option (Nat → Int64)} {v1 : Int}  (g0 : 0 ≤ (28 + v1)) (g1 : (28 + v1) < 48) : gv d rR227 15 [some (.ref 363), some (.int (iI v1))] [] (mk m q w) =
    some (.inl (some (.int (iI (m 376 (Int.toNat (28 + v1)))))), (mk m q w, (0, 0))) := by
  refine Eq.trans (k_ald0 rfl) ?_
  refine Eq.trans (k_gtR rfl s_363 rfl (by decide)) ?_
  refine Eq.trans (k_bip rfl (by decide)) ?_
  refine Eq.trans (k_ild1 rfl) ?_
  refine Eq.trans (k_add rfl) ?_
  refine Eq.trans (k_iald rfl s_376 (bl rfl) g0 g1) ?_
  exact k_rtI rfl rfl
theorem e_227 {d : Nat} (hd : 1 ≤ d) {a0 a1 : Value} (M : rMem) (h0 : a0.category = 1) (h1 : a1.category = 1) : ev d 227 [a0, a1] M = gv (d - 1) rR227 0 [some a0, some a1] [] M := ev_at hd q_227 rfl (by simp [*]) rfl
/-! FanHouseModel.strain(II)I -/
theorem b_228_0 {d : Nat} {m : Nat → Nat → Int} {q : Nat → Nat → Option Nat} {w : Option (Nat → Int64)} {v1 v2 : Int}   : gv d rR228 0 [some (.ref 363), some (.int (iI v1)), some (.int (iI v2))] [] (mk m q w) =
    rBd (ev d 224 [.int (iI v1)] (mk (wr m 363 0 0) q w)) (fun v M' => gv d rR228 10 [some (.ref 363), some (.int (iI v1)), some (.int (iI v2))] (v.toList ++ [.ref 363]) M') := by
  refine Eq.trans (k_ald0 rfl) ?_
  refine Eq.trans (k_con rfl) ?_
  refine Eq.trans (k_ptI rfl s_363 rfl rfl) ?_
  refine Eq.trans (k_ald0 rfl) ?_
  refine Eq.trans (k_ild1 rfl) ?_
  exact k_cS1 rfl (by decide) q_224 rfl rfl (bl rfl)
theorem b_228_10 {d : Nat} {m : Nat → Nat → Int} {q : Nat → Nat → Option Nat} {w : Option (Nat → Int64)} {v1 v2 s1 : Int}   : gv d rR228 10 [some (.ref 363), some (.int (iI v1)), some (.int (iI v2))] [.int (iI s1), .ref 363] (mk m q w) =
    if iI s1 = iI 0 then (gv d rR228 27 [some (.ref 363), some (.int (iI v1)), some (.int (iI v2))] [.ref 363] (mk m q w)) else (rBd (ev d 161 [.int (iI v2), .int (iI 1), .int (iI 7)] (mk m q w)) (fun v M' => gv d rR228 20 [some (.ref 363), some (.int (iI v1)), some (.int (iI v2))] (v.toList ++ [.ref 363]) M')) := by
  refine Eq.trans (k_i1eq rfl rfl) ?_
  refine ifc ?_ ?_
  · exact rfl
  · refine Eq.trans (k_ild2 rfl) ?_
    refine Eq.trans (k_con rfl) ?_
    refine Eq.trans (k_bip rfl (by decide)) ?_
    exact k_cS3 rfl (by decide) q_161 rfl rfl (bl rfl)
theorem b_228_20 {d : Nat} {m : Nat → Nat → Int} {q : Nat → Nat → Option Nat} {w : Option (Nat → Int64)} {v1 v2 s1 : Int}   : gv d rR228 20 [some (.ref 363), some (.int (iI v1)), some (.int (iI v2))] [.int (iI s1), .ref 363] (mk m q w) =
    if iI s1 = iI 0 then (gv d rR228 27 [some (.ref 363), some (.int (iI v1)), some (.int (iI v2))] [.ref 363] (mk m q w)) else (gv d rR228 28 [some (.ref 363), some (.int (iI v1)), some (.int (iI v2))] [.int (iI 1), .ref 363] (mk m q w)) := by
  refine Eq.trans (k_i1eq rfl rfl) ?_
  refine ifc ?_ ?_
  · exact rfl
  · refine Eq.trans (k_con rfl) ?_
    refine Eq.trans (k_go rfl rfl) ?_
    exact rfl
theorem b_228_27 {d : Nat} {m : Nat → Nat → Int} {q : Nat → Nat → Option Nat} {w : Option (Nat → Int64)} {v1 v2 : Int}   : gv d rR228 27 [some (.ref 363), some (.int (iI v1)), some (.int (iI v2))] [.ref 363] (mk m q w) =
    gv d rR228 28 [some (.ref 363), some (.int (iI v1)), some (.int (iI v2))] [.int (iI 0), .ref 363] (mk m q w) := by
  refine Eq.trans (k_con rfl) ?_
  exact rfl
theorem b_228_28 {d : Nat} {m : Nat → Nat → Int} {q : Nat → Nat → Option Nat} {w : Option (Nat → Int64)} {v1 v2 s1 : Int}   : gv d rR228 28 [some (.ref 363), some (.int (iI v1)), some (.int (iI v2))] [.int (iI s1), .ref 363] (mk m q w) =
    rBd (ev d 160 [.ref 363, .int (iI s1), .int (iI 1), .int (iI 1)] (mk m q w)) (fun v M' => gv d rR228 33 [some (.ref 363), some (.int (iI v1)), some (.int (iI v2))] (v.toList ++ []) M') := by
  refine Eq.trans (k_con rfl) ?_
  refine Eq.trans (k_con rfl) ?_
  exact k_cV3 rfl s_363 q_160 rfl rfl rfl (bl rfl)
theorem b_228_33 {d : Nat} {m : Nat → Nat → Int} {q : Nat → Nat → Option Nat} {w : Option (Nat → Int64)} {v1 v2 s0 : Int}   : gv d rR228 33 [some (.ref 363), some (.int (iI v1)), some (.int (iI v2))] [.int (iI s0)] (mk m q w) =
    if iI s0 = iI 0 then (some (.inl (some (.int (iI 0))), (mk m q w, (0, 0)))) else (rBd (ev d 200 [.ref 363] (mk m q w)) (fun v M' => gv d rR228 42 [some (.ref 363), some (.int (iI v1)), some (.int (iI v2))] (v.toList ++ []) M')) := by
  refine Eq.trans (k_i1ne rfl rfl) ?_
  refine ifc ?_ ?_
  · refine Eq.trans (k_con rfl) ?_
    exact k_rtI rfl rfl
  · refine Eq.trans (k_ald0 rfl) ?_
    exact k_cV0 rfl s_363 q_200 rfl rfl rfl (bl rfl)
theorem b_228_42 {d : Nat} {m : Nat → Nat → Int} {q : Nat → Nat → Option Nat} {w : Option (Nat → Int64)} {v1 v2 : Int}   : gv d rR228 42 [some (.ref 363), some (.int (iI v1)), some (.int (iI v2))] [] (mk m q w) =
    rBd (ev d 203 [.ref 363, .int (iI v1), .int (iI v2)] (mk m q w)) (fun v M' => gv d rR228 48 [some (.ref 363), some (.int (iI v1)), some (.int (iI v2))] (v.toList ++ []) M') := by
  refine Eq.trans (k_ald0 rfl) ?_
  refine Eq.trans (k_ild1 rfl) ?_
  refine Eq.trans (k_ild2 rfl) ?_
  exact k_cV2 rfl s_363 q_203 rfl rfl rfl (bl rfl)
theorem b_228_48 {d : Nat} {m : Nat → Nat → Int} {q : Nat → Nat → Option Nat} {w : Option (Nat → Int64)} {u0 u1 u2 : Option Value} {s0 : Int}   : gv d rR228 48 [u0, u1, u2] [.int (iI s0)] (mk m q w) =
    some (.inl (some (.int (iI s0))), (mk m q w, (0, 0))) := by
  exact k_rtI rfl rfl
theorem e_228 {d : Nat} (hd : 1 ≤ d) {a0 a1 a2 : Value} (M : rMem) (h0 : a0.category = 1) (h1 : a1.category = 1) (h2 : a2.category = 1) : ev d 228 [a0, a1, a2] M = gv (d - 1) rR228 0 [some a0, some a1, some a2] [] M := ev_at hd q_228 rfl (by simp [*]) rfl
/-! FanHouseModel.would(IIIIIII)I -/
theorem b_229_0 {d : Nat} {m : Nat → Nat → Int} {q : Nat → Nat → Option Nat} {w : Option (Nat → Int64)} {v1 v2 v3 v4 v5 v6 v7 : Int}   : gv d rR229 0 [some (.ref 363), some (.int (iI v1)), some (.int (iI v2)), some (.int (iI v3)), some (.int (iI v4)), some (.int (iI v5)), some (.int (iI v6)), some (.int (iI v7))] [] (mk m q w) =
    rBd (ev d 224 [.int (iI v1)] (mk (wr m 363 0 0) q w)) (fun v M' => gv d rR229 10 [some (.ref 363), some (.int (iI v1)), some (.int (iI v2)), some (.int (iI v3)), some (.int (iI v4)), some (.int (iI v5)), some (.int (iI v6)), some (.int (iI v7))] (v.toList ++ [.ref 363]) M') := by
  refine Eq.trans (k_ald0 rfl) ?_
  refine Eq.trans (k_con rfl) ?_
  refine Eq.trans (k_ptI rfl s_363 rfl rfl) ?_
  refine Eq.trans (k_ald0 rfl) ?_
  refine Eq.trans (k_ild1 rfl) ?_
  exact k_cS1 rfl (by decide) q_224 rfl rfl (bl rfl)
theorem b_229_10 {d : Nat} {m : Nat → Nat → Int} {q : Nat → Nat → Option Nat} {w : Option (Nat → Int64)} {v1 v2 v3 v4 v5 v6 v7 s1 : Int}   : gv d rR229 10 [some (.ref 363), some (.int (iI v1)), some (.int (iI v2)), some (.int (iI v3)), some (.int (iI v4)), some (.int (iI v5)), some (.int (iI v6)), some (.int (iI v7))] [.int (iI s1), .ref 363] (mk m q w) =
    if iI s1 = iI 0 then (gv d rR229 84 [some (.ref 363), some (.int (iI v1)), some (.int (iI v2)), some (.int (iI v3)), some (.int (iI v4)), some (.int (iI v5)), some (.int (iI v6)), some (.int (iI v7))] [.ref 363] (mk m q w)) else (rBd (ev d 161 [.int (iI v2), .int (iI 1), .int (iI 7)] (mk m q w)) (fun v M' => gv d rR229 20 [some (.ref 363), some (.int (iI v1)), some (.int (iI v2)), some (.int (iI v3)), some (.int (iI v4)), some (.int (iI v5)), some (.int (iI v6)), some (.int (iI v7))] (v.toList ++ [.ref 363]) M')) := by
  refine Eq.trans (k_i1eq rfl rfl) ?_
  refine ifc ?_ ?_
  · exact rfl
  · refine Eq.trans (k_ild2 rfl) ?_
    refine Eq.trans (k_con rfl) ?_
    refine Eq.trans (k_bip rfl (by decide)) ?_
    exact k_cS3 rfl (by decide) q_161 rfl rfl (bl rfl)
theorem b_229_20 {d : Nat} {m : Nat → Nat → Int} {q : Nat → Nat → Option Nat} {w : Option (Nat → Int64)} {v1 v2 v3 v4 v5 v6 v7 s1 : Int}   : gv d rR229 20 [some (.ref 363), some (.int (iI v1)), some (.int (iI v2)), some (.int (iI v3)), some (.int (iI v4)), some (.int (iI v5)), some (.int (iI v6)), some (.int (iI v7))] [.int (iI s1), .ref 363] (mk m q w) =
    if iI s1 = iI 0 then (gv d rR229 84 [some (.ref 363), some (.int (iI v1)), some (.int (iI v2)), some (.int (iI v3)), some (.int (iI v4)), some (.int (iI v5)), some (.int (iI v6)), some (.int (iI v7))] [.ref 363] (mk m q w)) else (rBd (ev d 161 [.int (iI v3), .int (iI 0), .int (iI 200)] (mk m q w)) (fun v M' => gv d rR229 31 [some (.ref 363), some (.int (iI v1)), some (.int (iI v2)), some (.int (iI v3)), some (.int (iI v4)), some (.int (iI v5)), some (.int (iI v6)), some (.int (iI v7))] (v.toList ++ [.ref 363]) M')) := by
  refine Eq.trans (k_i1eq rfl rfl) ?_
  refine ifc ?_ ?_
  · exact rfl
  · refine Eq.trans (k_ild3 rfl) ?_
    refine Eq.trans (k_con rfl) ?_
    refine Eq.trans (k_sip rfl (by decide)) ?_
    exact k_cS3 rfl (by decide) q_161 rfl rfl (bl rfl)
theorem b_229_31 {d : Nat} {m : Nat → Nat → Int} {q : Nat → Nat → Option Nat} {w : Option (Nat → Int64)} {v1 v2 v3 v4 v5 v6 v7 s1 : Int}   : gv d rR229 31 [some (.ref 363), some (.int (iI v1)), some (.int (iI v2)), some (.int (iI v3)), some (.int (iI v4)), some (.int (iI v5)), some (.int (iI v6)), some (.int (iI v7))] [.int (iI s1), .ref 363] (mk m q w) =
    if iI s1 = iI 0 then (gv d rR229 84 [some (.ref 363), some (.int (iI v1)), some (.int (iI v2)), some (.int (iI v3)), some (.int (iI v4)), some (.int (iI v5)), some (.int (iI v6)), some (.int (iI v7))] [.ref 363] (mk m q w)) else (rBd (ev d 161 [.int (iI v4), .int (iI 0), .int (iI 9999)] (mk m q w)) (fun v M' => gv d rR229 43 [some (.ref 363), some (.int (iI v1)), some (.int (iI v2)), some (.int (iI v3)), some (.int (iI v4)), some (.int (iI v5)), some (.int (iI v6)), some (.int (iI v7))] (v.toList ++ [.ref 363]) M')) := by
  refine Eq.trans (k_i1eq rfl rfl) ?_
  refine ifc ?_ ?_
  · exact rfl
  · refine Eq.trans (k_ild4 rfl) ?_
    refine Eq.trans (k_con rfl) ?_
    refine Eq.trans (k_sip rfl (by decide)) ?_
    exact k_cS3 rfl (by decide) q_161 rfl rfl (bl rfl)
theorem b_229_43 {d : Nat} {m : Nat → Nat → Int} {q : Nat → Nat → Option Nat} {w : Option (Nat → Int64)} {v1 v2 v3 v4 v5 v6 v7 s1 : Int}   : gv d rR229 43 [some (.ref 363), some (.int (iI v1)), some (.int (iI v2)), some (.int (iI v3)), some (.int (iI v4)), some (.int (iI v5)), some (.int (iI v6)), some (.int (iI v7))] [.int (iI s1), .ref 363] (mk m q w) =
    if iI s1 = iI 0 then (gv d rR229 84 [some (.ref 363), some (.int (iI v1)), some (.int (iI v2)), some (.int (iI v3)), some (.int (iI v4)), some (.int (iI v5)), some (.int (iI v6)), some (.int (iI v7))] [.ref 363] (mk m q w)) else (rBd (ev d 161 [.int (iI v5), .int (iI 0), .int (iI 7)] (mk m q w)) (fun v M' => gv d rR229 54 [some (.ref 363), some (.int (iI v1)), some (.int (iI v2)), some (.int (iI v3)), some (.int (iI v4)), some (.int (iI v5)), some (.int (iI v6)), some (.int (iI v7))] (v.toList ++ [.ref 363]) M')) := by
  refine Eq.trans (k_i1eq rfl rfl) ?_
  refine ifc ?_ ?_
  · exact rfl
  · refine Eq.trans (k_ild5 rfl) ?_
    refine Eq.trans (k_con rfl) ?_
    refine Eq.trans (k_bip rfl (by decide)) ?_
    exact k_cS3 rfl (by decide) q_161 rfl rfl (bl rfl)
theorem b_229_54 {d : Nat} {m : Nat → Nat → Int} {q : Nat → Nat → Option Nat} {w : Option (Nat → Int64)} {v1 v2 v3 v4 v5 v6 v7 s1 : Int}   : gv d rR229 54 [some (.ref 363), some (.int (iI v1)), some (.int (iI v2)), some (.int (iI v3)), some (.int (iI v4)), some (.int (iI v5)), some (.int (iI v6)), some (.int (iI v7))] [.int (iI s1), .ref 363] (mk m q w) =
    if iI s1 = iI 0 then (gv d rR229 84 [some (.ref 363), some (.int (iI v1)), some (.int (iI v2)), some (.int (iI v3)), some (.int (iI v4)), some (.int (iI v5)), some (.int (iI v6)), some (.int (iI v7))] [.ref 363] (mk m q w)) else (rBd (ev d 161 [.int (iI v6), .int (iI 0), .int (iI 99)] (mk m q w)) (fun v M' => gv d rR229 65 [some (.ref 363), some (.int (iI v1)), some (.int (iI v2)), some (.int (iI v3)), some (.int (iI v4)), some (.int (iI v5)), some (.int (iI v6)), some (.int (iI v7))] (v.toList ++ [.ref 363]) M')) := by
  refine Eq.trans (k_i1eq rfl rfl) ?_
  refine ifc ?_ ?_
  · exact rfl
  · refine Eq.trans (k_ild6 rfl) ?_
    refine Eq.trans (k_con rfl) ?_
    refine Eq.trans (k_bip rfl (by decide)) ?_
    exact k_cS3 rfl (by decide) q_161 rfl rfl (bl rfl)
theorem b_229_65 {d : Nat} {m : Nat → Nat → Int} {q : Nat → Nat → Option Nat} {w : Option (Nat → Int64)} {v1 v2 v3 v4 v5 v6 v7 s1 : Int}   : gv d rR229 65 [some (.ref 363), some (.int (iI v1)), some (.int (iI v2)), some (.int (iI v3)), some (.int (iI v4)), some (.int (iI v5)), some (.int (iI v6)), some (.int (iI v7))] [.int (iI s1), .ref 363] (mk m q w) =
    if iI s1 = iI 0 then (gv d rR229 84 [some (.ref 363), some (.int (iI v1)), some (.int (iI v2)), some (.int (iI v3)), some (.int (iI v4)), some (.int (iI v5)), some (.int (iI v6)), some (.int (iI v7))] [.ref 363] (mk m q w)) else (rBd (ev d 161 [.int (iI v7), .int (iI 0), .int (iI 400)] (mk m q w)) (fun v M' => gv d rR229 77 [some (.ref 363), some (.int (iI v1)), some (.int (iI v2)), some (.int (iI v3)), some (.int (iI v4)), some (.int (iI v5)), some (.int (iI v6)), some (.int (iI v7))] (v.toList ++ [.ref 363]) M')) := by
  refine Eq.trans (k_i1eq rfl rfl) ?_
  refine ifc ?_ ?_
  · exact rfl
  · refine Eq.trans (k_ild7 rfl) ?_
    refine Eq.trans (k_con rfl) ?_
    refine Eq.trans (k_sip rfl (by decide)) ?_
    exact k_cS3 rfl (by decide) q_161 rfl rfl (bl rfl)
theorem b_229_77 {d : Nat} {m : Nat → Nat → Int} {q : Nat → Nat → Option Nat} {w : Option (Nat → Int64)} {v1 v2 v3 v4 v5 v6 v7 s1 : Int}   : gv d rR229 77 [some (.ref 363), some (.int (iI v1)), some (.int (iI v2)), some (.int (iI v3)), some (.int (iI v4)), some (.int (iI v5)), some (.int (iI v6)), some (.int (iI v7))] [.int (iI s1), .ref 363] (mk m q w) =
    if iI s1 = iI 0 then (gv d rR229 84 [some (.ref 363), some (.int (iI v1)), some (.int (iI v2)), some (.int (iI v3)), some (.int (iI v4)), some (.int (iI v5)), some (.int (iI v6)), some (.int (iI v7))] [.ref 363] (mk m q w)) else (gv d rR229 85 [some (.ref 363), some (.int (iI v1)), some (.int (iI v2)), some (.int (iI v3)), some (.int (iI v4)), some (.int (iI v5)), some (.int (iI v6)), some (.int (iI v7))] [.int (iI 1), .ref 363] (mk m q w)) := by
  refine Eq.trans (k_i1eq rfl rfl) ?_
  refine ifc ?_ ?_
  · exact rfl
  · refine Eq.trans (k_con rfl) ?_
    refine Eq.trans (k_go rfl rfl) ?_
    exact rfl
theorem b_229_84 {d : Nat} {m : Nat → Nat → Int} {q : Nat → Nat → Option Nat} {w : Option (Nat → Int64)} {v1 v2 v3 v4 v5 v6 v7 : Int}   : gv d rR229 84 [some (.ref 363), some (.int (iI v1)), some (.int (iI v2)), some (.int (iI v3)), some (.int (iI v4)), some (.int (iI v5)), some (.int (iI v6)), some (.int (iI v7))] [.ref 363] (mk m q w) =
    gv d rR229 85 [some (.ref 363), some (.int (iI v1)), some (.int (iI v2)), some (.int (iI v3)), some (.int (iI v4)), some (.int (iI v5)), some (.int (iI v6)), some (.int (iI v7))] [.int (iI 0), .ref 363] (mk m q w) := by
  refine Eq.trans (k_con rfl) ?_
  exact rfl
theorem b_229_85 {d : Nat} {m : Nat → Nat → Int} {q : Nat → Nat → Option Nat} {w : Option (Nat → Int64)} {v1 v2 v3 v4 v5 v6 v7 s1 : Int}   : gv d rR229 85 [some (.ref 363), some (.int (iI v1)), some (.int (iI v2)), some (.int (iI v3)), some (.int (iI v4)), some (.int (iI v5)), some (.int (iI v6)), some (.int (iI v7))] [.int (iI s1), .ref 363] (mk m q w) =
    rBd (ev d 160 [.ref 363, .int (iI s1), .int (iI 1), .int (iI 1)] (mk m q w)) (fun v M' => gv d rR229 90 [some (.ref 363), some (.int (iI v1)), some (.int (iI v2)), some (.int (iI v3)), some (.int (iI v4)), some (.int (iI v5)), some (.int (iI v6)), some (.int (iI v7))] (v.toList ++ []) M') := by
  refine Eq.trans (k_con rfl) ?_
  refine Eq.trans (k_con rfl) ?_
  exact k_cV3 rfl s_363 q_160 rfl rfl rfl (bl rfl)
theorem b_229_90 {d : Nat} {m : Nat → Nat → Int} {q : Nat → Nat → Option Nat} {w : Option (Nat → Int64)} {v1 v2 v3 v4 v5 v6 v7 s0 : Int}   : gv d rR229 90 [some (.ref 363), some (.int (iI v1)), some (.int (iI v2)), some (.int (iI v3)), some (.int (iI v4)), some (.int (iI v5)), some (.int (iI v6)), some (.int (iI v7))] [.int (iI s0)] (mk m q w) =
    if iI s0 = iI 0 then (some (.inl (some (.int (iI 0))), (mk m q w, (0, 0)))) else (rBd (ev d 202 [.ref 363, .int (iI v1), .int (iI v2), .int (iI v3), .int (iI v4), .int (iI v5), .int (iI v6), .int (iI v7)] (mk m q w)) (fun v M' => gv d rR229 110 [some (.ref 363), some (.int (iI v1)), some (.int (iI v2)), some (.int (iI v3)), some (.int (iI v4)), some (.int (iI v5)), some (.int (iI v6)), some (.int (iI v7))] (v.toList ++ []) M')) := by
  refine Eq.trans (k_i1ne rfl rfl) ?_
  refine ifc ?_ ?_
  · refine Eq.trans (k_con rfl) ?_
    exact k_rtI rfl rfl
  · refine Eq.trans (k_ald0 rfl) ?_
    refine Eq.trans (k_ild1 rfl) ?_
    refine Eq.trans (k_ild2 rfl) ?_
    refine Eq.trans (k_ild3 rfl) ?_
    refine Eq.trans (k_ild4 rfl) ?_
    refine Eq.trans (k_ild5 rfl) ?_
    refine Eq.trans (k_ild6 rfl) ?_
    refine Eq.trans (k_ild7 rfl) ?_
    exact k_cV7 rfl s_363 q_202 rfl rfl rfl (bl rfl)
theorem b_229_110 {d : Nat} {m : Nat → Nat → Int} {q : Nat → Nat → Option Nat} {w : Option (Nat → Int64)} {u0 u1 u2 u3 u4 u5 u6 u7 : Option Value} {s0 : Int}   : gv d rR229 110 [u0, u1, u2, u3, u4, u5, u6, u7] [.int (iI s0)] (mk m q w) =
    some (.inl (some (.int (iI s0))), (mk m q w, (0, 0))) := by
  exact k_rtI rfl rfl
theorem e_229 {d : Nat} (hd : 1 ≤ d) {a0 a1 a2 a3 a4 a5 a6 a7 : Value} (M : rMem) (h0 : a0.category = 1) (h1 : a1.category = 1) (h2 : a2.category = 1) (h3 : a3.category = 1) (h4 : a4.category = 1) (h5 : a5.category = 1) (h6 : a6.category = 1) (h7 : a7.category = 1) : ev d 229 [a0, a1, a2, a3, a4, a5, a6, a7] M = gv (d - 1) rR229 0 [some a0, some a1, some a2, some a3, some a4, some a5, some a6, some a7] [] M := ev_at hd q_229 rfl (by simp [*]) rfl
/-! FanHouseModel.mark(II)I -/
theorem b_230_0 {d : Nat} {m : Nat → Nat → Int} {q : Nat → Nat → Option Nat} {w : Option (Nat → Int64)} {v1 v2 : Int}   : gv d rR230 0 [some (.ref 363), some (.int (iI v1)), some (.int (iI v2))] [] (mk m q w) =
    rBd (ev d 224 [.int (iI v1)] (mk (wr m 363 0 0) q w)) (fun v M' => gv d rR230 10 [some (.ref 363), some (.int (iI v1)), some (.int (iI v2))] (v.toList ++ [.ref 363]) M') := by
  refine Eq.trans (k_ald0 rfl) ?_
  refine Eq.trans (k_con rfl) ?_
  refine Eq.trans (k_ptI rfl s_363 rfl rfl) ?_
  refine Eq.trans (k_ald0 rfl) ?_
  refine Eq.trans (k_ild1 rfl) ?_
  exact k_cS1 rfl (by decide) q_224 rfl rfl (bl rfl)
theorem b_230_10 {d : Nat} {m : Nat → Nat → Int} {q : Nat → Nat → Option Nat} {w : Option (Nat → Int64)} {v1 v2 s1 : Int}   : gv d rR230 10 [some (.ref 363), some (.int (iI v1)), some (.int (iI v2))] [.int (iI s1), .ref 363] (mk m q w) =
    if iI s1 = iI 0 then (gv d rR230 21 [some (.ref 363), some (.int (iI v1)), some (.int (iI v2))] [.ref 363] (mk m q w)) else (if iI v2 < iI 0 then (gv d rR230 21 [some (.ref 363), some (.int (iI v1)), some (.int (iI v2))] [.ref 363] (mk m q w)) else (gv d rR230 22 [some (.ref 363), some (.int (iI v1)), some (.int (iI v2))] [.int (iI 1), .ref 363] (mk m q w))) := by
  refine Eq.trans (k_i1eq rfl rfl) ?_
  refine ifc ?_ ?_
  · exact rfl
  · refine Eq.trans (k_ild2 rfl) ?_
    refine Eq.trans (k_i1lt rfl rfl) ?_
    refine ifc ?_ ?_
    · exact rfl
    · refine Eq.trans (k_con rfl) ?_
      refine Eq.trans (k_go rfl rfl) ?_
      exact rfl
theorem b_230_21 {d : Nat} {m : Nat → Nat → Int} {q : Nat → Nat → Option Nat} {w : Option (Nat → Int64)} {v1 v2 : Int}   : gv d rR230 21 [some (.ref 363), some (.int (iI v1)), some (.int (iI v2))] [.ref 363] (mk m q w) =
    gv d rR230 22 [some (.ref 363), some (.int (iI v1)), some (.int (iI v2))] [.int (iI 0), .ref 363] (mk m q w) := by
  refine Eq.trans (k_con rfl) ?_
  exact rfl
theorem b_230_22 {d : Nat} {m : Nat → Nat → Int} {q : Nat → Nat → Option Nat} {w : Option (Nat → Int64)} {v1 v2 s1 : Int}   : gv d rR230 22 [some (.ref 363), some (.int (iI v1)), some (.int (iI v2))] [.int (iI s1), .ref 363] (mk m q w) =
    rBd (ev d 160 [.ref 363, .int (iI s1), .int (iI 1), .int (iI 1)] (mk m q w)) (fun v M' => gv d rR230 27 [some (.ref 363), some (.int (iI v1)), some (.int (iI v2))] (v.toList ++ []) M') := by
  refine Eq.trans (k_con rfl) ?_
  refine Eq.trans (k_con rfl) ?_
  exact k_cV3 rfl s_363 q_160 rfl rfl rfl (bl rfl)
theorem b_230_27 {d : Nat} {m : Nat → Nat → Int} {q : Nat → Nat → Option Nat} {w : Option (Nat → Int64)} {v1 v2 s0 : Int}   : gv d rR230 27 [some (.ref 363), some (.int (iI v1)), some (.int (iI v2))] [.int (iI s0)] (mk m q w) =
    if iI s0 = iI 0 then (some (.inl (some (.int (iI 0))), (mk m q w, (0, 0)))) else (rBd (ev d 200 [.ref 363] (mk m q w)) (fun v M' => gv d rR230 36 [some (.ref 363), some (.int (iI v1)), some (.int (iI v2))] (v.toList ++ []) M')) := by
  refine Eq.trans (k_i1ne rfl rfl) ?_
  refine ifc ?_ ?_
  · refine Eq.trans (k_con rfl) ?_
    exact k_rtI rfl rfl
  · refine Eq.trans (k_ald0 rfl) ?_
    exact k_cV0 rfl s_363 q_200 rfl rfl rfl (bl rfl)
theorem b_230_36 {d : Nat} {m : Nat → Nat → Int} {q : Nat → Nat → Option Nat} {w : Option (Nat → Int64)} {v1 v2 : Int}   : gv d rR230 36 [some (.ref 363), some (.int (iI v1)), some (.int (iI v2))] [] (mk m q w) =
    if iI v2 < iI (m 363 15) then (rBd (ev d 217 [.ref 363, .int (iI v1), .int (iI v2)] (mk m q w)) (fun v M' => gv d rR230 50 [some (.ref 363), some (.int (iI v1)), some (.int (iI v2))] (v.toList ++ []) M')) else (gv d rR230 54 [some (.ref 363), some (.int (iI v1)), some (.int (iI v2))] [.int (iI (-1))] (mk m q w)) := by
  refine Eq.trans (k_ild2 rfl) ?_
  refine Eq.trans (k_ald0 rfl) ?_
  refine Eq.trans (k_gtI rfl s_363 rfl (by decide)) ?_
  refine Eq.trans (k_i2ge rfl rfl) ?_
  refine ifc ?_ ?_
  · refine Eq.trans (k_ald0 rfl) ?_
    refine Eq.trans (k_ild1 rfl) ?_
    refine Eq.trans (k_ild2 rfl) ?_
    exact k_cV2 rfl s_363 q_217 rfl rfl rfl (bl rfl)
  · refine Eq.trans (k_con rfl) ?_
    exact rfl
theorem b_230_50 {d : Nat} {m : Nat → Nat → Int} {q : Nat → Nat → Option Nat} {w : Option (Nat → Int64)} {u0 u1 u2 : Option Value} {s0 : Int}   : gv d rR230 50 [u0, u1, u2] [.int (iI s0)] (mk m q w) =
    gv d rR230 54 [u0, u1, u2] [.int (iI s0)] (mk m q w) := by
  refine Eq.trans (k_go rfl rfl) ?_
  exact rfl
theorem b_230_54 {d : Nat} {m : Nat → Nat → Int} {q : Nat → Nat → Option Nat} {w : Option (Nat → Int64)} {u0 u1 u2 : Option Value} {s0 : Int}   : gv d rR230 54 [u0, u1, u2] [.int (iI s0)] (mk m q w) =
    some (.inl (some (.int (iI s0))), (mk m q w, (0, 0))) := by
  exact k_rtI rfl rfl
theorem e_230 {d : Nat} (hd : 1 ≤ d) {a0 a1 a2 : Value} (M : rMem) (h0 : a0.category = 1) (h1 : a1.category = 1) (h2 : a2.category = 1) : ev d 230 [a0, a1, a2] M = gv (d - 1) rR230 0 [some a0, some a1, some a2] [] M := ev_at hd q_230 rfl (by simp [*]) rfl
/-! FanHouseModel.seen(I)I -/
theorem b_231_0 {d : Nat} {m : Nat → Nat → Int} {q : Nat → Nat → Option Nat} {w : Option (Nat → Int64)} {v1 : Int}   : gv d rR231 0 [some (.ref 363), some (.int (iI v1))] [] (mk m q w) =
    if iI v1 < iI 0 then (gv d rR231 15 [some (.ref 363), some (.int (iI v1))] [.int (iI 0), .ref 363] (mk (wr m 363 0 0) q w)) else (gv d rR231 15 [some (.ref 363), some (.int (iI v1))] [.int (iI 1), .ref 363] (mk (wr m 363 0 0) q w)) := by
  refine Eq.trans (k_ald0 rfl) ?_
  refine Eq.trans (k_con rfl) ?_
  refine Eq.trans (k_ptI rfl s_363 rfl rfl) ?_
  refine Eq.trans (k_ald0 rfl) ?_
  refine Eq.trans (k_ild1 rfl) ?_
  refine Eq.trans (k_i1lt rfl rfl) ?_
  refine ifc ?_ ?_
  · refine Eq.trans (k_con rfl) ?_
    exact rfl
  · refine Eq.trans (k_con rfl) ?_
    refine Eq.trans (k_go rfl rfl) ?_
    exact rfl
theorem b_231_15 {d : Nat} {m : Nat → Nat → Int} {q : Nat → Nat → Option Nat} {w : Option (Nat → Int64)} {v1 s1 : Int}   : gv d rR231 15 [some (.ref 363), some (.int (iI v1))] [.int (iI s1), .ref 363] (mk m q w) =
    rBd (ev d 160 [.ref 363, .int (iI s1), .int (iI 1), .int (iI 1)] (mk m q w)) (fun v M' => gv d rR231 20 [some (.ref 363), some (.int (iI v1))] (v.toList ++ []) M') := by
  refine Eq.trans (k_con rfl) ?_
  refine Eq.trans (k_con rfl) ?_
  exact k_cV3 rfl s_363 q_160 rfl rfl rfl (bl rfl)
theorem b_231_20 {d : Nat} {m : Nat → Nat → Int} {q : Nat → Nat → Option Nat} {w : Option (Nat → Int64)} {v1 s0 : Int}   : gv d rR231 20 [some (.ref 363), some (.int (iI v1))] [.int (iI s0)] (mk m q w) =
    if iI s0 = iI 0 then (some (.inl (some (.int (iI 0))), (mk m q w, (0, 0)))) else (rBd (ev d 200 [.ref 363] (mk m q w)) (fun v M' => gv d rR231 29 [some (.ref 363), some (.int (iI v1))] (v.toList ++ []) M')) := by
  refine Eq.trans (k_i1ne rfl rfl) ?_
  refine ifc ?_ ?_
  · refine Eq.trans (k_con rfl) ?_
    exact k_rtI rfl rfl
  · refine Eq.trans (k_ald0 rfl) ?_
    exact k_cV0 rfl s_363 q_200 rfl rfl rfl (bl rfl)
theorem b_231_29 {d : Nat} {m : Nat → Nat → Int} {q : Nat → Nat → Option Nat} {w : Option (Nat → Int64)} {v1 : Int}   : gv d rR231 29 [some (.ref 363), some (.int (iI v1))] [] (mk m q w) =
    if iI v1 < iI (m 377 46) then (rBd (ev d 217 [.ref 363, .int (iI (m 377 45)), .int (iI v1)] (mk m q w)) (fun v M' => gv d rR231 52 [some (.ref 363), some (.int (iI v1))] (v.toList ++ []) M')) else (gv d rR231 56 [some (.ref 363), some (.int (iI v1))] [.int (iI (-1))] (mk m q w)) := by
  refine Eq.trans (k_ild1 rfl) ?_
  refine Eq.trans (k_ald0 rfl) ?_
  refine Eq.trans (k_gtR rfl s_363 rfl (by decide)) ?_
  refine Eq.trans (k_bip rfl (by decide)) ?_
  refine Eq.trans (k_iald rfl s_377 (bl rfl) (by decide) (by decide)) ?_
  refine Eq.trans (k_i2ge rfl rfl) ?_
  refine ifc ?_ ?_
  · refine Eq.trans (k_ald0 rfl) ?_
    refine Eq.trans (k_ald0 rfl) ?_
    refine Eq.trans (k_gtR rfl s_363 rfl (by decide)) ?_
    refine Eq.trans (k_bip rfl (by decide)) ?_
    refine Eq.trans (k_iald rfl s_377 (bl rfl) (by decide) (by decide)) ?_
    refine Eq.trans (k_ild1 rfl) ?_
    exact k_cV2 rfl s_363 q_217 rfl rfl rfl (bl rfl)
  · refine Eq.trans (k_con rfl) ?_
    exact rfl
theorem b_231_52 {d : Nat} {m : Nat → Nat → Int} {q : Nat → Nat → Option Nat} {w : Option (Nat → Int64)} {u0 u1 : Option Value} {s0 : Int}   : gv d rR231 52 [u0, u1] [.int (iI s0)] (mk m q w) =
    gv d rR231 56 [u0, u1] [.int (iI s0)] (mk m q w) := by
  refine Eq.trans (k_go rfl rfl) ?_
  exact rfl
theorem b_231_56 {d : Nat} {m : Nat → Nat → Int} {q : Nat → Nat → Option Nat} {w : Option (Nat → Int64)} {u0 u1 : Option Value} {s0 : Int}   : gv d rR231 56 [u0, u1] [.int (iI s0)] (mk m q w) =
    some (.inl (some (.int (iI s0))), (mk m q w, (0, 0))) := by
  exact k_rtI rfl rfl
theorem e_231 {d : Nat} (hd : 1 ≤ d) {a0 a1 : Value} (M : rMem) (h0 : a0.category = 1) (h1 : a1.category = 1) : ev d 231 [a0, a1] M = gv (d - 1) rR231 0 [some a0, some a1] [] M := ev_at hd q_231 rfl (by simp [*]) rfl
/-! FanHouseModel.marks(I)I -/
theorem b_232_0 {d : Nat} {m : Nat → Nat → Int} {q : Nat → Nat → Option Nat} {w : Option (Nat → Int64)} {u2 u3 : Option Value} {v1 : Int}   : gv d rR232 0 [some (.ref 363), some (.int (iI v1)), u2, u3] [] (mk m q w) =
    rBd (ev d 224 [.int (iI v1)] (mk (wr m 363 0 0) q w)) (fun v M' => gv d rR232 10 [some (.ref 363), some (.int (iI v1)), u2, u3] (v.toList ++ [.ref 363]) M') := by
  refine Eq.trans (k_ald0 rfl) ?_
  refine Eq.trans (k_con rfl) ?_
  refine Eq.trans (k_ptI rfl s_363 rfl rfl) ?_
  refine Eq.trans (k_ald0 rfl) ?_
  refine Eq.trans (k_ild1 rfl) ?_
  exact k_cS1 rfl (by decide) q_224 rfl rfl (bl rfl)
theorem b_232_10 {d : Nat} {m : Nat → Nat → Int} {q : Nat → Nat → Option Nat} {w : Option (Nat → Int64)} {u2 u3 : Option Value} {v1 s1 : Int}   : gv d rR232 10 [some (.ref 363), some (.int (iI v1)), u2, u3] [.int (iI s1), .ref 363] (mk m q w) =
    rBd (ev d 160 [.ref 363, .int (iI s1), .int (iI 1), .int (iI 1)] (mk m q w)) (fun v M' => gv d rR232 15 [some (.ref 363), some (.int (iI v1)), u2, u3] (v.toList ++ []) M') := by
  refine Eq.trans (k_con rfl) ?_
  refine Eq.trans (k_con rfl) ?_
  exact k_cV3 rfl s_363 q_160 rfl rfl rfl (bl rfl)
theorem b_232_15 {d : Nat} {m : Nat → Nat → Int} {q : Nat → Nat → Option Nat} {w : Option (Nat → Int64)} {u2 u3 : Option Value} {v1 s0 : Int}   : gv d rR232 15 [some (.ref 363), some (.int (iI v1)), u2, u3] [.int (iI s0)] (mk m q w) =
    if iI s0 = iI 0 then (some (.inl (some (.int (iI 0))), (mk m q w, (0, 0)))) else (rBd (ev d 200 [.ref 363] (mk m q w)) (fun v M' => gv d rR232 24 [some (.ref 363), some (.int (iI v1)), u2, u3] (v.toList ++ []) M')) := by
  refine Eq.trans (k_i1ne rfl rfl) ?_
  refine ifc ?_ ?_
  · refine Eq.trans (k_con rfl) ?_
    exact k_rtI rfl rfl
  · refine Eq.trans (k_ald0 rfl) ?_
    exact k_cV0 rfl s_363 q_200 rfl rfl rfl (bl rfl)
theorem b_232_24 {d : Nat} {m : Nat → Nat → Int} {q : Nat → Nat → Option Nat} {w : Option (Nat → Int64)} {u2 u3 : Option Value} {v1 : Int}   : gv d rR232 24 [some (.ref 363), some (.int (iI v1)), u2, u3] [] (mk m q w) =
    gv d rR232 28 [some (.ref 363), some (.int (iI v1)), some (.int (iI 0)), some (.int (iI 0))] [] (mk m q w) := by
  refine Eq.trans (k_con rfl) ?_
  refine Eq.trans (k_ist2 rfl) ?_
  refine Eq.trans (k_con rfl) ?_
  refine Eq.trans (k_ist3 rfl) ?_
  exact rfl
theorem b_232_28 {d : Nat} {m : Nat → Nat → Int} {q : Nat → Nat → Option Nat} {w : Option (Nat → Int64)} {v1 v2 v3 : Int}   : gv d rR232 28 [some (.ref 363), some (.int (iI v1)), some (.int (iI v2)), some (.int (iI v3))] [] (mk m q w) =
    if iI v3 < iI (m 363 15) then (rBd (ev d 217 [.ref 363, .int (iI v1), .int (iI v3)] (mk m q w)) (fun v M' => gv d rR232 44 [some (.ref 363), some (.int (iI v1)), some (.int (iI v2)), some (.int (iI v3))] (v.toList ++ [.int (iI 1), .int (iI v2)]) M')) else (some (.inl (some (.int (iI v2))), (mk m q w, (0, 0)))) := by
  refine Eq.trans (k_ild3 rfl) ?_
  refine Eq.trans (k_ald0 rfl) ?_
  refine Eq.trans (k_gtI rfl s_363 rfl (by decide)) ?_
  refine Eq.trans (k_i2ge rfl rfl) ?_
  refine ifc ?_ ?_
  · refine Eq.trans (k_ild2 rfl) ?_
    refine Eq.trans (k_con rfl) ?_
    refine Eq.trans (k_ald0 rfl) ?_
    refine Eq.trans (k_ild1 rfl) ?_
    refine Eq.trans (k_ild3 rfl) ?_
    exact k_cV2 rfl s_363 q_217 rfl rfl rfl (bl rfl)
  · refine Eq.trans (k_ild2 rfl) ?_
    exact k_rtI rfl rfl
theorem b_232_44 {d : Nat} {m : Nat → Nat → Int} {q : Nat → Nat → Option Nat} {w : Option (Nat → Int64)} {u2 : Option Value} {v1 v3 s0 s1 s2 : Int}   : gv d rR232 44 [some (.ref 363), some (.int (iI v1)), u2, some (.int (iI v3))] [.int (iI s2), .int (iI s1), .int (iI s0)] (mk m q w) =
    gv d rR232 28 [some (.ref 363), some (.int (iI v1)), some (.int (iI (zOr s0 (zShl s1 s2)))), some (.int (iI (v3 + 1)))] [] (mk m q w) := by
  refine Eq.trans (k_shl rfl) ?_
  refine Eq.trans (k_ior rfl) ?_
  refine Eq.trans (k_ist2 rfl) ?_
  refine Eq.trans (k_inc3 rfl) ?_
  refine Eq.trans (k_go rfl rfl) ?_
  exact rfl
theorem e_232 {d : Nat} (hd : 1 ≤ d) {a0 a1 : Value} (M : rMem) (h0 : a0.category = 1) (h1 : a1.category = 1) : ev d 232 [a0, a1] M = gv (d - 1) rR232 0 [some a0, some a1, none, none] [] M := ev_at hd q_232 rfl (by simp [*]) rfl
/-! FanHouseModel.wantedAt(III)I -/
theorem b_233_0 {d : Nat} {m : Nat → Nat → Int} {q : Nat → Nat → Option Nat} {w : Option (Nat → Int64)} {u4 : Option Value} {v1 v2 v3 : Int}   : gv d rR233 0 [some (.ref 363), some (.int (iI v1)), some (.int (iI v2)), some (.int (iI v3)), u4] [] (mk m q w) =
    rBd (ev d 216 [.ref 363, .int (iI v2), .int (iI v3)] (mk m q w)) (fun v M' => gv d rR233 6 [some (.ref 363), some (.int (iI v1)), some (.int (iI v2)), some (.int (iI v3)), u4] (v.toList ++ []) M') := by
  refine Eq.trans (k_ald0 rfl) ?_
  refine Eq.trans (k_ild2 rfl) ?_
  refine Eq.trans (k_ild3 rfl) ?_
  exact k_cV2 rfl s_363 q_216 rfl rfl rfl (bl rfl)
theorem b_233_6 {d : Nat} {m : Nat → Nat → Int} {q : Nat → Nat → Option Nat} {w : Option (Nat → Int64)} {u2 u3 u4 : Option Value} {v1 s0 : Int}  (g0 : 0 ≤ v1) (g1 : v1 < 2) : gv d rR233 6 [some (.ref 363), some (.int (iI v1)), u2, u3, u4] [.int (iI s0)] (mk m q w) =
    if iI s0 < iI (m 381 (Int.toNat v1)) then (gv d rR233 19 [some (.ref 363), some (.int (iI v1)), u2, u3, some (.int (iI s0))] [] (mk m q w)) else (gv d rR233 36 [some (.ref 363), some (.int (iI v1)), u2, u3, some (.int (iI s0))] [.int (iI 16)] (mk m q w)) := by
  refine Eq.trans (k_ist4 rfl) ?_
  refine Eq.trans (k_ild4 rfl) ?_
  refine Eq.trans (k_ald0 rfl) ?_
  refine Eq.trans (k_gtR rfl s_363 rfl (by decide)) ?_
  refine Eq.trans (k_ild1 rfl) ?_
  refine Eq.trans (k_iald rfl s_381 (bl rfl) g0 g1) ?_
  refine Eq.trans (k_i2ge rfl rfl) ?_
  refine ifc ?_ ?_
  · exact rfl
  · refine Eq.trans (k_bip rfl (by decide)) ?_
    exact rfl
theorem b_233_19 {d : Nat} {m : Nat → Nat → Int} {q : Nat → Nat → Option Nat} {w : Option (Nat → Int64)} {u2 u3 : Option Value} {v1 v4 : Int}  (g0 : 0 ≤ ((7 * v1) + v4)) (g1 : ((7 * v1) + v4) < 14) : gv d rR233 19 [some (.ref 363), some (.int (iI v1)), u2, u3, some (.int (iI v4))] [] (mk m q w) =
    gv d rR233 36 [some (.ref 363), some (.int (iI v1)), u2, u3, some (.int (iI v4))] [.int (iI (m 380 (Int.toNat ((7 * v1) + v4))))] (mk m q w) := by
  refine Eq.trans (k_ald0 rfl) ?_
  refine Eq.trans (k_gtR rfl s_363 rfl (by decide)) ?_
  refine Eq.trans (k_bip rfl (by decide)) ?_
  refine Eq.trans (k_ild1 rfl) ?_
  refine Eq.trans (k_mul rfl) ?_
  refine Eq.trans (k_ild4 rfl) ?_
  refine Eq.trans (k_add rfl) ?_
  refine Eq.trans (k_iald rfl s_380 (bl rfl) g0 g1) ?_
  refine Eq.trans (k_go rfl rfl) ?_
  exact rfl
theorem b_233_36 {d : Nat} {m : Nat → Nat → Int} {q : Nat → Nat → Option Nat} {w : Option (Nat → Int64)} {u0 u1 u2 u3 u4 : Option Value} {s0 : Int}   : gv d rR233 36 [u0, u1, u2, u3, u4] [.int (iI s0)] (mk m q w) =
    some (.inl (some (.int (iI s0))), (mk m q w, (0, 0))) := by
  exact k_rtI rfl rfl
theorem e_233 {d : Nat} (hd : 1 ≤ d) {a0 a1 a2 a3 : Value} (M : rMem) (h0 : a0.category = 1) (h1 : a1.category = 1) (h2 : a2.category = 1) (h3 : a3.category = 1) : ev d 233 [a0, a1, a2, a3] M = gv (d - 1) rR233 0 [some a0, some a1, some a2, some a3, none] [] M := ev_at hd q_233 rfl (by simp [*]) rfl
/-! FanHouseModel.isGiven(II)Z -/
theorem b_234_0 {d : Nat} {m : Nat → Nat → Int} {q : Nat → Nat → Option Nat} {w : Option (Nat → Int64)} {v0 v1 : Int}   : gv d rR234 0 [some (.int (iI v0)), some (.int (iI v1))] [] (mk m q w) =
    if iI v0 = iI 16 then (gv d rR234 11 [some (.int (iI v0)), some (.int (iI v1))] [] (mk m q w)) else (if iI v0 = iI v1 then (gv d rR234 11 [some (.int (iI v0)), some (.int (iI v1))] [] (mk m q w)) else (gv d rR234 16 [some (.int (iI v0)), some (.int (iI v1))] [.int (iI 0)] (mk m q w))) := by
  refine Eq.trans (k_ild0 rfl) ?_
  refine Eq.trans (k_bip rfl (by decide)) ?_
  refine Eq.trans (k_i2eq rfl rfl) ?_
  refine ifc ?_ ?_
  · exact rfl
  · refine Eq.trans (k_ild0 rfl) ?_
    refine Eq.trans (k_ild1 rfl) ?_
    refine Eq.trans (k_i2ne rfl rfl) ?_
    refine ifc ?_ ?_
    · exact rfl
    · refine Eq.trans (k_con rfl) ?_
      exact rfl
theorem b_234_11 {d : Nat} {m : Nat → Nat → Int} {q : Nat → Nat → Option Nat} {w : Option (Nat → Int64)} {u0 u1 : Option Value}   : gv d rR234 11 [u0, u1] [] (mk m q w) =
    gv d rR234 16 [u0, u1] [.int (iI 1)] (mk m q w) := by
  refine Eq.trans (k_con rfl) ?_
  refine Eq.trans (k_go rfl rfl) ?_
  exact rfl
theorem b_234_16 {d : Nat} {m : Nat → Nat → Int} {q : Nat → Nat → Option Nat} {w : Option (Nat → Int64)} {u0 u1 : Option Value} {s0 : Int}  (g0 : iI s0 = iI 0 ∨ iI s0 = iI 1) : gv d rR234 16 [u0, u1] [.int (iI s0)] (mk m q w) =
    some (.inl (some (.int (iI s0))), (mk m q w, (0, 0))) := by
  exact k_rtZ rfl rfl g0
theorem e_234 {d : Nat} (hd : 1 ≤ d) {a0 a1 : Value} (M : rMem) (h0 : a0.category = 1) (h1 : a1.category = 1) : ev d 234 [a0, a1] M = gv (d - 1) rR234 0 [some a0, some a1] [] M := ev_at hd q_234 rfl (by simp [*]) rfl
/-! FanHouseModel.isShown(I)Z -/
theorem b_235_0 {d : Nat} {m : Nat → Nat → Int} {q : Nat → Nat → Option Nat} {w : Option (Nat → Int64)} {u2 u3 : Option Value} {v1 : Int}   : gv d rR235 0 [some (.ref 363), some (.int (iI v1)), u2, u3] [] (mk m q w) =
    if iI (m 363 15) < iI (m 381 0) then (gv d rR235 18 [some (.ref 363), some (.int (iI v1)), u2, u3] [.int (iI 0)] (mk m q w)) else (gv d rR235 18 [some (.ref 363), some (.int (iI v1)), u2, u3] [.int (iI 1)] (mk m q w)) := by
  refine Eq.trans (k_ald0 rfl) ?_
  refine Eq.trans (k_gtR rfl s_363 rfl (by decide)) ?_
  refine Eq.trans (k_con rfl) ?_
  refine Eq.trans (k_iald rfl s_381 (bl rfl) (by decide) (by decide)) ?_
  refine Eq.trans (k_ald0 rfl) ?_
  refine Eq.trans (k_gtI rfl s_363 rfl (by decide)) ?_
  refine Eq.trans (k_i2gt rfl rfl) ?_
  refine ifc ?_ ?_
  · refine Eq.trans (k_con rfl) ?_
    exact rfl
  · refine Eq.trans (k_con rfl) ?_
    refine Eq.trans (k_go rfl rfl) ?_
    exact rfl
theorem b_235_18 {d : Nat} {m : Nat → Nat → Int} {q : Nat → Nat → Option Nat} {w : Option (Nat → Int64)} {u2 u3 : Option Value} {v1 s0 : Int}   : gv d rR235 18 [some (.ref 363), some (.int (iI v1)), u2, u3] [.int (iI s0)] (mk m q w) =
    gv d rR235 21 [some (.ref 363), some (.int (iI v1)), some (.int (iI s0)), some (.int (iI 0))] [] (mk m q w) := by
  refine Eq.trans (k_ist2 rfl) ?_
  refine Eq.trans (k_con rfl) ?_
  refine Eq.trans (k_ist3 rfl) ?_
  exact rfl
theorem b_235_21 {d : Nat} {m : Nat → Nat → Int} {q : Nat → Nat → Option Nat} {w : Option (Nat → Int64)} {v1 v2 v3 : Int}   : gv d rR235 21 [some (.ref 363), some (.int (iI v1)), some (.int (iI v2)), some (.int (iI v3))] [] (mk m q w) =
    if iI v3 < iI (m 363 15) then (if iI v2 = iI 0 then (gv d rR235 64 [some (.ref 363), some (.int (iI v1)), some (.int (iI v2)), some (.int (iI v3))] [] (mk m q w)) else (rBd (ev d 233 [.ref 363, .int (iI 0), .int (iI v1), .int (iI v3)] (mk m q w)) (fun v M' => gv d rR235 40 [some (.ref 363), some (.int (iI v1)), some (.int (iI v2)), some (.int (iI v3))] (v.toList ++ []) M'))) else (gv d rR235 72 [some (.ref 363), some (.int (iI v1)), some (.int (iI v2)), some (.int (iI v3))] [] (mk m q w)) := by
  refine Eq.trans (k_ild3 rfl) ?_
  refine Eq.trans (k_ald0 rfl) ?_
  refine Eq.trans (k_gtI rfl s_363 rfl (by decide)) ?_
  refine Eq.trans (k_i2ge rfl rfl) ?_
  refine ifc ?_ ?_
  · refine Eq.trans (k_ild2 rfl) ?_
    refine Eq.trans (k_i1eq rfl rfl) ?_
    refine ifc ?_ ?_
    · exact rfl
    · refine Eq.trans (k_ald0 rfl) ?_
      refine Eq.trans (k_con rfl) ?_
      refine Eq.trans (k_ild1 rfl) ?_
      refine Eq.trans (k_ild3 rfl) ?_
      exact k_cV3 rfl s_363 q_233 rfl rfl rfl (bl rfl)
  · exact rfl
theorem b_235_40 {d : Nat} {m : Nat → Nat → Int} {q : Nat → Nat → Option Nat} {w : Option (Nat → Int64)} {u2 : Option Value} {v1 v3 s0 : Int}  (g0 : 0 ≤ (28 + v3)) (g1 : (28 + v3) < 48) : gv d rR235 40 [some (.ref 363), some (.int (iI v1)), u2, some (.int (iI v3))] [.int (iI s0)] (mk m q w) =
    rBd (ev d 209 [.ref 363, .int (iI (m 377 (Int.toNat (28 + v3)))), .int (iI v1)] (mk m q w)) (fun v M' => gv d rR235 54 [some (.ref 363), some (.int (iI v1)), u2, some (.int (iI v3))] (v.toList ++ [.int (iI s0)]) M') := by
  refine Eq.trans (k_ald0 rfl) ?_
  refine Eq.trans (k_ald0 rfl) ?_
  refine Eq.trans (k_gtR rfl s_363 rfl (by decide)) ?_
  refine Eq.trans (k_bip rfl (by decide)) ?_
  refine Eq.trans (k_ild3 rfl) ?_
  refine Eq.trans (k_add rfl) ?_
  refine Eq.trans (k_iald rfl s_377 (bl rfl) g0 g1) ?_
  refine Eq.trans (k_ild1 rfl) ?_
  exact k_cV2 rfl s_363 q_209 rfl rfl rfl (bl rfl)
theorem b_235_54 {d : Nat} {m : Nat → Nat → Int} {q : Nat → Nat → Option Nat} {w : Option (Nat → Int64)} {u2 : Option Value} {v1 v3 s0 s1 : Int}   : gv d rR235 54 [some (.ref 363), some (.int (iI v1)), u2, some (.int (iI v3))] [.int (iI s1), .int (iI s0)] (mk m q w) =
    rBd (ev d 234 [.int (iI s0), .int (iI s1)] (mk m q w)) (fun v M' => gv d rR235 57 [some (.ref 363), some (.int (iI v1)), u2, some (.int (iI v3))] (v.toList ++ []) M') := by
  exact k_cS2 rfl (by decide) q_234 rfl rfl (bl rfl)
theorem b_235_57 {d : Nat} {m : Nat → Nat → Int} {q : Nat → Nat → Option Nat} {w : Option (Nat → Int64)} {u2 : Option Value} {v1 v3 s0 : Int}   : gv d rR235 57 [some (.ref 363), some (.int (iI v1)), u2, some (.int (iI v3))] [.int (iI s0)] (mk m q w) =
    if iI s0 = iI 0 then (gv d rR235 64 [some (.ref 363), some (.int (iI v1)), u2, some (.int (iI v3))] [] (mk m q w)) else (gv d rR235 65 [some (.ref 363), some (.int (iI v1)), u2, some (.int (iI v3))] [.int (iI 1)] (mk m q w)) := by
  refine Eq.trans (k_i1eq rfl rfl) ?_
  refine ifc ?_ ?_
  · exact rfl
  · refine Eq.trans (k_con rfl) ?_
    refine Eq.trans (k_go rfl rfl) ?_
    exact rfl
theorem b_235_64 {d : Nat} {m : Nat → Nat → Int} {q : Nat → Nat → Option Nat} {w : Option (Nat → Int64)} {u2 : Option Value} {v1 v3 : Int}   : gv d rR235 64 [some (.ref 363), some (.int (iI v1)), u2, some (.int (iI v3))] [] (mk m q w) =
    gv d rR235 65 [some (.ref 363), some (.int (iI v1)), u2, some (.int (iI v3))] [.int (iI 0)] (mk m q w) := by
  refine Eq.trans (k_con rfl) ?_
  exact rfl
theorem b_235_65 {d : Nat} {m : Nat → Nat → Int} {q : Nat → Nat → Option Nat} {w : Option (Nat → Int64)} {u2 : Option Value} {v1 v3 s0 : Int}   : gv d rR235 65 [some (.ref 363), some (.int (iI v1)), u2, some (.int (iI v3))] [.int (iI s0)] (mk m q w) =
    gv d rR235 21 [some (.ref 363), some (.int (iI v1)), some (.int (iI s0)), some (.int (iI (v3 + 1)))] [] (mk m q w) := by
  refine Eq.trans (k_ist2 rfl) ?_
  refine Eq.trans (k_inc3 rfl) ?_
  refine Eq.trans (k_go rfl rfl) ?_
  exact rfl
theorem b_235_72 {d : Nat} {m : Nat → Nat → Int} {q : Nat → Nat → Option Nat} {w : Option (Nat → Int64)} {u0 u1 u3 : Option Value} {v2 : Int}  (g0 : iI v2 = iI 0 ∨ iI v2 = iI 1) : gv d rR235 72 [u0, u1, some (.int (iI v2)), u3] [] (mk m q w) =
    some (.inl (some (.int (iI v2))), (mk m q w, (0, 0))) := by
  refine Eq.trans (k_ild2 rfl) ?_
  exact k_rtZ rfl rfl g0
theorem e_235 {d : Nat} (hd : 1 ≤ d) {a0 a1 : Value} (M : rMem) (h0 : a0.category = 1) (h1 : a1.category = 1) : ev d 235 [a0, a1] M = gv (d - 1) rR235 0 [some a0, some a1, none, none] [] M := ev_at hd q_235 rfl (by simp [*]) rfl
/-! FanHouseModel.shows(I)Z -/
theorem b_236_0 {d : Nat} {m : Nat → Nat → Int} {q : Nat → Nat → Option Nat} {w : Option (Nat → Int64)} {v1 : Int}   : gv d rR236 0 [some (.ref 363), some (.int (iI v1))] [] (mk m q w) =
    rBd (ev d 224 [.int (iI v1)] (mk (wr m 363 0 0) q w)) (fun v M' => gv d rR236 10 [some (.ref 363), some (.int (iI v1))] (v.toList ++ [.ref 363]) M') := by
  refine Eq.trans (k_ald0 rfl) ?_
  refine Eq.trans (k_con rfl) ?_
  refine Eq.trans (k_ptI rfl s_363 rfl rfl) ?_
  refine Eq.trans (k_ald0 rfl) ?_
  refine Eq.trans (k_ild1 rfl) ?_
  exact k_cS1 rfl (by decide) q_224 rfl rfl (bl rfl)
theorem b_236_10 {d : Nat} {m : Nat → Nat → Int} {q : Nat → Nat → Option Nat} {w : Option (Nat → Int64)} {v1 s1 : Int}   : gv d rR236 10 [some (.ref 363), some (.int (iI v1))] [.int (iI s1), .ref 363] (mk m q w) =
    rBd (ev d 160 [.ref 363, .int (iI s1), .int (iI 1), .int (iI 1)] (mk m q w)) (fun v M' => gv d rR236 15 [some (.ref 363), some (.int (iI v1))] (v.toList ++ []) M') := by
  refine Eq.trans (k_con rfl) ?_
  refine Eq.trans (k_con rfl) ?_
  exact k_cV3 rfl s_363 q_160 rfl rfl rfl (bl rfl)
theorem b_236_15 {d : Nat} {m : Nat → Nat → Int} {q : Nat → Nat → Option Nat} {w : Option (Nat → Int64)} {v1 s0 : Int}   : gv d rR236 15 [some (.ref 363), some (.int (iI v1))] [.int (iI s0)] (mk m q w) =
    if iI s0 = iI 0 then (some (.inl (some (.int (iI 0))), (mk m q w, (0, 0)))) else (rBd (ev d 200 [.ref 363] (mk m q w)) (fun v M' => gv d rR236 24 [some (.ref 363), some (.int (iI v1))] (v.toList ++ []) M')) := by
  refine Eq.trans (k_i1ne rfl rfl) ?_
  refine ifc ?_ ?_
  · refine Eq.trans (k_con rfl) ?_
    exact k_rtZ rfl rfl (Or.inl rfl)
  · refine Eq.trans (k_ald0 rfl) ?_
    exact k_cV0 rfl s_363 q_200 rfl rfl rfl (bl rfl)
theorem b_236_24 {d : Nat} {m : Nat → Nat → Int} {q : Nat → Nat → Option Nat} {w : Option (Nat → Int64)} {v1 : Int}   : gv d rR236 24 [some (.ref 363), some (.int (iI v1))] [] (mk m q w) =
    rBd (ev d 235 [.ref 363, .int (iI v1)] (mk m q w)) (fun v M' => gv d rR236 29 [some (.ref 363), some (.int (iI v1))] (v.toList ++ []) M') := by
  refine Eq.trans (k_ald0 rfl) ?_
  refine Eq.trans (k_ild1 rfl) ?_
  exact k_cV1 rfl s_363 q_235 rfl rfl rfl (bl rfl)
theorem b_236_29 {d : Nat} {m : Nat → Nat → Int} {q : Nat → Nat → Option Nat} {w : Option (Nat → Int64)} {u0 u1 : Option Value} {s0 : Int}  (g0 : iI s0 = iI 0 ∨ iI s0 = iI 1) : gv d rR236 29 [u0, u1] [.int (iI s0)] (mk m q w) =
    some (.inl (some (.int (iI s0))), (mk m q w, (0, 0))) := by
  exact k_rtZ rfl rfl g0
theorem e_236 {d : Nat} (hd : 1 ≤ d) {a0 a1 : Value} (M : rMem) (h0 : a0.category = 1) (h1 : a1.category = 1) : ev d 236 [a0, a1] M = gv (d - 1) rR236 0 [some a0, some a1] [] M := ev_at hd q_236 rfl (by simp [*]) rfl
/-! FanHouseModel.ones(I)I -/
theorem b_237_0 {d : Nat} {m : Nat → Nat → Int} {q : Nat → Nat → Option Nat} {w : Option (Nat → Int64)} {u1 u2 : Option Value} {v0 : Int}   : gv d rR237 0 [some (.int (iI v0)), u1, u2] [] (mk m q w) =
    gv d rR237 4 [some (.int (iI v0)), some (.int (iI 0)), some (.int (iI 0))] [] (mk m q w) := by
  refine Eq.trans (k_con rfl) ?_
  refine Eq.trans (k_ist1 rfl) ?_
  refine Eq.trans (k_con rfl) ?_
  refine Eq.trans (k_ist2 rfl) ?_
  exact rfl
theorem b_237_4 {d : Nat} {m : Nat → Nat → Int} {q : Nat → Nat → Option Nat} {w : Option (Nat → Int64)} {v0 v1 v2 : Int}   : gv d rR237 4 [some (.int (iI v0)), some (.int (iI v1)), some (.int (iI v2))] [] (mk m q w) =
    if iI v2 < iI 7 then (gv d rR237 4 [some (.int (iI v0)), some (.int (iI (v1 + (zAnd (zShr v0 v2) 1)))), some (.int (iI (v2 + 1)))] [] (mk m q w)) else (some (.inl (some (.int (iI v1))), (mk m q w, (0, 0)))) := by
  refine Eq.trans (k_ild2 rfl) ?_
  refine Eq.trans (k_bip rfl (by decide)) ?_
  refine Eq.trans (k_i2ge rfl rfl) ?_
  refine ifc ?_ ?_
  · refine Eq.trans (k_ild1 rfl) ?_
    refine Eq.trans (k_ild0 rfl) ?_
    refine Eq.trans (k_ild2 rfl) ?_
    refine Eq.trans (k_shr rfl) ?_
    refine Eq.trans (k_con rfl) ?_
    refine Eq.trans (k_and rfl) ?_
    refine Eq.trans (k_add rfl) ?_
    refine Eq.trans (k_ist1 rfl) ?_
    refine Eq.trans (k_inc2 rfl) ?_
    refine Eq.trans (k_go rfl rfl) ?_
    exact rfl
  · refine Eq.trans (k_ild1 rfl) ?_
    exact k_rtI rfl rfl
theorem e_237 {d : Nat} (hd : 1 ≤ d) {a0 : Value} (M : rMem) (h0 : a0.category = 1) : ev d 237 [a0] M = gv (d - 1) rR237 0 [some a0, none, none] [] M := ev_at hd q_237 rfl (by simp [*]) rfl
/-! FanHouseModel.mayLie(IIIII)Z -/
theorem b_238_0 {d : Nat} {m : Nat → Nat → Int} {q : Nat → Nat → Option Nat} {w : Option (Nat → Int64)} {v1 v2 v3 v4 v5 : Int}   : gv d rR238 0 [some (.ref 363), some (.int (iI v1)), some (.int (iI v2)), some (.int (iI v3)), some (.int (iI v4)), some (.int (iI v5))] [] (mk m q w) =
    rBd (ev d 233 [.ref 363, .int (iI 0), .int (iI v4), .int (iI v3)] (mk m q w)) (fun v M' => gv d rR238 8 [some (.ref 363), some (.int (iI v1)), some (.int (iI v2)), some (.int (iI v3)), some (.int (iI v4)), some (.int (iI v5))] (v.toList ++ []) M') := by
  refine Eq.trans (k_ald0 rfl) ?_
  refine Eq.trans (k_con rfl) ?_
  refine Eq.trans (k_ild4 rfl) ?_
  refine Eq.trans (k_ild3 rfl) ?_
  exact k_cV3 rfl s_363 q_233 rfl rfl rfl (bl rfl)
theorem b_238_8 {d : Nat} {m : Nat → Nat → Int} {q : Nat → Nat → Option Nat} {w : Option (Nat → Int64)} {v1 v2 v3 v4 v5 s0 : Int}   : gv d rR238 8 [some (.ref 363), some (.int (iI v1)), some (.int (iI v2)), some (.int (iI v3)), some (.int (iI v4)), some (.int (iI v5))] [.int (iI s0)] (mk m q w) =
    rBd (ev d 208 [.ref 363, .int (iI v1), .int (iI v2), .int (iI v4)] (mk m q w)) (fun v M' => gv d rR238 16 [some (.ref 363), some (.int (iI v1)), some (.int (iI v2)), some (.int (iI v3)), some (.int (iI v4)), some (.int (iI v5))] (v.toList ++ [.int (iI s0)]) M') := by
  refine Eq.trans (k_ald0 rfl) ?_
  refine Eq.trans (k_ild1 rfl) ?_
  refine Eq.trans (k_ild2 rfl) ?_
  refine Eq.trans (k_ild4 rfl) ?_
  exact k_cV3 rfl s_363 q_208 rfl rfl rfl (bl rfl)
theorem b_238_16 {d : Nat} {m : Nat → Nat → Int} {q : Nat → Nat → Option Nat} {w : Option (Nat → Int64)} {u4 : Option Value} {v1 v2 v3 v5 s0 s1 : Int}   : gv d rR238 16 [some (.ref 363), some (.int (iI v1)), some (.int (iI v2)), some (.int (iI v3)), u4, some (.int (iI v5))] [.int (iI s1), .int (iI s0)] (mk m q w) =
    rBd (ev d 234 [.int (iI s0), .int (iI s1)] (mk m q w)) (fun v M' => gv d rR238 19 [some (.ref 363), some (.int (iI v1)), some (.int (iI v2)), some (.int (iI v3)), u4, some (.int (iI v5))] (v.toList ++ []) M') := by
  exact k_cS2 rfl (by decide) q_234 rfl rfl (bl rfl)
theorem b_238_19 {d : Nat} {m : Nat → Nat → Int} {q : Nat → Nat → Option Nat} {w : Option (Nat → Int64)} {u4 : Option Value} {v1 v2 v3 v5 s0 : Int}   : gv d rR238 19 [some (.ref 363), some (.int (iI v1)), some (.int (iI v2)), some (.int (iI v3)), u4, some (.int (iI v5))] [.int (iI s0)] (mk m q w) =
    if iI s0 = iI 0 then (gv d rR238 54 [some (.ref 363), some (.int (iI v1)), some (.int (iI v2)), some (.int (iI v3)), u4, some (.int (iI v5))] [] (mk m q w)) else (if iI v5 = iI (-1) then (gv d rR238 50 [some (.ref 363), some (.int (iI v1)), some (.int (iI v2)), some (.int (iI v3)), u4, some (.int (iI v5))] [] (mk m q w)) else (rBd (ev d 233 [.ref 363, .int (iI 1), .int (iI v5), .int (iI v3)] (mk m q w)) (fun v M' => gv d rR238 36 [some (.ref 363), some (.int (iI v1)), some (.int (iI v2)), some (.int (iI v3)), u4, some (.int (iI v5))] (v.toList ++ []) M'))) := by
  refine Eq.trans (k_i1eq rfl rfl) ?_
  refine ifc ?_ ?_
  · exact rfl
  · refine Eq.trans (k_ild5 rfl) ?_
    refine Eq.trans (k_con rfl) ?_
    refine Eq.trans (k_i2eq rfl rfl) ?_
    refine ifc ?_ ?_
    · exact rfl
    · refine Eq.trans (k_ald0 rfl) ?_
      refine Eq.trans (k_con rfl) ?_
      refine Eq.trans (k_ild5 rfl) ?_
      refine Eq.trans (k_ild3 rfl) ?_
      exact k_cV3 rfl s_363 q_233 rfl rfl rfl (bl rfl)
theorem b_238_36 {d : Nat} {m : Nat → Nat → Int} {q : Nat → Nat → Option Nat} {w : Option (Nat → Int64)} {u3 u4 : Option Value} {v1 v2 v5 s0 : Int}   : gv d rR238 36 [some (.ref 363), some (.int (iI v1)), some (.int (iI v2)), u3, u4, some (.int (iI v5))] [.int (iI s0)] (mk m q w) =
    rBd (ev d 208 [.ref 363, .int (iI v1), .int (iI v2), .int (iI v5)] (mk m q w)) (fun v M' => gv d rR238 44 [some (.ref 363), some (.int (iI v1)), some (.int (iI v2)), u3, u4, some (.int (iI v5))] (v.toList ++ [.int (iI s0)]) M') := by
  refine Eq.trans (k_ald0 rfl) ?_
  refine Eq.trans (k_ild1 rfl) ?_
  refine Eq.trans (k_ild2 rfl) ?_
  refine Eq.trans (k_ild5 rfl) ?_
  exact k_cV3 rfl s_363 q_208 rfl rfl rfl (bl rfl)
theorem b_238_44 {d : Nat} {m : Nat → Nat → Int} {q : Nat → Nat → Option Nat} {w : Option (Nat → Int64)} {u0 u1 u2 u3 u4 u5 : Option Value} {s0 s1 : Int}   : gv d rR238 44 [u0, u1, u2, u3, u4, u5] [.int (iI s1), .int (iI s0)] (mk m q w) =
    rBd (ev d 234 [.int (iI s0), .int (iI s1)] (mk m q w)) (fun v M' => gv d rR238 47 [u0, u1, u2, u3, u4, u5] (v.toList ++ []) M') := by
  exact k_cS2 rfl (by decide) q_234 rfl rfl (bl rfl)
theorem b_238_47 {d : Nat} {m : Nat → Nat → Int} {q : Nat → Nat → Option Nat} {w : Option (Nat → Int64)} {u0 u1 u2 u3 u4 u5 : Option Value} {s0 : Int}   : gv d rR238 47 [u0, u1, u2, u3, u4, u5] [.int (iI s0)] (mk m q w) =
    if iI s0 = iI 0 then (gv d rR238 54 [u0, u1, u2, u3, u4, u5] [] (mk m q w)) else (gv d rR238 50 [u0, u1, u2, u3, u4, u5] [] (mk m q w)) := by
  refine Eq.trans (k_i1eq rfl rfl) ?_
  refine ifc ?_ ?_
  · exact rfl
  · exact rfl
theorem b_238_50 {d : Nat} {m : Nat → Nat → Int} {q : Nat → Nat → Option Nat} {w : Option (Nat → Int64)} {u0 u1 u2 u3 u4 u5 : Option Value}   : gv d rR238 50 [u0, u1, u2, u3, u4, u5] [] (mk m q w) =
    gv d rR238 55 [u0, u1, u2, u3, u4, u5] [.int (iI 1)] (mk m q w) := by
  refine Eq.trans (k_con rfl) ?_
  refine Eq.trans (k_go rfl rfl) ?_
  exact rfl
theorem b_238_54 {d : Nat} {m : Nat → Nat → Int} {q : Nat → Nat → Option Nat} {w : Option (Nat → Int64)} {u0 u1 u2 u3 u4 u5 : Option Value}   : gv d rR238 54 [u0, u1, u2, u3, u4, u5] [] (mk m q w) =
    gv d rR238 55 [u0, u1, u2, u3, u4, u5] [.int (iI 0)] (mk m q w) := by
  refine Eq.trans (k_con rfl) ?_
  exact rfl
theorem b_238_55 {d : Nat} {m : Nat → Nat → Int} {q : Nat → Nat → Option Nat} {w : Option (Nat → Int64)} {u0 u1 u2 u3 u4 u5 : Option Value} {s0 : Int}  (g0 : iI s0 = iI 0 ∨ iI s0 = iI 1) : gv d rR238 55 [u0, u1, u2, u3, u4, u5] [.int (iI s0)] (mk m q w) =
    some (.inl (some (.int (iI s0))), (mk m q w, (0, 0))) := by
  exact k_rtZ rfl rfl g0
theorem e_238 {d : Nat} (hd : 1 ≤ d) {a0 a1 a2 a3 a4 a5 : Value} (M : rMem) (h0 : a0.category = 1) (h1 : a1.category = 1) (h2 : a2.category = 1) (h3 : a3.category = 1) (h4 : a4.category = 1) (h5 : a5.category = 1) : ev d 238 [a0, a1, a2, a3, a4, a5] M = gv (d - 1) rR238 0 [some a0, some a1, some a2, some a3, some a4, some a5] [] M := ev_at hd q_238 rfl (by simp [*]) rfl
/-! FanHouseModel.laysWays(II)I -/
theorem b_239_0 {d : Nat} {m : Nat → Nat → Int} {q : Nat → Nat → Option Nat} {w : Option (Nat → Int64)} {u3 u4 u5 u6 u7 : Option Value} {v1 v2 : Int}   : gv d rR239 0 [some (.ref 363), some (.int (iI v1)), some (.int (iI v2)), u3, u4, u5, u6, u7] [] (mk m q w) =
    if iI (m 363 15) < iI (m 381 0) then (gv d rR239 31 [some (.ref 363), some (.int (iI v1)), some (.int (iI v2)), u3, u4, u5, u6, u7] [] (mk m q w)) else (if iI v2 = iI (-1) then (gv d rR239 55 [some (.ref 363), some (.int (iI v1)), some (.int (iI v2)), u3, u4, u5, u6, u7] [] (mk m q w)) else (if iI (m 363 15) < iI (m 381 1) then (gv d rR239 31 [some (.ref 363), some (.int (iI v1)), some (.int (iI v2)), u3, u4, u5, u6, u7] [] (mk m q w)) else (gv d rR239 55 [some (.ref 363), some (.int (iI v1)), some (.int (iI v2)), u3, u4, u5, u6, u7] [] (mk m q w)))) := by
  refine Eq.trans (k_ald0 rfl) ?_
  refine Eq.trans (k_gtR rfl s_363 rfl (by decide)) ?_
  refine Eq.trans (k_con rfl) ?_
  refine Eq.trans (k_iald rfl s_381 (bl rfl) (by decide) (by decide)) ?_
  refine Eq.trans (k_ald0 rfl) ?_
  refine Eq.trans (k_gtI rfl s_363 rfl (by decide)) ?_
  refine Eq.trans (k_i2gt rfl rfl) ?_
  refine ifc ?_ ?_
  · exact rfl
  · refine Eq.trans (k_ild2 rfl) ?_
    refine Eq.trans (k_con rfl) ?_
    refine Eq.trans (k_i2eq rfl rfl) ?_
    refine ifc ?_ ?_
    · exact rfl
    · refine Eq.trans (k_ald0 rfl) ?_
      refine Eq.trans (k_gtR rfl s_363 rfl (by decide)) ?_
      refine Eq.trans (k_con rfl) ?_
      refine Eq.trans (k_iald rfl s_381 (bl rfl) (by decide) (by decide)) ?_
      refine Eq.trans (k_ald0 rfl) ?_
      refine Eq.trans (k_gtI rfl s_363 rfl (by decide)) ?_
      refine Eq.trans (k_i2le rfl rfl) ?_
      refine ifc ?_ ?_
      · exact rfl
      · exact rfl
theorem b_239_31 {d : Nat} {m : Nat → Nat → Int} {q : Nat → Nat → Option Nat} {w : Option (Nat → Int64)} {u1 u2 u3 u4 u5 u6 u7 : Option Value}   : gv d rR239 31 [some (.ref 363), u1, u2, u3, u4, u5, u6, u7] [] (mk m q w) =
    gv d rR239 33 [some (.ref 363), u1, u2, some (.int (iI 0)), u4, u5, u6, u7] [] (mk m q w) := by
  refine Eq.trans (k_con rfl) ?_
  refine Eq.trans (k_ist3 rfl) ?_
  exact rfl
theorem b_239_33 {d : Nat} {m : Nat → Nat → Int} {q : Nat → Nat → Option Nat} {w : Option (Nat → Int64)} {u1 u2 u4 u5 u6 u7 : Option Value} {v3 : Int}   : gv d rR239 33 [some (.ref 363), u1, u2, some (.int (iI v3)), u4, u5, u6, u7] [] (mk m q w) =
    if iI v3 < iI 128 then (gv d rR239 40 [some (.ref 363), u1, u2, some (.int (iI v3)), u4, u5, u6, u7] [] (mk m q w)) else (some (.inl (some (.int (iI 0))), (mk m q w, (0, 0)))) := by
  refine Eq.trans (k_ild3 rfl) ?_
  refine Eq.trans (k_sip rfl (by decide)) ?_
  refine Eq.trans (k_i2ge rfl rfl) ?_
  refine ifc ?_ ?_
  · exact rfl
  · refine Eq.trans (k_con rfl) ?_
    exact k_rtI rfl rfl
theorem b_239_40 {d : Nat} {m : Nat → Nat → Int} {q : Nat → Nat → Option Nat} {w : Option (Nat → Int64)} {u1 u2 u4 u5 u6 u7 : Option Value} {v3 : Int}  (g0 : 0 ≤ v3) (g1 : v3 < 128) : gv d rR239 40 [some (.ref 363), u1, u2, some (.int (iI v3)), u4, u5, u6, u7] [] (mk m q w) =
    gv d rR239 33 [some (.ref 363), u1, u2, some (.int (iI (v3 + 1))), u4, u5, u6, u7] [] (mk (wr m 384 (Int.toNat v3) 0) q w) := by
  refine Eq.trans (k_ald0 rfl) ?_
  refine Eq.trans (k_gtR rfl s_363 rfl (by decide)) ?_
  refine Eq.trans (k_ild3 rfl) ?_
  refine Eq.trans (k_con rfl) ?_
  refine Eq.trans (k_iast rfl s_384 (bl rfl) g0 g1) ?_
  refine Eq.trans (k_inc3 rfl) ?_
  refine Eq.trans (k_go rfl rfl) ?_
  exact rfl
theorem b_239_55 {d : Nat} {m : Nat → Nat → Int} {q : Nat → Nat → Option Nat} {w : Option (Nat → Int64)} {u3 u4 u5 u6 u7 : Option Value} {v1 v2 : Int}   : gv d rR239 55 [some (.ref 363), some (.int (iI v1)), some (.int (iI v2)), u3, u4, u5, u6, u7] [] (mk m q w) =
    gv d rR239 64 [some (.ref 363), some (.int (iI v1)), some (.int (iI v2)), some (.int (iI 1)), u4, u5, u6, u7] [] (mk (wr m 384 0 1) q w) := by
  refine Eq.trans (k_ald0 rfl) ?_
  refine Eq.trans (k_gtR rfl s_363 rfl (by decide)) ?_
  refine Eq.trans (k_con rfl) ?_
  refine Eq.trans (k_con rfl) ?_
  refine Eq.trans (k_iast rfl s_384 (bl rfl) (by decide) (by decide)) ?_
  refine Eq.trans (k_con rfl) ?_
  refine Eq.trans (k_ist3 rfl) ?_
  exact rfl
theorem b_239_64 {d : Nat} {m : Nat → Nat → Int} {q : Nat → Nat → Option Nat} {w : Option (Nat → Int64)} {u4 u5 u6 u7 : Option Value} {v1 v2 v3 : Int}   : gv d rR239 64 [some (.ref 363), some (.int (iI v1)), some (.int (iI v2)), some (.int (iI v3)), u4, u5, u6, u7] [] (mk m q w) =
    if iI v3 < iI (zShl 1 (m 363 15)) then (rBd (ev d 237 [.int (iI v3)] (mk m q w)) (fun v M' => gv d rR239 82 [some (.ref 363), some (.int (iI v1)), some (.int (iI v2)), some (.int (iI v3)), u4, u5, u6, u7] (v.toList ++ [.int (iI (m 363 15))]) M')) else (gv d rR239 184 [some (.ref 363), some (.int (iI v1)), some (.int (iI v2)), some (.int (iI v3)), u4, u5, u6, u7] [] (mk m q w)) := by
  refine Eq.trans (k_ild3 rfl) ?_
  refine Eq.trans (k_con rfl) ?_
  refine Eq.trans (k_ald0 rfl) ?_
  refine Eq.trans (k_gtI rfl s_363 rfl (by decide)) ?_
  refine Eq.trans (k_shl rfl) ?_
  refine Eq.trans (k_i2ge rfl rfl) ?_
  refine ifc ?_ ?_
  · refine Eq.trans (k_ald0 rfl) ?_
    refine Eq.trans (k_gtI rfl s_363 rfl (by decide)) ?_
    refine Eq.trans (k_ild3 rfl) ?_
    exact k_cS1 rfl (by decide) q_237 rfl rfl (bl rfl)
  · exact rfl
theorem b_239_82 {d : Nat} {m : Nat → Nat → Int} {q : Nat → Nat → Option Nat} {w : Option (Nat → Int64)} {u4 u5 u6 u7 : Option Value} {v1 v2 v3 s0 s1 : Int}   : gv d rR239 82 [some (.ref 363), some (.int (iI v1)), some (.int (iI v2)), some (.int (iI v3)), u4, u5, u6, u7] [.int (iI s1), .int (iI s0)] (mk m q w) =
    gv d rR239 91 [some (.ref 363), some (.int (iI v1)), some (.int (iI v2)), some (.int (iI v3)), some (.int (iI (s0 - s1))), some (.int (iI 0)), some (.int (iI 0)), u7] [] (mk m q w) := by
  refine Eq.trans (k_sub rfl) ?_
  refine Eq.trans (k_ist4 rfl) ?_
  refine Eq.trans (k_con rfl) ?_
  refine Eq.trans (k_ist5 rfl) ?_
  refine Eq.trans (k_con rfl) ?_
  refine Eq.trans (k_ist6 rfl) ?_
  exact rfl
theorem b_239_91 {d : Nat} {m : Nat → Nat → Int} {q : Nat → Nat → Option Nat} {w : Option (Nat → Int64)} {u7 : Option Value} {v1 v2 v3 v4 v5 v6 : Int}   : gv d rR239 91 [some (.ref 363), some (.int (iI v1)), some (.int (iI v2)), some (.int (iI v3)), some (.int (iI v4)), some (.int (iI v5)), some (.int (iI v6)), u7] [] (mk m q w) =
    if iI v6 < iI (m 363 15) then (if iI (zAnd (zShr v3 v6) 1) = iI 0 then (gv d rR239 164 [some (.ref 363), some (.int (iI v1)), some (.int (iI v2)), some (.int (iI v3)), some (.int (iI v4)), some (.int (iI v5)), some (.int (iI v6)), u7] [] (mk m q w)) else (gv d rR239 115 [some (.ref 363), some (.int (iI v1)), some (.int (iI v2)), some (.int (iI v3)), some (.int (iI v4)), some (.int (iI v5)), some (.int (iI v6)), some (.int (iI 0))] [] (mk m q w))) else (gv d rR239 170 [some (.ref 363), some (.int (iI v1)), some (.int (iI v2)), some (.int (iI v3)), some (.int (iI v4)), some (.int (iI v5)), some (.int (iI v6)), u7] [] (mk m q w)) := by
  refine Eq.trans (k_ild6 rfl) ?_
  refine Eq.trans (k_ald0 rfl) ?_
  refine Eq.trans (k_gtI rfl s_363 rfl (by decide)) ?_
  refine Eq.trans (k_i2ge rfl rfl) ?_
  refine ifc ?_ ?_
  · refine Eq.trans (k_ild3 rfl) ?_
    refine Eq.trans (k_ild6 rfl) ?_
    refine Eq.trans (k_shr rfl) ?_
    refine Eq.trans (k_con rfl) ?_
    refine Eq.trans (k_and rfl) ?_
    refine Eq.trans (k_i1ne rfl rfl) ?_
    refine ifc ?_ ?_
    · refine Eq.trans (k_go rfl rfl) ?_
      exact rfl
    · refine Eq.trans (k_con rfl) ?_
      refine Eq.trans (k_ist7 rfl) ?_
      exact rfl
  · exact rfl
theorem b_239_115 {d : Nat} {m : Nat → Nat → Int} {q : Nat → Nat → Option Nat} {w : Option (Nat → Int64)} {v1 v2 v3 v4 v5 v6 v7 : Int}   : gv d rR239 115 [some (.ref 363), some (.int (iI v1)), some (.int (iI v2)), some (.int (iI v3)), some (.int (iI v4)), some (.int (iI v5)), some (.int (iI v6)), some (.int (iI v7))] [] (mk m q w) =
    if iI 1 < iI v7 then (gv d rR239 164 [some (.ref 363), some (.int (iI v1)), some (.int (iI v2)), some (.int (iI v3)), some (.int (iI v4)), some (.int (iI v5)), some (.int (iI v6)), some (.int (iI v7))] [] (mk m q w)) else (rBd (ev d 238 [.ref 363, .int (iI v6), .int (iI v7), .int (iI v4), .int (iI v1), .int (iI v2)] (mk m q w)) (fun v M' => gv d rR239 135 [some (.ref 363), some (.int (iI v1)), some (.int (iI v2)), some (.int (iI v3)), some (.int (iI v4)), some (.int (iI v5)), some (.int (iI v6)), some (.int (iI v7))] (v.toList ++ [.int (iI v5)]) M')) := by
  refine Eq.trans (k_ild7 rfl) ?_
  refine Eq.trans (k_con rfl) ?_
  refine Eq.trans (k_i2gt rfl rfl) ?_
  refine ifc ?_ ?_
  · exact rfl
  · refine Eq.trans (k_ild5 rfl) ?_
    refine Eq.trans (k_ald0 rfl) ?_
    refine Eq.trans (k_ild6 rfl) ?_
    refine Eq.trans (k_ild7 rfl) ?_
    refine Eq.trans (k_ild4 rfl) ?_
    refine Eq.trans (k_ild1 rfl) ?_
    refine Eq.trans (k_ild2 rfl) ?_
    exact k_cV5 rfl s_363 q_238 rfl rfl rfl (bl rfl)
theorem b_239_135 {d : Nat} {m : Nat → Nat → Int} {q : Nat → Nat → Option Nat} {w : Option (Nat → Int64)} {u5 : Option Value} {v1 v2 v3 v4 v6 v7 s0 s1 : Int}   : gv d rR239 135 [some (.ref 363), some (.int (iI v1)), some (.int (iI v2)), some (.int (iI v3)), some (.int (iI v4)), u5, some (.int (iI v6)), some (.int (iI v7))] [.int (iI s1), .int (iI s0)] (mk m q w) =
    if iI s1 = iI 0 then (gv d rR239 155 [some (.ref 363), some (.int (iI v1)), some (.int (iI v2)), some (.int (iI v3)), some (.int (iI v4)), u5, some (.int (iI v6)), some (.int (iI v7))] [.int (iI 0), .int (iI s0)] (mk m q w)) else (gv d rR239 138 [some (.ref 363), some (.int (iI v1)), some (.int (iI v2)), some (.int (iI v3)), some (.int (iI v4)), u5, some (.int (iI v6)), some (.int (iI v7))] [.int (iI s0)] (mk m q w)) := by
  refine Eq.trans (k_i1eq rfl rfl) ?_
  refine ifc ?_ ?_
  · refine Eq.trans (k_con rfl) ?_
    exact rfl
  · exact rfl
theorem b_239_138 {d : Nat} {m : Nat → Nat → Int} {q : Nat → Nat → Option Nat} {w : Option (Nat → Int64)} {u5 : Option Value} {v1 v2 v3 v4 v6 v7 s0 : Int}  (g0 : 0 ≤ (zAnd v3 (zXor (zShl 1 v6) (-1)))) (g1 : (zAnd v3 (zXor (zShl 1 v6) (-1))) < 128) : gv d rR239 138 [some (.ref 363), some (.int (iI v1)), some (.int (iI v2)), some (.int (iI v3)), some (.int (iI v4)), u5, some (.int (iI v6)), some (.int (iI v7))] [.int (iI s0)] (mk m q w) =
    gv d rR239 155 [some (.ref 363), some (.int (iI v1)), some (.int (iI v2)), some (.int (iI v3)), some (.int (iI v4)), u5, some (.int (iI v6)), some (.int (iI v7))] [.int (iI (m 384 (Int.toNat (zAnd v3 (zXor (zShl 1 v6) (-1)))))), .int (iI s0)] (mk m q w) := by
  refine Eq.trans (k_ald0 rfl) ?_
  refine Eq.trans (k_gtR rfl s_363 rfl (by decide)) ?_
  refine Eq.trans (k_ild3 rfl) ?_
  refine Eq.trans (k_con rfl) ?_
  refine Eq.trans (k_ild6 rfl) ?_
  refine Eq.trans (k_shl rfl) ?_
  refine Eq.trans (k_con rfl) ?_
  refine Eq.trans (k_xor rfl) ?_
  refine Eq.trans (k_and rfl) ?_
  refine Eq.trans (k_iald rfl s_384 (bl rfl) g0 g1) ?_
  refine Eq.trans (k_go rfl rfl) ?_
  exact rfl
theorem b_239_155 {d : Nat} {m : Nat → Nat → Int} {q : Nat → Nat → Option Nat} {w : Option (Nat → Int64)} {u5 : Option Value} {v1 v2 v3 v4 v6 v7 s0 s1 : Int}   : gv d rR239 155 [some (.ref 363), some (.int (iI v1)), some (.int (iI v2)), some (.int (iI v3)), some (.int (iI v4)), u5, some (.int (iI v6)), some (.int (iI v7))] [.int (iI s1), .int (iI s0)] (mk m q w) =
    gv d rR239 115 [some (.ref 363), some (.int (iI v1)), some (.int (iI v2)), some (.int (iI v3)), some (.int (iI v4)), some (.int (iI (s0 + s1))), some (.int (iI v6)), some (.int (iI (v7 + 1)))] [] (mk m q w) := by
  refine Eq.trans (k_add rfl) ?_
  refine Eq.trans (k_ist5 rfl) ?_
  refine Eq.trans (k_inc7 rfl) ?_
  refine Eq.trans (k_go rfl rfl) ?_
  exact rfl
theorem b_239_164 {d : Nat} {m : Nat → Nat → Int} {q : Nat → Nat → Option Nat} {w : Option (Nat → Int64)} {u7 : Option Value} {v1 v2 v3 v4 v5 v6 : Int}   : gv d rR239 164 [some (.ref 363), some (.int (iI v1)), some (.int (iI v2)), some (.int (iI v3)), some (.int (iI v4)), some (.int (iI v5)), some (.int (iI v6)), u7] [] (mk m q w) =
    gv d rR239 91 [some (.ref 363), some (.int (iI v1)), some (.int (iI v2)), some (.int (iI v3)), some (.int (iI v4)), some (.int (iI v5)), some (.int (iI (v6 + 1))), u7] [] (mk m q w) := by
  refine Eq.trans (k_inc6 rfl) ?_
  refine Eq.trans (k_go rfl rfl) ?_
  exact rfl
theorem b_239_170 {d : Nat} {m : Nat → Nat → Int} {q : Nat → Nat → Option Nat} {w : Option (Nat → Int64)} {u4 u6 u7 : Option Value} {v1 v2 v3 v5 : Int}  (g0 : 0 ≤ v3) (g1 : v3 < 128) : gv d rR239 170 [some (.ref 363), some (.int (iI v1)), some (.int (iI v2)), some (.int (iI v3)), u4, some (.int (iI v5)), u6, u7] [] (mk m q w) =
    gv d rR239 64 [some (.ref 363), some (.int (iI v1)), some (.int (iI v2)), some (.int (iI (v3 + 1))), u4, some (.int (iI v5)), u6, u7] [] (mk (wr m 384 (Int.toNat v3) v5) q w) := by
  refine Eq.trans (k_ald0 rfl) ?_
  refine Eq.trans (k_gtR rfl s_363 rfl (by decide)) ?_
  refine Eq.trans (k_ild3 rfl) ?_
  refine Eq.trans (k_ild5 rfl) ?_
  refine Eq.trans (k_iast rfl s_384 (bl rfl) g0 g1) ?_
  refine Eq.trans (k_inc3 rfl) ?_
  refine Eq.trans (k_go rfl rfl) ?_
  exact rfl
theorem b_239_184 {d : Nat} {m : Nat → Nat → Int} {q : Nat → Nat → Option Nat} {w : Option (Nat → Int64)} {u1 u2 u3 u4 u5 u6 u7 : Option Value}  (g0 : 0 ≤ ((zShl 1 (m 363 15)) - 1)) (g1 : ((zShl 1 (m 363 15)) - 1) < 128) : gv d rR239 184 [some (.ref 363), u1, u2, u3, u4, u5, u6, u7] [] (mk m q w) =
    some (.inl (some (.int (iI (m 384 (Int.toNat ((zShl 1 (m 363 15)) - 1)))))), (mk m q w, (0, 0))) := by
  refine Eq.trans (k_ald0 rfl) ?_
  refine Eq.trans (k_gtR rfl s_363 rfl (by decide)) ?_
  refine Eq.trans (k_con rfl) ?_
  refine Eq.trans (k_ald0 rfl) ?_
  refine Eq.trans (k_gtI rfl s_363 rfl (by decide)) ?_
  refine Eq.trans (k_shl rfl) ?_
  refine Eq.trans (k_con rfl) ?_
  refine Eq.trans (k_sub rfl) ?_
  refine Eq.trans (k_iald rfl s_384 (bl rfl) g0 g1) ?_
  exact k_rtI rfl rfl
theorem e_239 {d : Nat} (hd : 1 ≤ d) {a0 a1 a2 : Value} (M : rMem) (h0 : a0.category = 1) (h1 : a1.category = 1) (h2 : a2.category = 1) : ev d 239 [a0, a1, a2] M = gv (d - 1) rR239 0 [some a0, some a1, some a2, none, none, none, none, none] [] M := ev_at hd q_239 rfl (by simp [*]) rfl
/-! FanHouseModel.lays(I)I -/
theorem b_240_0 {d : Nat} {m : Nat → Nat → Int} {q : Nat → Nat → Option Nat} {w : Option (Nat → Int64)} {v1 : Int}   : gv d rR240 0 [some (.ref 363), some (.int (iI v1))] [] (mk m q w) =
    rBd (ev d 224 [.int (iI v1)] (mk (wr m 363 0 0) q w)) (fun v M' => gv d rR240 10 [some (.ref 363), some (.int (iI v1))] (v.toList ++ [.ref 363]) M') := by
  refine Eq.trans (k_ald0 rfl) ?_
  refine Eq.trans (k_con rfl) ?_
  refine Eq.trans (k_ptI rfl s_363 rfl rfl) ?_
  refine Eq.trans (k_ald0 rfl) ?_
  refine Eq.trans (k_ild1 rfl) ?_
  exact k_cS1 rfl (by decide) q_224 rfl rfl (bl rfl)
theorem b_240_10 {d : Nat} {m : Nat → Nat → Int} {q : Nat → Nat → Option Nat} {w : Option (Nat → Int64)} {v1 s1 : Int}   : gv d rR240 10 [some (.ref 363), some (.int (iI v1))] [.int (iI s1), .ref 363] (mk m q w) =
    rBd (ev d 160 [.ref 363, .int (iI s1), .int (iI 1), .int (iI 1)] (mk m q w)) (fun v M' => gv d rR240 15 [some (.ref 363), some (.int (iI v1))] (v.toList ++ []) M') := by
  refine Eq.trans (k_con rfl) ?_
  refine Eq.trans (k_con rfl) ?_
  exact k_cV3 rfl s_363 q_160 rfl rfl rfl (bl rfl)
theorem b_240_15 {d : Nat} {m : Nat → Nat → Int} {q : Nat → Nat → Option Nat} {w : Option (Nat → Int64)} {v1 s0 : Int}   : gv d rR240 15 [some (.ref 363), some (.int (iI v1))] [.int (iI s0)] (mk m q w) =
    if iI s0 = iI 0 then (some (.inl (some (.int (iI 0))), (mk m q w, (0, 0)))) else (rBd (ev d 200 [.ref 363] (mk m q w)) (fun v M' => gv d rR240 24 [some (.ref 363), some (.int (iI v1))] (v.toList ++ []) M')) := by
  refine Eq.trans (k_i1ne rfl rfl) ?_
  refine ifc ?_ ?_
  · refine Eq.trans (k_con rfl) ?_
    exact k_rtI rfl rfl
  · refine Eq.trans (k_ald0 rfl) ?_
    exact k_cV0 rfl s_363 q_200 rfl rfl rfl (bl rfl)
theorem b_240_24 {d : Nat} {m : Nat → Nat → Int} {q : Nat → Nat → Option Nat} {w : Option (Nat → Int64)} {v1 : Int}   : gv d rR240 24 [some (.ref 363), some (.int (iI v1))] [] (mk m q w) =
    rBd (ev d 239 [.ref 363, .int (iI v1), .int (iI (-1))] (mk m q w)) (fun v M' => gv d rR240 30 [some (.ref 363), some (.int (iI v1))] (v.toList ++ []) M') := by
  refine Eq.trans (k_ald0 rfl) ?_
  refine Eq.trans (k_ild1 rfl) ?_
  refine Eq.trans (k_con rfl) ?_
  exact k_cV2 rfl s_363 q_239 rfl rfl rfl (bl rfl)
theorem b_240_30 {d : Nat} {m : Nat → Nat → Int} {q : Nat → Nat → Option Nat} {w : Option (Nat → Int64)} {u0 u1 : Option Value} {s0 : Int}   : gv d rR240 30 [u0, u1] [.int (iI s0)] (mk m q w) =
    some (.inl (some (.int (iI s0))), (mk m q w, (0, 0))) := by
  exact k_rtI rfl rfl
theorem e_240 {d : Nat} (hd : 1 ≤ d) {a0 a1 : Value} (M : rMem) (h0 : a0.category = 1) (h1 : a1.category = 1) : ev d 240 [a0, a1] M = gv (d - 1) rR240 0 [some a0, some a1] [] M := ev_at hd q_240 rfl (by simp [*]) rfl
/-! FanHouseModel.laid(II)I -/
theorem b_241_0 {d : Nat} {m : Nat → Nat → Int} {q : Nat → Nat → Option Nat} {w : Option (Nat → Int64)} {u3 u4 u5 u6 : Option Value} {v1 v2 : Int}   : gv d rR241 0 [some (.ref 363), some (.int (iI v1)), some (.int (iI v2)), u3, u4, u5, u6] [] (mk m q w) =
    rBd (ev d 223 [.ref 363, .int (iI v2)] (mk (wr m 363 0 0) q w)) (fun v M' => gv d rR241 10 [some (.ref 363), some (.int (iI v1)), some (.int (iI v2)), u3, u4, u5, u6] (v.toList ++ []) M') := by
  refine Eq.trans (k_ald0 rfl) ?_
  refine Eq.trans (k_con rfl) ?_
  refine Eq.trans (k_ptI rfl s_363 rfl rfl) ?_
  refine Eq.trans (k_ald0 rfl) ?_
  refine Eq.trans (k_ild2 rfl) ?_
  exact k_cV1 rfl s_363 q_223 rfl rfl rfl (bl rfl)
theorem b_241_10 {d : Nat} {m : Nat → Nat → Int} {q : Nat → Nat → Option Nat} {w : Option (Nat → Int64)} {u3 u4 u5 u6 : Option Value} {v1 v2 s0 : Int}   : gv d rR241 10 [some (.ref 363), some (.int (iI v1)), some (.int (iI v2)), u3, u4, u5, u6] [.int (iI s0)] (mk m q w) =
    if iI s0 = iI 0 then (gv d rR241 26 [some (.ref 363), some (.int (iI v1)), some (.int (iI v2)), u3, u4, u5, u6] [] (mk m q w)) else (rBd (ev d 224 [.int (iI v1)] (mk m q w)) (fun v M' => gv d rR241 18 [some (.ref 363), some (.int (iI v1)), some (.int (iI v2)), u3, u4, u5, u6] (v.toList ++ [.ref 363]) M')) := by
  refine Eq.trans (k_i1eq rfl rfl) ?_
  refine ifc ?_ ?_
  · exact rfl
  · refine Eq.trans (k_ald0 rfl) ?_
    refine Eq.trans (k_ild1 rfl) ?_
    exact k_cS1 rfl (by decide) q_224 rfl rfl (bl rfl)
theorem b_241_18 {d : Nat} {m : Nat → Nat → Int} {q : Nat → Nat → Option Nat} {w : Option (Nat → Int64)} {u3 u4 u5 u6 : Option Value} {v1 v2 s1 : Int}   : gv d rR241 18 [some (.ref 363), some (.int (iI v1)), some (.int (iI v2)), u3, u4, u5, u6] [.int (iI s1), .ref 363] (mk m q w) =
    rBd (ev d 160 [.ref 363, .int (iI s1), .int (iI 2), .int (iI 1)] (mk m q w)) (fun v M' => gv d rR241 23 [some (.ref 363), some (.int (iI v1)), some (.int (iI v2)), u3, u4, u5, u6] (v.toList ++ []) M') := by
  refine Eq.trans (k_con rfl) ?_
  refine Eq.trans (k_con rfl) ?_
  exact k_cV3 rfl s_363 q_160 rfl rfl rfl (bl rfl)
theorem b_241_23 {d : Nat} {m : Nat → Nat → Int} {q : Nat → Nat → Option Nat} {w : Option (Nat → Int64)} {u3 u4 u5 u6 : Option Value} {v1 v2 s0 : Int}   : gv d rR241 23 [some (.ref 363), some (.int (iI v1)), some (.int (iI v2)), u3, u4, u5, u6] [.int (iI s0)] (mk m q w) =
    if iI s0 = iI 0 then (gv d rR241 26 [some (.ref 363), some (.int (iI v1)), some (.int (iI v2)), u3, u4, u5, u6] [] (mk m q w)) else (rBd (ev d 200 [.ref 363] (mk m q w)) (fun v M' => gv d rR241 32 [some (.ref 363), some (.int (iI v1)), some (.int (iI v2)), u3, u4, u5, u6] (v.toList ++ []) M')) := by
  refine Eq.trans (k_i1ne rfl rfl) ?_
  refine ifc ?_ ?_
  · exact rfl
  · refine Eq.trans (k_ald0 rfl) ?_
    exact k_cV0 rfl s_363 q_200 rfl rfl rfl (bl rfl)
theorem b_241_26 {d : Nat} {m : Nat → Nat → Int} {q : Nat → Nat → Option Nat} {w : Option (Nat → Int64)} {u0 u1 u2 u3 u4 u5 u6 : Option Value}   : gv d rR241 26 [u0, u1, u2, u3, u4, u5, u6] [] (mk m q w) =
    some (.inl (some (.int (iI 0))), (mk m q w, (0, 0))) := by
  refine Eq.trans (k_con rfl) ?_
  exact k_rtI rfl rfl
theorem b_241_32 {d : Nat} {m : Nat → Nat → Int} {q : Nat → Nat → Option Nat} {w : Option (Nat → Int64)} {u3 u4 u5 u6 : Option Value} {v1 v2 : Int}   : gv d rR241 32 [some (.ref 363), some (.int (iI v1)), some (.int (iI v2)), u3, u4, u5, u6] [] (mk m q w) =
    rBd (ev d 239 [.ref 363, .int (iI v1), .int (iI (-1))] (mk m q w)) (fun v M' => gv d rR241 38 [some (.ref 363), some (.int (iI v1)), some (.int (iI v2)), u3, u4, u5, u6] (v.toList ++ []) M') := by
  refine Eq.trans (k_ald0 rfl) ?_
  refine Eq.trans (k_ild1 rfl) ?_
  refine Eq.trans (k_con rfl) ?_
  exact k_cV2 rfl s_363 q_239 rfl rfl rfl (bl rfl)
theorem b_241_38 {d : Nat} {m : Nat → Nat → Int} {q : Nat → Nat → Option Nat} {w : Option (Nat → Int64)} {u3 u4 u5 u6 : Option Value} {v1 v2 s0 : Int}   : gv d rR241 38 [some (.ref 363), some (.int (iI v1)), some (.int (iI v2)), u3, u4, u5, u6] [.int (iI s0)] (mk m q w) =
    if iI s0 = iI 0 then (some (.inl (some (.int (iI (-1)))), (mk m q w, (0, 0)))) else (gv d rR241 58 [some (.ref 363), some (.int (iI v1)), some (.int (iI v2)), some (.int (iI ((zShl 1 (m 363 15)) - 1))), some (.int (iI (-1))), some (.int (iI 0)), u6] [] (mk m q w)) := by
  refine Eq.trans (k_i1ne rfl rfl) ?_
  refine ifc ?_ ?_
  · refine Eq.trans (k_con rfl) ?_
    exact k_rtI rfl rfl
  · refine Eq.trans (k_con rfl) ?_
    refine Eq.trans (k_ald0 rfl) ?_
    refine Eq.trans (k_gtI rfl s_363 rfl (by decide)) ?_
    refine Eq.trans (k_shl rfl) ?_
    refine Eq.trans (k_con rfl) ?_
    refine Eq.trans (k_sub rfl) ?_
    refine Eq.trans (k_ist3 rfl) ?_
    refine Eq.trans (k_con rfl) ?_
    refine Eq.trans (k_ist4 rfl) ?_
    refine Eq.trans (k_con rfl) ?_
    refine Eq.trans (k_ist5 rfl) ?_
    exact rfl
theorem b_241_58 {d : Nat} {m : Nat → Nat → Int} {q : Nat → Nat → Option Nat} {w : Option (Nat → Int64)} {u6 : Option Value} {v1 v2 v3 v4 v5 : Int}   : gv d rR241 58 [some (.ref 363), some (.int (iI v1)), some (.int (iI v2)), some (.int (iI v3)), some (.int (iI v4)), some (.int (iI v5)), u6] [] (mk m q w) =
    if iI v2 < iI v5 then (some (.inl (some (.int (iI v4))), (mk m q w, (0, 0)))) else (gv d rR241 70 [some (.ref 363), some (.int (iI v1)), some (.int (iI v2)), some (.int (iI v3)), some (.int (iI (-1))), some (.int (iI v5)), some (.int (iI 0))] [] (mk m q w)) := by
  refine Eq.trans (k_ild5 rfl) ?_
  refine Eq.trans (k_ild2 rfl) ?_
  refine Eq.trans (k_i2gt rfl rfl) ?_
  refine ifc ?_ ?_
  · refine Eq.trans (k_ild4 rfl) ?_
    exact k_rtI rfl rfl
  · refine Eq.trans (k_con rfl) ?_
    refine Eq.trans (k_ist4 rfl) ?_
    refine Eq.trans (k_con rfl) ?_
    refine Eq.trans (k_ist6 rfl) ?_
    exact rfl
theorem b_241_70 {d : Nat} {m : Nat → Nat → Int} {q : Nat → Nat → Option Nat} {w : Option (Nat → Int64)} {v1 v2 v3 v4 v5 v6 : Int}   : gv d rR241 70 [some (.ref 363), some (.int (iI v1)), some (.int (iI v2)), some (.int (iI v3)), some (.int (iI v4)), some (.int (iI v5)), some (.int (iI v6))] [] (mk m q w) =
    if iI v6 < iI (2 * (m 363 15)) then (if iI v4 = iI (-1) then (if iI (zAnd (zShr v3 (zDiv v6 2)) 1) = iI 1 then (rBd (ev d 238 [.ref 363, .int (iI (zDiv v6 2)), .int (iI (zRem v6 2)), .int (iI v5), .int (iI v1), .int (iI (-1))] (mk m q w)) (fun v M' => gv d rR241 115 [some (.ref 363), some (.int (iI v1)), some (.int (iI v2)), some (.int (iI v3)), some (.int (iI v4)), some (.int (iI v5)), some (.int (iI v6))] (v.toList ++ []) M')) else (gv d rR241 140 [some (.ref 363), some (.int (iI v1)), some (.int (iI v2)), some (.int (iI v3)), some (.int (iI v4)), some (.int (iI v5)), some (.int (iI v6))] [] (mk m q w))) else (gv d rR241 146 [some (.ref 363), some (.int (iI v1)), some (.int (iI v2)), some (.int (iI v3)), some (.int (iI v4)), some (.int (iI v5)), some (.int (iI v6))] [] (mk m q w))) else (gv d rR241 146 [some (.ref 363), some (.int (iI v1)), some (.int (iI v2)), some (.int (iI v3)), some (.int (iI v4)), some (.int (iI v5)), some (.int (iI v6))] [] (mk m q w)) := by
  refine Eq.trans (k_ild6 rfl) ?_
  refine Eq.trans (k_con rfl) ?_
  refine Eq.trans (k_ald0 rfl) ?_
  refine Eq.trans (k_gtI rfl s_363 rfl (by decide)) ?_
  refine Eq.trans (k_mul rfl) ?_
  refine Eq.trans (k_i2ge rfl rfl) ?_
  refine ifc ?_ ?_
  · refine Eq.trans (k_ild4 rfl) ?_
    refine Eq.trans (k_con rfl) ?_
    refine Eq.trans (k_i2ne rfl rfl) ?_
    refine ifc ?_ ?_
    · refine Eq.trans (k_ild3 rfl) ?_
      refine Eq.trans (k_ild6 rfl) ?_
      refine Eq.trans (k_con rfl) ?_
      refine Eq.trans (k_div rfl (by decide)) ?_
      refine Eq.trans (k_shr rfl) ?_
      refine Eq.trans (k_con rfl) ?_
      refine Eq.trans (k_and rfl) ?_
      refine Eq.trans (k_con rfl) ?_
      refine Eq.trans (k_i2ne rfl rfl) ?_
      refine ifc ?_ ?_
      · refine Eq.trans (k_ald0 rfl) ?_
        refine Eq.trans (k_ild6 rfl) ?_
        refine Eq.trans (k_con rfl) ?_
        refine Eq.trans (k_div rfl (by decide)) ?_
        refine Eq.trans (k_ild6 rfl) ?_
        refine Eq.trans (k_con rfl) ?_
        refine Eq.trans (k_rem rfl (by decide)) ?_
        refine Eq.trans (k_ild5 rfl) ?_
        refine Eq.trans (k_ild1 rfl) ?_
        refine Eq.trans (k_con rfl) ?_
        exact k_cV5 rfl s_363 q_238 rfl rfl rfl (bl rfl)
      · exact rfl
    · exact rfl
  · exact rfl
theorem b_241_115 {d : Nat} {m : Nat → Nat → Int} {q : Nat → Nat → Option Nat} {w : Option (Nat → Int64)} {v1 v2 v3 v4 v5 v6 s0 : Int}   : gv d rR241 115 [some (.ref 363), some (.int (iI v1)), some (.int (iI v2)), some (.int (iI v3)), some (.int (iI v4)), some (.int (iI v5)), some (.int (iI v6))] [.int (iI s0)] (mk m q w) =
    if iI s0 = iI 0 then (gv d rR241 140 [some (.ref 363), some (.int (iI v1)), some (.int (iI v2)), some (.int (iI v3)), some (.int (iI v4)), some (.int (iI v5)), some (.int (iI v6))] [] (mk m q w)) else (gv d rR241 118 [some (.ref 363), some (.int (iI v1)), some (.int (iI v2)), some (.int (iI v3)), some (.int (iI v4)), some (.int (iI v5)), some (.int (iI v6))] [] (mk m q w)) := by
  refine Eq.trans (k_i1eq rfl rfl) ?_
  refine ifc ?_ ?_
  · exact rfl
  · exact rfl
theorem b_241_118 {d : Nat} {m : Nat → Nat → Int} {q : Nat → Nat → Option Nat} {w : Option (Nat → Int64)} {v1 v2 v3 v4 v5 v6 : Int}  (g0 : 0 ≤ (zAnd v3 (zXor (zShl 1 (zDiv v6 2)) (-1)))) (g1 : (zAnd v3 (zXor (zShl 1 (zDiv v6 2)) (-1))) < 128) : gv d rR241 118 [some (.ref 363), some (.int (iI v1)), some (.int (iI v2)), some (.int (iI v3)), some (.int (iI v4)), some (.int (iI v5)), some (.int (iI v6))] [] (mk m q w) =
    if iI 0 < iI (m 384 (Int.toNat (zAnd v3 (zXor (zShl 1 (zDiv v6 2)) (-1))))) then (gv d rR241 140 [some (.ref 363), some (.int (iI v1)), some (.int (iI v2)), some (.int (iI v3)), some (.int (iI v6)), some (.int (iI v5)), some (.int (iI v6))] [] (mk m q w)) else (gv d rR241 140 [some (.ref 363), some (.int (iI v1)), some (.int (iI v2)), some (.int (iI v3)), some (.int (iI v4)), some (.int (iI v5)), some (.int (iI v6))] [] (mk m q w)) := by
  refine Eq.trans (k_ald0 rfl) ?_
  refine Eq.trans (k_gtR rfl s_363 rfl (by decide)) ?_
  refine Eq.trans (k_ild3 rfl) ?_
  refine Eq.trans (k_con rfl) ?_
  refine Eq.trans (k_ild6 rfl) ?_
  refine Eq.trans (k_con rfl) ?_
  refine Eq.trans (k_div rfl (by decide)) ?_
  refine Eq.trans (k_shl rfl) ?_
  refine Eq.trans (k_con rfl) ?_
  refine Eq.trans (k_xor rfl) ?_
  refine Eq.trans (k_and rfl) ?_
  refine Eq.trans (k_iald rfl s_384 (bl rfl) g0 g1) ?_
  refine Eq.trans (k_i1le rfl rfl) ?_
  refine ifc ?_ ?_
  · refine Eq.trans (k_ild6 rfl) ?_
    refine Eq.trans (k_ist4 rfl) ?_
    exact rfl
  · exact rfl
theorem b_241_140 {d : Nat} {m : Nat → Nat → Int} {q : Nat → Nat → Option Nat} {w : Option (Nat → Int64)} {v1 v2 v3 v4 v5 v6 : Int}   : gv d rR241 140 [some (.ref 363), some (.int (iI v1)), some (.int (iI v2)), some (.int (iI v3)), some (.int (iI v4)), some (.int (iI v5)), some (.int (iI v6))] [] (mk m q w) =
    gv d rR241 70 [some (.ref 363), some (.int (iI v1)), some (.int (iI v2)), some (.int (iI v3)), some (.int (iI v4)), some (.int (iI v5)), some (.int (iI (v6 + 1)))] [] (mk m q w) := by
  refine Eq.trans (k_inc6 rfl) ?_
  refine Eq.trans (k_go rfl rfl) ?_
  exact rfl
theorem b_241_146 {d : Nat} {m : Nat → Nat → Int} {q : Nat → Nat → Option Nat} {w : Option (Nat → Int64)} {u6 : Option Value} {v1 v2 v3 v4 v5 : Int}   : gv d rR241 146 [some (.ref 363), some (.int (iI v1)), some (.int (iI v2)), some (.int (iI v3)), some (.int (iI v4)), some (.int (iI v5)), u6] [] (mk m q w) =
    gv d rR241 58 [some (.ref 363), some (.int (iI v1)), some (.int (iI v2)), some (.int (iI (zAnd v3 (zXor (zShl 1 (zDiv v4 2)) (-1))))), some (.int (iI v4)), some (.int (iI (v5 + 1))), u6] [] (mk m q w) := by
  refine Eq.trans (k_ild3 rfl) ?_
  refine Eq.trans (k_con rfl) ?_
  refine Eq.trans (k_ild4 rfl) ?_
  refine Eq.trans (k_con rfl) ?_
  refine Eq.trans (k_div rfl (by decide)) ?_
  refine Eq.trans (k_shl rfl) ?_
  refine Eq.trans (k_con rfl) ?_
  refine Eq.trans (k_xor rfl) ?_
  refine Eq.trans (k_and rfl) ?_
  refine Eq.trans (k_ist3 rfl) ?_
  refine Eq.trans (k_inc5 rfl) ?_
  refine Eq.trans (k_go rfl rfl) ?_
  exact rfl
theorem e_241 {d : Nat} (hd : 1 ≤ d) {a0 a1 a2 : Value} (M : rMem) (h0 : a0.category = 1) (h1 : a1.category = 1) (h2 : a2.category = 1) : ev d 241 [a0, a1, a2] M = gv (d - 1) rR241 0 [some a0, some a1, some a2, none, none, none, none] [] M := ev_at hd q_241 rfl (by simp [*]) rfl
/-! FanHouseModel.both(II)I -/
theorem b_242_0 {d : Nat} {m : Nat → Nat → Int} {q : Nat → Nat → Option Nat} {w : Option (Nat → Int64)} {v1 v2 : Int}   : gv d rR242 0 [some (.ref 363), some (.int (iI v1)), some (.int (iI v2))] [] (mk m q w) =
    rBd (ev d 224 [.int (iI v1)] (mk (wr m 363 0 0) q w)) (fun v M' => gv d rR242 10 [some (.ref 363), some (.int (iI v1)), some (.int (iI v2))] (v.toList ++ [.ref 363]) M') := by
  refine Eq.trans (k_ald0 rfl) ?_
  refine Eq.trans (k_con rfl) ?_
  refine Eq.trans (k_ptI rfl s_363 rfl rfl) ?_
  refine Eq.trans (k_ald0 rfl) ?_
  refine Eq.trans (k_ild1 rfl) ?_
  exact k_cS1 rfl (by decide) q_224 rfl rfl (bl rfl)
theorem b_242_10 {d : Nat} {m : Nat → Nat → Int} {q : Nat → Nat → Option Nat} {w : Option (Nat → Int64)} {v1 v2 s1 : Int}   : gv d rR242 10 [some (.ref 363), some (.int (iI v1)), some (.int (iI v2))] [.int (iI s1), .ref 363] (mk m q w) =
    if iI s1 = iI 0 then (gv d rR242 24 [some (.ref 363), some (.int (iI v1)), some (.int (iI v2))] [.ref 363] (mk m q w)) else (rBd (ev d 224 [.int (iI v2)] (mk m q w)) (fun v M' => gv d rR242 17 [some (.ref 363), some (.int (iI v1)), some (.int (iI v2))] (v.toList ++ [.ref 363]) M')) := by
  refine Eq.trans (k_i1eq rfl rfl) ?_
  refine ifc ?_ ?_
  · exact rfl
  · refine Eq.trans (k_ild2 rfl) ?_
    exact k_cS1 rfl (by decide) q_224 rfl rfl (bl rfl)
theorem b_242_17 {d : Nat} {m : Nat → Nat → Int} {q : Nat → Nat → Option Nat} {w : Option (Nat → Int64)} {v1 v2 s1 : Int}   : gv d rR242 17 [some (.ref 363), some (.int (iI v1)), some (.int (iI v2))] [.int (iI s1), .ref 363] (mk m q w) =
    if iI s1 = iI 0 then (gv d rR242 24 [some (.ref 363), some (.int (iI v1)), some (.int (iI v2))] [.ref 363] (mk m q w)) else (gv d rR242 25 [some (.ref 363), some (.int (iI v1)), some (.int (iI v2))] [.int (iI 1), .ref 363] (mk m q w)) := by
  refine Eq.trans (k_i1eq rfl rfl) ?_
  refine ifc ?_ ?_
  · exact rfl
  · refine Eq.trans (k_con rfl) ?_
    refine Eq.trans (k_go rfl rfl) ?_
    exact rfl
theorem b_242_24 {d : Nat} {m : Nat → Nat → Int} {q : Nat → Nat → Option Nat} {w : Option (Nat → Int64)} {v1 v2 : Int}   : gv d rR242 24 [some (.ref 363), some (.int (iI v1)), some (.int (iI v2))] [.ref 363] (mk m q w) =
    gv d rR242 25 [some (.ref 363), some (.int (iI v1)), some (.int (iI v2))] [.int (iI 0), .ref 363] (mk m q w) := by
  refine Eq.trans (k_con rfl) ?_
  exact rfl
theorem b_242_25 {d : Nat} {m : Nat → Nat → Int} {q : Nat → Nat → Option Nat} {w : Option (Nat → Int64)} {v1 v2 s1 : Int}   : gv d rR242 25 [some (.ref 363), some (.int (iI v1)), some (.int (iI v2))] [.int (iI s1), .ref 363] (mk m q w) =
    rBd (ev d 160 [.ref 363, .int (iI s1), .int (iI 1), .int (iI 1)] (mk m q w)) (fun v M' => gv d rR242 30 [some (.ref 363), some (.int (iI v1)), some (.int (iI v2))] (v.toList ++ []) M') := by
  refine Eq.trans (k_con rfl) ?_
  refine Eq.trans (k_con rfl) ?_
  exact k_cV3 rfl s_363 q_160 rfl rfl rfl (bl rfl)
theorem b_242_30 {d : Nat} {m : Nat → Nat → Int} {q : Nat → Nat → Option Nat} {w : Option (Nat → Int64)} {v1 v2 s0 : Int}   : gv d rR242 30 [some (.ref 363), some (.int (iI v1)), some (.int (iI v2))] [.int (iI s0)] (mk m q w) =
    if iI s0 = iI 0 then (some (.inl (some (.int (iI 0))), (mk m q w, (0, 0)))) else (rBd (ev d 200 [.ref 363] (mk m q w)) (fun v M' => gv d rR242 39 [some (.ref 363), some (.int (iI v1)), some (.int (iI v2))] (v.toList ++ []) M')) := by
  refine Eq.trans (k_i1ne rfl rfl) ?_
  refine ifc ?_ ?_
  · refine Eq.trans (k_con rfl) ?_
    exact k_rtI rfl rfl
  · refine Eq.trans (k_ald0 rfl) ?_
    exact k_cV0 rfl s_363 q_200 rfl rfl rfl (bl rfl)
theorem b_242_39 {d : Nat} {m : Nat → Nat → Int} {q : Nat → Nat → Option Nat} {w : Option (Nat → Int64)} {v1 v2 : Int}   : gv d rR242 39 [some (.ref 363), some (.int (iI v1)), some (.int (iI v2))] [] (mk m q w) =
    rBd (ev d 239 [.ref 363, .int (iI v1), .int (iI v2)] (mk m q w)) (fun v M' => gv d rR242 45 [some (.ref 363), some (.int (iI v1)), some (.int (iI v2))] (v.toList ++ []) M') := by
  refine Eq.trans (k_ald0 rfl) ?_
  refine Eq.trans (k_ild1 rfl) ?_
  refine Eq.trans (k_ild2 rfl) ?_
  exact k_cV2 rfl s_363 q_239 rfl rfl rfl (bl rfl)
theorem b_242_45 {d : Nat} {m : Nat → Nat → Int} {q : Nat → Nat → Option Nat} {w : Option (Nat → Int64)} {u0 u1 u2 : Option Value} {s0 : Int}   : gv d rR242 45 [u0, u1, u2] [.int (iI s0)] (mk m q w) =
    some (.inl (some (.int (iI s0))), (mk m q w, (0, 0))) := by
  exact k_rtI rfl rfl
theorem e_242 {d : Nat} (hd : 1 ≤ d) {a0 a1 a2 : Value} (M : rMem) (h0 : a0.category = 1) (h1 : a1.category = 1) (h2 : a2.category = 1) : ev d 242 [a0, a1, a2] M = gv (d - 1) rR242 0 [some a0, some a1, some a2] [] M := ev_at hd q_242 rfl (by simp [*]) rfl
/-! FanHouseModel.brush(I)I -/
theorem b_243_0 {d : Nat} {m : Nat → Nat → Int} {q : Nat → Nat → Option Nat} {w : Option (Nat → Int64)} {u2 u3 u4 u5 u6 : Option Value} {v1 : Int}   : gv d rR243 0 [some (.ref 363), some (.int (iI v1)), u2, u3, u4, u5, u6] [] (mk m q w) =
    rBd (ev d 224 [.int (iI v1)] (mk (wr m 363 0 0) q w)) (fun v M' => gv d rR243 10 [some (.ref 363), some (.int (iI v1)), u2, u3, u4, u5, u6] (v.toList ++ [.ref 363]) M') := by
  refine Eq.trans (k_ald0 rfl) ?_
  refine Eq.trans (k_con rfl) ?_
  refine Eq.trans (k_ptI rfl s_363 rfl rfl) ?_
  refine Eq.trans (k_ald0 rfl) ?_
  refine Eq.trans (k_ild1 rfl) ?_
  exact k_cS1 rfl (by decide) q_224 rfl rfl (bl rfl)
theorem b_243_10 {d : Nat} {m : Nat → Nat → Int} {q : Nat → Nat → Option Nat} {w : Option (Nat → Int64)} {u2 u3 u4 u5 u6 : Option Value} {v1 s1 : Int}   : gv d rR243 10 [some (.ref 363), some (.int (iI v1)), u2, u3, u4, u5, u6] [.int (iI s1), .ref 363] (mk m q w) =
    rBd (ev d 160 [.ref 363, .int (iI s1), .int (iI 1), .int (iI 1)] (mk m q w)) (fun v M' => gv d rR243 15 [some (.ref 363), some (.int (iI v1)), u2, u3, u4, u5, u6] (v.toList ++ []) M') := by
  refine Eq.trans (k_con rfl) ?_
  refine Eq.trans (k_con rfl) ?_
  exact k_cV3 rfl s_363 q_160 rfl rfl rfl (bl rfl)
theorem b_243_15 {d : Nat} {m : Nat → Nat → Int} {q : Nat → Nat → Option Nat} {w : Option (Nat → Int64)} {u2 u3 u4 u5 u6 : Option Value} {v1 s0 : Int}   : gv d rR243 15 [some (.ref 363), some (.int (iI v1)), u2, u3, u4, u5, u6] [.int (iI s0)] (mk m q w) =
    if iI s0 = iI 0 then (some (.inl (some (.int (iI 0))), (mk m q w, (0, 0)))) else (if iI (m 363 15) < iI (m 381 0) then (some (.inl (some (.int (iI (-1)))), (mk m q w, (0, 0)))) else (rBd (ev d 200 [.ref 363] (mk m q w)) (fun v M' => gv d rR243 39 [some (.ref 363), some (.int (iI v1)), u2, u3, u4, u5, u6] (v.toList ++ []) M'))) := by
  refine Eq.trans (k_i1ne rfl rfl) ?_
  refine ifc ?_ ?_
  · refine Eq.trans (k_con rfl) ?_
    exact k_rtI rfl rfl
  · refine Eq.trans (k_ald0 rfl) ?_
    refine Eq.trans (k_gtR rfl s_363 rfl (by decide)) ?_
    refine Eq.trans (k_con rfl) ?_
    refine Eq.trans (k_iald rfl s_381 (bl rfl) (by decide) (by decide)) ?_
    refine Eq.trans (k_ald0 rfl) ?_
    refine Eq.trans (k_gtI rfl s_363 rfl (by decide)) ?_
    refine Eq.trans (k_i2le rfl rfl) ?_
    refine ifc ?_ ?_
    · refine Eq.trans (k_con rfl) ?_
      exact k_rtI rfl rfl
    · refine Eq.trans (k_ald0 rfl) ?_
      exact k_cV0 rfl s_363 q_200 rfl rfl rfl (bl rfl)
theorem b_243_39 {d : Nat} {m : Nat → Nat → Int} {q : Nat → Nat → Option Nat} {w : Option (Nat → Int64)} {u2 u3 u4 u5 u6 : Option Value} {v1 : Int}   : gv d rR243 39 [some (.ref 363), some (.int (iI v1)), u2, u3, u4, u5, u6] [] (mk m q w) =
    gv d rR243 48 [some (.ref 363), some (.int (iI v1)), some (.int (iI 1)), u3, u4, u5, u6] [] (mk (wr m 384 0 0) q w) := by
  refine Eq.trans (k_ald0 rfl) ?_
  refine Eq.trans (k_gtR rfl s_363 rfl (by decide)) ?_
  refine Eq.trans (k_con rfl) ?_
  refine Eq.trans (k_con rfl) ?_
  refine Eq.trans (k_iast rfl s_384 (bl rfl) (by decide) (by decide)) ?_
  refine Eq.trans (k_con rfl) ?_
  refine Eq.trans (k_ist2 rfl) ?_
  exact rfl
theorem b_243_48 {d : Nat} {m : Nat → Nat → Int} {q : Nat → Nat → Option Nat} {w : Option (Nat → Int64)} {u3 u4 u5 u6 : Option Value} {v1 v2 : Int}   : gv d rR243 48 [some (.ref 363), some (.int (iI v1)), some (.int (iI v2)), u3, u4, u5, u6] [] (mk m q w) =
    if iI v2 < iI (zShl 1 (m 363 15)) then (rBd (ev d 237 [.int (iI v2)] (mk m q w)) (fun v M' => gv d rR243 66 [some (.ref 363), some (.int (iI v1)), some (.int (iI v2)), u3, u4, u5, u6] (v.toList ++ [.int (iI (m 363 15))]) M')) else (gv d rR243 179 [some (.ref 363), some (.int (iI v1)), some (.int (iI v2)), u3, u4, u5, u6] [] (mk m q w)) := by
  refine Eq.trans (k_ild2 rfl) ?_
  refine Eq.trans (k_con rfl) ?_
  refine Eq.trans (k_ald0 rfl) ?_
  refine Eq.trans (k_gtI rfl s_363 rfl (by decide)) ?_
  refine Eq.trans (k_shl rfl) ?_
  refine Eq.trans (k_i2ge rfl rfl) ?_
  refine ifc ?_ ?_
  · refine Eq.trans (k_ald0 rfl) ?_
    refine Eq.trans (k_gtI rfl s_363 rfl (by decide)) ?_
    refine Eq.trans (k_ild2 rfl) ?_
    exact k_cS1 rfl (by decide) q_237 rfl rfl (bl rfl)
  · exact rfl
theorem b_243_66 {d : Nat} {m : Nat → Nat → Int} {q : Nat → Nat → Option Nat} {w : Option (Nat → Int64)} {u3 u4 u5 u6 : Option Value} {v1 v2 s0 s1 : Int}   : gv d rR243 66 [some (.ref 363), some (.int (iI v1)), some (.int (iI v2)), u3, u4, u5, u6] [.int (iI s1), .int (iI s0)] (mk m q w) =
    gv d rR243 75 [some (.ref 363), some (.int (iI v1)), some (.int (iI v2)), some (.int (iI (s0 - s1))), some (.int (iI 8)), some (.int (iI 0)), u6] [] (mk m q w) := by
  refine Eq.trans (k_sub rfl) ?_
  refine Eq.trans (k_ist3 rfl) ?_
  refine Eq.trans (k_bip rfl (by decide)) ?_
  refine Eq.trans (k_ist4 rfl) ?_
  refine Eq.trans (k_con rfl) ?_
  refine Eq.trans (k_ist5 rfl) ?_
  exact rfl
theorem b_243_75 {d : Nat} {m : Nat → Nat → Int} {q : Nat → Nat → Option Nat} {w : Option (Nat → Int64)} {u6 : Option Value} {v1 v2 v3 v4 v5 : Int}   : gv d rR243 75 [some (.ref 363), some (.int (iI v1)), some (.int (iI v2)), some (.int (iI v3)), some (.int (iI v4)), some (.int (iI v5)), u6] [] (mk m q w) =
    if iI v5 < iI (m 363 15) then (if iI (zAnd (zShr v2 v5) 1) = iI 0 then (gv d rR243 159 [some (.ref 363), some (.int (iI v1)), some (.int (iI v2)), some (.int (iI v3)), some (.int (iI v4)), some (.int (iI v5)), u6] [] (mk m q w)) else (gv d rR243 96 [some (.ref 363), some (.int (iI v1)), some (.int (iI v2)), some (.int (iI v3)), some (.int (iI v4)), some (.int (iI v5)), u6] [] (mk m q w))) else (gv d rR243 165 [some (.ref 363), some (.int (iI v1)), some (.int (iI v2)), some (.int (iI v3)), some (.int (iI v4)), some (.int (iI v5)), u6] [] (mk m q w)) := by
  refine Eq.trans (k_ild5 rfl) ?_
  refine Eq.trans (k_ald0 rfl) ?_
  refine Eq.trans (k_gtI rfl s_363 rfl (by decide)) ?_
  refine Eq.trans (k_i2ge rfl rfl) ?_
  refine ifc ?_ ?_
  · refine Eq.trans (k_ild2 rfl) ?_
    refine Eq.trans (k_ild5 rfl) ?_
    refine Eq.trans (k_shr rfl) ?_
    refine Eq.trans (k_con rfl) ?_
    refine Eq.trans (k_and rfl) ?_
    refine Eq.trans (k_i1ne rfl rfl) ?_
    refine ifc ?_ ?_
    · refine Eq.trans (k_go rfl rfl) ?_
      exact rfl
    · exact rfl
  · exact rfl
theorem b_243_96 {d : Nat} {m : Nat → Nat → Int} {q : Nat → Nat → Option Nat} {w : Option (Nat → Int64)} {u6 : Option Value} {v1 v2 v3 v4 v5 : Int}  (g0 : 0 ≤ (zAnd v2 (zXor (zShl 1 v5) (-1)))) (g1 : (zAnd v2 (zXor (zShl 1 v5) (-1))) < 128) : gv d rR243 96 [some (.ref 363), some (.int (iI v1)), some (.int (iI v2)), some (.int (iI v3)), some (.int (iI v4)), some (.int (iI v5)), u6] [] (mk m q w) =
    rBd (ev d 238 [.ref 363, .int (iI v5), .int (iI 0), .int (iI v3), .int (iI v1), .int (iI (-1))] (mk m q w)) (fun v M' => gv d rR243 119 [some (.ref 363), some (.int (iI v1)), some (.int (iI v2)), some (.int (iI v3)), some (.int (iI v4)), some (.int (iI v5)), u6] (v.toList ++ [.int (iI (m 384 (Int.toNat (zAnd v2 (zXor (zShl 1 v5) (-1))))))]) M') := by
  refine Eq.trans (k_ald0 rfl) ?_
  refine Eq.trans (k_gtR rfl s_363 rfl (by decide)) ?_
  refine Eq.trans (k_ild2 rfl) ?_
  refine Eq.trans (k_con rfl) ?_
  refine Eq.trans (k_ild5 rfl) ?_
  refine Eq.trans (k_shl rfl) ?_
  refine Eq.trans (k_con rfl) ?_
  refine Eq.trans (k_xor rfl) ?_
  refine Eq.trans (k_and rfl) ?_
  refine Eq.trans (k_iald rfl s_384 (bl rfl) g0 g1) ?_
  refine Eq.trans (k_ald0 rfl) ?_
  refine Eq.trans (k_ild5 rfl) ?_
  refine Eq.trans (k_con rfl) ?_
  refine Eq.trans (k_ild3 rfl) ?_
  refine Eq.trans (k_ild1 rfl) ?_
  refine Eq.trans (k_con rfl) ?_
  exact k_cV5 rfl s_363 q_238 rfl rfl rfl (bl rfl)
theorem b_243_119 {d : Nat} {m : Nat → Nat → Int} {q : Nat → Nat → Option Nat} {w : Option (Nat → Int64)} {u6 : Option Value} {v1 v2 v3 v4 v5 s0 s1 : Int}   : gv d rR243 119 [some (.ref 363), some (.int (iI v1)), some (.int (iI v2)), some (.int (iI v3)), some (.int (iI v4)), some (.int (iI v5)), u6] [.int (iI s1), .int (iI s0)] (mk m q w) =
    if iI s1 = iI 0 then (rBd (ev d 238 [.ref 363, .int (iI v5), .int (iI 1), .int (iI v3), .int (iI v1), .int (iI (-1))] (mk m q w)) (fun v M' => gv d rR243 132 [some (.ref 363), some (.int (iI v1)), some (.int (iI v2)), some (.int (iI v3)), some (.int (iI v4)), some (.int (iI v5)), u6] (v.toList ++ [.int (iI s0)]) M')) else (gv d rR243 135 [some (.ref 363), some (.int (iI v1)), some (.int (iI v2)), some (.int (iI v3)), some (.int (iI v4)), some (.int (iI v5)), u6] [.int (iI s0)] (mk m q w)) := by
  refine Eq.trans (k_i1ne rfl rfl) ?_
  refine ifc ?_ ?_
  · refine Eq.trans (k_ald0 rfl) ?_
    refine Eq.trans (k_ild5 rfl) ?_
    refine Eq.trans (k_con rfl) ?_
    refine Eq.trans (k_ild3 rfl) ?_
    refine Eq.trans (k_ild1 rfl) ?_
    refine Eq.trans (k_con rfl) ?_
    exact k_cV5 rfl s_363 q_238 rfl rfl rfl (bl rfl)
  · exact rfl
theorem b_243_132 {d : Nat} {m : Nat → Nat → Int} {q : Nat → Nat → Option Nat} {w : Option (Nat → Int64)} {u6 : Option Value} {v1 v2 v3 v4 v5 s0 s1 : Int}   : gv d rR243 132 [some (.ref 363), some (.int (iI v1)), some (.int (iI v2)), some (.int (iI v3)), some (.int (iI v4)), some (.int (iI v5)), u6] [.int (iI s1), .int (iI s0)] (mk m q w) =
    if iI s1 = iI 0 then (gv d rR243 140 [some (.ref 363), some (.int (iI v1)), some (.int (iI v2)), some (.int (iI v3)), some (.int (iI v4)), some (.int (iI v5)), u6] [.int (iI 1), .int (iI s0)] (mk m q w)) else (gv d rR243 135 [some (.ref 363), some (.int (iI v1)), some (.int (iI v2)), some (.int (iI v3)), some (.int (iI v4)), some (.int (iI v5)), u6] [.int (iI s0)] (mk m q w)) := by
  refine Eq.trans (k_i1eq rfl rfl) ?_
  refine ifc ?_ ?_
  · refine Eq.trans (k_con rfl) ?_
    exact rfl
  · exact rfl
theorem b_243_135 {d : Nat} {m : Nat → Nat → Int} {q : Nat → Nat → Option Nat} {w : Option (Nat → Int64)} {u6 : Option Value} {v1 v2 v3 v4 v5 s0 : Int}   : gv d rR243 135 [some (.ref 363), some (.int (iI v1)), some (.int (iI v2)), some (.int (iI v3)), some (.int (iI v4)), some (.int (iI v5)), u6] [.int (iI s0)] (mk m q w) =
    gv d rR243 140 [some (.ref 363), some (.int (iI v1)), some (.int (iI v2)), some (.int (iI v3)), some (.int (iI v4)), some (.int (iI v5)), u6] [.int (iI 0), .int (iI s0)] (mk m q w) := by
  refine Eq.trans (k_con rfl) ?_
  refine Eq.trans (k_go rfl rfl) ?_
  exact rfl
theorem b_243_140 {d : Nat} {m : Nat → Nat → Int} {q : Nat → Nat → Option Nat} {w : Option (Nat → Int64)} {u6 : Option Value} {v1 v2 v3 v4 v5 s0 s1 : Int}   : gv d rR243 140 [some (.ref 363), some (.int (iI v1)), some (.int (iI v2)), some (.int (iI v3)), some (.int (iI v4)), some (.int (iI v5)), u6] [.int (iI s1), .int (iI s0)] (mk m q w) =
    if iI (s0 + s1) < iI v4 then (gv d rR243 157 [some (.ref 363), some (.int (iI v1)), some (.int (iI v2)), some (.int (iI v3)), some (.int (iI v4)), some (.int (iI v5)), some (.int (iI (s0 + s1)))] [.int (iI (s0 + s1))] (mk m q w)) else (gv d rR243 157 [some (.ref 363), some (.int (iI v1)), some (.int (iI v2)), some (.int (iI v3)), some (.int (iI v4)), some (.int (iI v5)), some (.int (iI (s0 + s1)))] [.int (iI v4)] (mk m q w)) := by
  refine Eq.trans (k_add rfl) ?_
  refine Eq.trans (k_ist6 rfl) ?_
  refine Eq.trans (k_ild6 rfl) ?_
  refine Eq.trans (k_ild4 rfl) ?_
  refine Eq.trans (k_i2ge rfl rfl) ?_
  refine ifc ?_ ?_
  · refine Eq.trans (k_ild6 rfl) ?_
    refine Eq.trans (k_go rfl rfl) ?_
    exact rfl
  · refine Eq.trans (k_ild4 rfl) ?_
    exact rfl
theorem b_243_157 {d : Nat} {m : Nat → Nat → Int} {q : Nat → Nat → Option Nat} {w : Option (Nat → Int64)} {u4 u6 : Option Value} {v1 v2 v3 v5 s0 : Int}   : gv d rR243 157 [some (.ref 363), some (.int (iI v1)), some (.int (iI v2)), some (.int (iI v3)), u4, some (.int (iI v5)), u6] [.int (iI s0)] (mk m q w) =
    gv d rR243 159 [some (.ref 363), some (.int (iI v1)), some (.int (iI v2)), some (.int (iI v3)), some (.int (iI s0)), some (.int (iI v5)), u6] [] (mk m q w) := by
  refine Eq.trans (k_ist4 rfl) ?_
  exact rfl
theorem b_243_159 {d : Nat} {m : Nat → Nat → Int} {q : Nat → Nat → Option Nat} {w : Option (Nat → Int64)} {u6 : Option Value} {v1 v2 v3 v4 v5 : Int}   : gv d rR243 159 [some (.ref 363), some (.int (iI v1)), some (.int (iI v2)), some (.int (iI v3)), some (.int (iI v4)), some (.int (iI v5)), u6] [] (mk m q w) =
    gv d rR243 75 [some (.ref 363), some (.int (iI v1)), some (.int (iI v2)), some (.int (iI v3)), some (.int (iI v4)), some (.int (iI (v5 + 1))), u6] [] (mk m q w) := by
  refine Eq.trans (k_inc5 rfl) ?_
  refine Eq.trans (k_go rfl rfl) ?_
  exact rfl
theorem b_243_165 {d : Nat} {m : Nat → Nat → Int} {q : Nat → Nat → Option Nat} {w : Option (Nat → Int64)} {u3 u5 u6 : Option Value} {v1 v2 v4 : Int}  (g0 : 0 ≤ v2) (g1 : v2 < 128) : gv d rR243 165 [some (.ref 363), some (.int (iI v1)), some (.int (iI v2)), u3, some (.int (iI v4)), u5, u6] [] (mk m q w) =
    gv d rR243 48 [some (.ref 363), some (.int (iI v1)), some (.int (iI (v2 + 1))), u3, some (.int (iI v4)), u5, u6] [] (mk (wr m 384 (Int.toNat v2) v4) q w) := by
  refine Eq.trans (k_ald0 rfl) ?_
  refine Eq.trans (k_gtR rfl s_363 rfl (by decide)) ?_
  refine Eq.trans (k_ild2 rfl) ?_
  refine Eq.trans (k_ild4 rfl) ?_
  refine Eq.trans (k_iast rfl s_384 (bl rfl) g0 g1) ?_
  refine Eq.trans (k_inc2 rfl) ?_
  refine Eq.trans (k_go rfl rfl) ?_
  exact rfl
theorem b_243_179 {d : Nat} {m : Nat → Nat → Int} {q : Nat → Nat → Option Nat} {w : Option (Nat → Int64)} {u1 u2 u3 u4 u5 u6 : Option Value}  (g0 : 0 ≤ ((zShl 1 (m 363 15)) - 1)) (g1 : ((zShl 1 (m 363 15)) - 1) < 128) : gv d rR243 179 [some (.ref 363), u1, u2, u3, u4, u5, u6] [] (mk m q w) =
    some (.inl (some (.int (iI (m 384 (Int.toNat ((zShl 1 (m 363 15)) - 1)))))), (mk m q w, (0, 0))) := by
  refine Eq.trans (k_ald0 rfl) ?_
  refine Eq.trans (k_gtR rfl s_363 rfl (by decide)) ?_
  refine Eq.trans (k_con rfl) ?_
  refine Eq.trans (k_ald0 rfl) ?_
  refine Eq.trans (k_gtI rfl s_363 rfl (by decide)) ?_
  refine Eq.trans (k_shl rfl) ?_
  refine Eq.trans (k_con rfl) ?_
  refine Eq.trans (k_sub rfl) ?_
  refine Eq.trans (k_iald rfl s_384 (bl rfl) g0 g1) ?_
  exact k_rtI rfl rfl
theorem e_243 {d : Nat} (hd : 1 ≤ d) {a0 a1 : Value} (M : rMem) (h0 : a0.category = 1) (h1 : a1.category = 1) : ev d 243 [a0, a1] M = gv (d - 1) rR243 0 [some a0, some a1, none, none, none, none, none] [] M := ev_at hd q_243 rfl (by simp [*]) rfl
/-! FanHouseModel.changesTo(I)I -/
theorem b_244_0 {d : Nat} {m : Nat → Nat → Int} {q : Nat → Nat → Option Nat} {w : Option (Nat → Int64)} {u2 u3 u4 u5 u6 u7 : Option Value} {v1 : Int}   : gv d rR244 0 [some (.ref 363), some (.int (iI v1)), u2, u3, u4, u5, u6, u7] [] (mk m q w) =
    gv d rR244 7 [some (.ref 363), some (.int (iI v1)), some (.int (iI 0)), some (.int (iI 0)), some (.int (iI 0)), u5, u6, u7] [] (mk m q w) := by
  refine Eq.trans (k_con rfl) ?_
  refine Eq.trans (k_ist2 rfl) ?_
  refine Eq.trans (k_con rfl) ?_
  refine Eq.trans (k_ist3 rfl) ?_
  refine Eq.trans (k_con rfl) ?_
  refine Eq.trans (k_ist4 rfl) ?_
  exact rfl
theorem b_244_7 {d : Nat} {m : Nat → Nat → Int} {q : Nat → Nat → Option Nat} {w : Option (Nat → Int64)} {u5 u6 u7 : Option Value} {v1 v2 v3 v4 : Int}   : gv d rR244 7 [some (.ref 363), some (.int (iI v1)), some (.int (iI v2)), some (.int (iI v3)), some (.int (iI v4)), u5, u6, u7] [] (mk m q w) =
    if iI v4 < iI (m 363 15) then (gv d rR244 16 [some (.ref 363), some (.int (iI v1)), some (.int (iI v2)), some (.int (iI v3)), some (.int (iI v4)), u5, u6, u7] [] (mk m q w)) else (gv d rR244 91 [some (.ref 363), some (.int (iI v1)), some (.int (iI v2)), some (.int (iI v3)), some (.int (iI 0)), u5, u6, u7] [] (mk m q w)) := by
  refine Eq.trans (k_ild4 rfl) ?_
  refine Eq.trans (k_ald0 rfl) ?_
  refine Eq.trans (k_gtI rfl s_363 rfl (by decide)) ?_
  refine Eq.trans (k_i2ge rfl rfl) ?_
  refine ifc ?_ ?_
  · exact rfl
  · refine Eq.trans (k_con rfl) ?_
    refine Eq.trans (k_ist4 rfl) ?_
    exact rfl
theorem b_244_16 {d : Nat} {m : Nat → Nat → Int} {q : Nat → Nat → Option Nat} {w : Option (Nat → Int64)} {u5 u6 u7 : Option Value} {v1 v2 v3 v4 : Int}  (g0 : 0 ≤ v4) (g1 : v4 < 7) (g2 : 0 ≤ (35 + (m 385 (Int.toNat v4)))) (g3 : (35 + (m 385 (Int.toNat v4))) < 48) : gv d rR244 16 [some (.ref 363), some (.int (iI v1)), some (.int (iI v2)), some (.int (iI v3)), some (.int (iI v4)), u5, u6, u7] [] (mk m q w) =
    rBd (ev d 238 [.ref 363, .int (iI (m 385 (Int.toNat v4))), .int (iI (m 377 (Int.toNat (35 + (m 385 (Int.toNat v4)))))), .int (iI v4), .int (iI v1), .int (iI (-1))] (mk m q w)) (fun v M' => gv d rR244 49 [some (.ref 363), some (.int (iI v1)), some (.int (iI v2)), some (.int (iI v3)), some (.int (iI v4)), some (.int (iI (m 385 (Int.toNat v4)))), some (.int (iI (m 377 (Int.toNat (35 + (m 385 (Int.toNat v4))))))), u7] (v.toList ++ []) M') := by
  refine Eq.trans (k_ald0 rfl) ?_
  refine Eq.trans (k_gtR rfl s_363 rfl (by decide)) ?_
  refine Eq.trans (k_ild4 rfl) ?_
  refine Eq.trans (k_iald rfl s_385 (bl rfl) g0 g1) ?_
  refine Eq.trans (k_ist5 rfl) ?_
  refine Eq.trans (k_ald0 rfl) ?_
  refine Eq.trans (k_gtR rfl s_363 rfl (by decide)) ?_
  refine Eq.trans (k_bip rfl (by decide)) ?_
  refine Eq.trans (k_ild5 rfl) ?_
  refine Eq.trans (k_add rfl) ?_
  refine Eq.trans (k_iald rfl s_377 (bl rfl) g2 g3) ?_
  refine Eq.trans (k_ist6 rfl) ?_
  refine Eq.trans (k_ald0 rfl) ?_
  refine Eq.trans (k_ild5 rfl) ?_
  refine Eq.trans (k_ild6 rfl) ?_
  refine Eq.trans (k_ild4 rfl) ?_
  refine Eq.trans (k_ild1 rfl) ?_
  refine Eq.trans (k_con rfl) ?_
  exact k_cV5 rfl s_363 q_238 rfl rfl rfl (bl rfl)
theorem b_244_49 {d : Nat} {m : Nat → Nat → Int} {q : Nat → Nat → Option Nat} {w : Option (Nat → Int64)} {u7 : Option Value} {v1 v2 v3 v4 v5 v6 s0 : Int}   : gv d rR244 49 [some (.ref 363), some (.int (iI v1)), some (.int (iI v2)), some (.int (iI v3)), some (.int (iI v4)), some (.int (iI v5)), some (.int (iI v6)), u7] [.int (iI s0)] (mk m q w) =
    if iI s0 = iI 0 then (rBd (ev d 238 [.ref 363, .int (iI v5), .int (iI (1 - v6)), .int (iI v4), .int (iI v1), .int (iI (-1))] (mk m q w)) (fun v M' => gv d rR244 66 [some (.ref 363), some (.int (iI v1)), some (.int (iI v2)), some (.int (iI v3)), some (.int (iI v4)), some (.int (iI v5)), some (.int (iI v6)), u7] (v.toList ++ []) M')) else (gv d rR244 74 [some (.ref 363), some (.int (iI v1)), some (.int (iI v2)), some (.int (iI v3)), some (.int (iI v4)), some (.int (iI v5)), some (.int (iI v6)), u7] [] (mk m q w)) := by
  refine Eq.trans (k_i1ne rfl rfl) ?_
  refine ifc ?_ ?_
  · refine Eq.trans (k_ald0 rfl) ?_
    refine Eq.trans (k_ild5 rfl) ?_
    refine Eq.trans (k_con rfl) ?_
    refine Eq.trans (k_ild6 rfl) ?_
    refine Eq.trans (k_sub rfl) ?_
    refine Eq.trans (k_ild4 rfl) ?_
    refine Eq.trans (k_ild1 rfl) ?_
    refine Eq.trans (k_con rfl) ?_
    exact k_cV5 rfl s_363 q_238 rfl rfl rfl (bl rfl)
  · exact rfl
theorem b_244_66 {d : Nat} {m : Nat → Nat → Int} {q : Nat → Nat → Option Nat} {w : Option (Nat → Int64)} {u5 u6 u7 : Option Value} {v1 v2 v3 v4 s0 : Int}   : gv d rR244 66 [some (.ref 363), some (.int (iI v1)), some (.int (iI v2)), some (.int (iI v3)), some (.int (iI v4)), u5, u6, u7] [.int (iI s0)] (mk m q w) =
    if iI s0 = iI 0 then (some (.inl (some (.int (iI (-1)))), (mk m q w, (0, 0)))) else (gv d rR244 74 [some (.ref 363), some (.int (iI v1)), some (.int (iI (v2 + 1))), some (.int (iI v3)), some (.int (iI v4)), u5, u6, u7] [] (mk m q w)) := by
  refine Eq.trans (k_i1ne rfl rfl) ?_
  refine ifc ?_ ?_
  · refine Eq.trans (k_con rfl) ?_
    exact k_rtI rfl rfl
  · refine Eq.trans (k_inc2 rfl) ?_
    exact rfl
theorem b_244_74 {d : Nat} {m : Nat → Nat → Int} {q : Nat → Nat → Option Nat} {w : Option (Nat → Int64)} {u5 u6 u7 : Option Value} {v1 v2 v3 v4 : Int}  (g0 : 0 ≤ v4) (g1 : v4 < 7) : gv d rR244 74 [some (.ref 363), some (.int (iI v1)), some (.int (iI v2)), some (.int (iI v3)), some (.int (iI v4)), u5, u6, u7] [] (mk m q w) =
    gv d rR244 7 [some (.ref 363), some (.int (iI v1)), some (.int (iI v2)), some (.int (iI v3)), some (.int (iI (v4 + 1))), u5, u6, u7] [] (mk (wr m 386 (Int.toNat v4) 0) q w) := by
  refine Eq.trans (k_ald0 rfl) ?_
  refine Eq.trans (k_gtR rfl s_363 rfl (by decide)) ?_
  refine Eq.trans (k_ild4 rfl) ?_
  refine Eq.trans (k_con rfl) ?_
  refine Eq.trans (k_iast rfl s_386 (bl rfl) g0 g1) ?_
  refine Eq.trans (k_inc4 rfl) ?_
  refine Eq.trans (k_go rfl rfl) ?_
  exact rfl
theorem b_244_91 {d : Nat} {m : Nat → Nat → Int} {q : Nat → Nat → Option Nat} {w : Option (Nat → Int64)} {u1 u5 u6 u7 : Option Value} {v2 v3 v4 : Int}   : gv d rR244 91 [some (.ref 363), u1, some (.int (iI v2)), some (.int (iI v3)), some (.int (iI v4)), u5, u6, u7] [] (mk m q w) =
    if iI v4 < iI (m 363 15) then (gv d rR244 100 [some (.ref 363), u1, some (.int (iI v2)), some (.int (iI v3)), some (.int (iI v4)), u5, u6, u7] [] (mk m q w)) else (some (.inl (some (.int (iI ((v2 + (m 363 15)) - v3)))), (mk m q w, (0, 0)))) := by
  refine Eq.trans (k_ild4 rfl) ?_
  refine Eq.trans (k_ald0 rfl) ?_
  refine Eq.trans (k_gtI rfl s_363 rfl (by decide)) ?_
  refine Eq.trans (k_i2ge rfl rfl) ?_
  refine ifc ?_ ?_
  · exact rfl
  · refine Eq.trans (k_ild2 rfl) ?_
    refine Eq.trans (k_ald0 rfl) ?_
    refine Eq.trans (k_gtI rfl s_363 rfl (by decide)) ?_
    refine Eq.trans (k_add rfl) ?_
    refine Eq.trans (k_ild3 rfl) ?_
    refine Eq.trans (k_sub rfl) ?_
    exact k_rtI rfl rfl
theorem b_244_100 {d : Nat} {m : Nat → Nat → Int} {q : Nat → Nat → Option Nat} {w : Option (Nat → Int64)} {u1 u5 u6 u7 : Option Value} {v2 v3 v4 : Int}  (g0 : 0 ≤ v4) (g1 : v4 < 7) : gv d rR244 100 [some (.ref 363), u1, some (.int (iI v2)), some (.int (iI v3)), some (.int (iI v4)), u5, u6, u7] [] (mk m q w) =
    if iI (m 386 (Int.toNat v4)) = iI 1 then (gv d rR244 179 [some (.ref 363), u1, some (.int (iI v2)), some (.int (iI v3)), some (.int (iI v4)), u5, u6, u7] [] (mk m q w)) else (gv d rR244 121 [some (.ref 363), u1, some (.int (iI v2)), some (.int (iI (v3 + 1))), some (.int (iI v4)), some (.int (iI v4)), u6, u7] [] (mk m q w)) := by
  refine Eq.trans (k_ald0 rfl) ?_
  refine Eq.trans (k_gtR rfl s_363 rfl (by decide)) ?_
  refine Eq.trans (k_ild4 rfl) ?_
  refine Eq.trans (k_iald rfl s_386 (bl rfl) g0 g1) ?_
  refine Eq.trans (k_con rfl) ?_
  refine Eq.trans (k_i2ne rfl rfl) ?_
  refine ifc ?_ ?_
  · refine Eq.trans (k_go rfl rfl) ?_
    exact rfl
  · refine Eq.trans (k_inc3 rfl) ?_
    refine Eq.trans (k_ild4 rfl) ?_
    refine Eq.trans (k_ist5 rfl) ?_
    exact rfl
theorem b_244_121 {d : Nat} {m : Nat → Nat → Int} {q : Nat → Nat → Option Nat} {w : Option (Nat → Int64)} {u1 u6 u7 : Option Value} {v2 v3 v4 v5 : Int}  (g0 : 0 ≤ v5) (g1 : v5 < 7) : gv d rR244 121 [some (.ref 363), u1, some (.int (iI v2)), some (.int (iI v3)), some (.int (iI v4)), some (.int (iI v5)), u6, u7] [] (mk m q w) =
    if iI (m 386 (Int.toNat v5)) = iI 0 then (gv d rR244 151 [some (.ref 363), u1, some (.int (iI v2)), some (.int (iI v3)), some (.int (iI v4)), some (.int (iI v5)), some (.int (iI ((wr m 386 (Int.toNat v5) 1) 385 (Int.toNat v5)))), some (.int (iI 0))] [] (mk (wr m 386 (Int.toNat v5) 1) q w)) else (gv d rR244 179 [some (.ref 363), u1, some (.int (iI v2)), some (.int (iI v3)), some (.int (iI v4)), some (.int (iI v5)), u6, u7] [] (mk m q w)) := by
  refine Eq.trans (k_ald0 rfl) ?_
  refine Eq.trans (k_gtR rfl s_363 rfl (by decide)) ?_
  refine Eq.trans (k_ild5 rfl) ?_
  refine Eq.trans (k_iald rfl s_386 (bl rfl) g0 g1) ?_
  refine Eq.trans (k_i1ne rfl rfl) ?_
  refine ifc ?_ ?_
  · refine Eq.trans (k_ald0 rfl) ?_
    refine Eq.trans (k_gtR rfl s_363 rfl (by decide)) ?_
    refine Eq.trans (k_ild5 rfl) ?_
    refine Eq.trans (k_con rfl) ?_
    refine Eq.trans (k_iast rfl s_386 (bl rfl) g0 g1) ?_
    refine Eq.trans (k_ald0 rfl) ?_
    refine Eq.trans (k_gtR rfl s_363 rfl (by decide)) ?_
    refine Eq.trans (k_ild5 rfl) ?_
    refine Eq.trans (k_iald rfl s_385 (bl rfl) g0 g1) ?_
    refine Eq.trans (k_ist6 rfl) ?_
    refine Eq.trans (k_con rfl) ?_
    refine Eq.trans (k_ist7 rfl) ?_
    exact rfl
  · exact rfl
theorem b_244_151 {d : Nat} {m : Nat → Nat → Int} {q : Nat → Nat → Option Nat} {w : Option (Nat → Int64)} {u1 u5 : Option Value} {v2 v3 v4 v6 v7 : Int}  (g0 : 0 ≤ (28 + v7)) (g1 : (28 + v7) < 48) : gv d rR244 151 [some (.ref 363), u1, some (.int (iI v2)), some (.int (iI v3)), some (.int (iI v4)), u5, some (.int (iI v6)), some (.int (iI v7))] [] (mk m q w) =
    if iI (m 377 (Int.toNat (28 + v7))) = iI v6 then (gv d rR244 121 [some (.ref 363), u1, some (.int (iI v2)), some (.int (iI v3)), some (.int (iI v4)), some (.int (iI v7)), some (.int (iI v6)), some (.int (iI v7))] [] (mk m q w)) else (gv d rR244 151 [some (.ref 363), u1, some (.int (iI v2)), some (.int (iI v3)), some (.int (iI v4)), u5, some (.int (iI v6)), some (.int (iI (v7 + 1)))] [] (mk m q w)) := by
  refine Eq.trans (k_ald0 rfl) ?_
  refine Eq.trans (k_gtR rfl s_363 rfl (by decide)) ?_
  refine Eq.trans (k_bip rfl (by decide)) ?_
  refine Eq.trans (k_ild7 rfl) ?_
  refine Eq.trans (k_add rfl) ?_
  refine Eq.trans (k_iald rfl s_377 (bl rfl) g0 g1) ?_
  refine Eq.trans (k_ild6 rfl) ?_
  refine Eq.trans (k_i2eq rfl rfl) ?_
  refine ifc ?_ ?_
  · refine Eq.trans (k_ild7 rfl) ?_
    refine Eq.trans (k_ist5 rfl) ?_
    refine Eq.trans (k_go rfl rfl) ?_
    exact rfl
  · refine Eq.trans (k_inc7 rfl) ?_
    refine Eq.trans (k_go rfl rfl) ?_
    exact rfl
theorem b_244_179 {d : Nat} {m : Nat → Nat → Int} {q : Nat → Nat → Option Nat} {w : Option (Nat → Int64)} {u1 u5 u6 u7 : Option Value} {v2 v3 v4 : Int}   : gv d rR244 179 [some (.ref 363), u1, some (.int (iI v2)), some (.int (iI v3)), some (.int (iI v4)), u5, u6, u7] [] (mk m q w) =
    gv d rR244 91 [some (.ref 363), u1, some (.int (iI v2)), some (.int (iI v3)), some (.int (iI (v4 + 1))), u5, u6, u7] [] (mk m q w) := by
  refine Eq.trans (k_inc4 rfl) ?_
  refine Eq.trans (k_go rfl rfl) ?_
  exact rfl
theorem e_244 {d : Nat} (hd : 1 ≤ d) {a0 a1 : Value} (M : rMem) (h0 : a0.category = 1) (h1 : a1.category = 1) : ev d 244 [a0, a1] M = gv (d - 1) rR244 0 [some a0, some a1, none, none, none, none, none, none] [] M := ev_at hd q_244 rfl (by simp [*]) rfl
/-! FanHouseModel.isNextOrder()Z -/
theorem b_245_0 {d : Nat} {m : Nat → Nat → Int} {q : Nat → Nat → Option Nat} {w : Option (Nat → Int64)} {u1 u2 u3 u4 u5 : Option Value}   : gv d rR245 0 [some (.ref 363), u1, u2, u3, u4, u5] [] (mk m q w) =
    gv d rR245 7 [some (.ref 363), some (.int (iI ((m 363 15) - 2))), u2, u3, u4, u5] [] (mk m q w) := by
  refine Eq.trans (k_ald0 rfl) ?_
  refine Eq.trans (k_gtI rfl s_363 rfl (by decide)) ?_
  refine Eq.trans (k_con rfl) ?_
  refine Eq.trans (k_sub rfl) ?_
  refine Eq.trans (k_ist1 rfl) ?_
  exact rfl
theorem b_245_7 {d : Nat} {m : Nat → Nat → Int} {q : Nat → Nat → Option Nat} {w : Option (Nat → Int64)} {u2 u3 u4 u5 : Option Value} {v1 : Int}   : gv d rR245 7 [some (.ref 363), some (.int (iI v1)), u2, u3, u4, u5] [] (mk m q w) =
    if iI v1 < iI 0 then (gv d rR245 34 [some (.ref 363), some (.int (iI v1)), u2, u3, u4, u5] [] (mk m q w)) else (gv d rR245 11 [some (.ref 363), some (.int (iI v1)), u2, u3, u4, u5] [] (mk m q w)) := by
  refine Eq.trans (k_ild1 rfl) ?_
  refine Eq.trans (k_i1lt rfl rfl) ?_
  refine ifc ?_ ?_
  · exact rfl
  · exact rfl
theorem b_245_11 {d : Nat} {m : Nat → Nat → Int} {q : Nat → Nat → Option Nat} {w : Option (Nat → Int64)} {u2 u3 u4 u5 : Option Value} {v1 : Int}  (g0 : 0 ≤ v1) (g1 : v1 < 7) (g2 : 0 ≤ (v1 + 1)) (g3 : (v1 + 1) < 7) : gv d rR245 11 [some (.ref 363), some (.int (iI v1)), u2, u3, u4, u5] [] (mk m q w) =
    if iI (m 385 (Int.toNat (v1 + 1))) < iI (m 385 (Int.toNat v1)) then (gv d rR245 7 [some (.ref 363), some (.int (iI (v1 + (-1)))), u2, u3, u4, u5] [] (mk m q w)) else (gv d rR245 34 [some (.ref 363), some (.int (iI v1)), u2, u3, u4, u5] [] (mk m q w)) := by
  refine Eq.trans (k_ald0 rfl) ?_
  refine Eq.trans (k_gtR rfl s_363 rfl (by decide)) ?_
  refine Eq.trans (k_ild1 rfl) ?_
  refine Eq.trans (k_iald rfl s_385 (bl rfl) g0 g1) ?_
  refine Eq.trans (k_ald0 rfl) ?_
  refine Eq.trans (k_gtR rfl s_363 rfl (by decide)) ?_
  refine Eq.trans (k_ild1 rfl) ?_
  refine Eq.trans (k_con rfl) ?_
  refine Eq.trans (k_add rfl) ?_
  refine Eq.trans (k_iald rfl s_385 (bl rfl) g2 g3) ?_
  refine Eq.trans (k_i2le rfl rfl) ?_
  refine ifc ?_ ?_
  · refine Eq.trans (k_inc1 rfl) ?_
    refine Eq.trans (k_go rfl rfl) ?_
    exact rfl
  · exact rfl
theorem b_245_34 {d : Nat} {m : Nat → Nat → Int} {q : Nat → Nat → Option Nat} {w : Option (Nat → Int64)} {u2 u3 u4 u5 : Option Value} {v1 : Int}   : gv d rR245 34 [some (.ref 363), some (.int (iI v1)), u2, u3, u4, u5] [] (mk m q w) =
    if iI v1 < iI 0 then (some (.inl (some (.int (iI 0))), (mk m q w, (0, 0)))) else (gv d rR245 47 [some (.ref 363), some (.int (iI v1)), some (.int (iI ((m 363 15) - 1))), u3, u4, u5] [] (mk m q w)) := by
  refine Eq.trans (k_ild1 rfl) ?_
  refine Eq.trans (k_i1ge rfl rfl) ?_
  refine ifc ?_ ?_
  · refine Eq.trans (k_con rfl) ?_
    exact k_rtZ rfl rfl (Or.inl rfl)
  · refine Eq.trans (k_ald0 rfl) ?_
    refine Eq.trans (k_gtI rfl s_363 rfl (by decide)) ?_
    refine Eq.trans (k_con rfl) ?_
    refine Eq.trans (k_sub rfl) ?_
    refine Eq.trans (k_ist2 rfl) ?_
    exact rfl
theorem b_245_47 {d : Nat} {m : Nat → Nat → Int} {q : Nat → Nat → Option Nat} {w : Option (Nat → Int64)} {u3 u4 u5 : Option Value} {v1 v2 : Int}  (g0 : 0 ≤ v2) (g1 : v2 < 7) (g2 : 0 ≤ v1) (g3 : v1 < 7) : gv d rR245 47 [some (.ref 363), some (.int (iI v1)), some (.int (iI v2)), u3, u4, u5] [] (mk m q w) =
    if iI (m 385 (Int.toNat v2)) < iI (m 385 (Int.toNat v1)) then (gv d rR245 47 [some (.ref 363), some (.int (iI v1)), some (.int (iI (v2 + (-1)))), u3, u4, u5] [] (mk m q w)) else (gv d rR245 107 [some (.ref 363), some (.int (iI v1)), some (.int (iI v2)), some (.int (iI (m 385 (Int.toNat v1)))), some (.int (iI (v1 + 1))), some (.int (iI (((wr (wr m 385 (Int.toNat v1) (m 385 (Int.toNat v2))) 385 (Int.toNat v2) (m 385 (Int.toNat v1))) 363 15) - 1)))] [] (mk (wr (wr m 385 (Int.toNat v1) (m 385 (Int.toNat v2))) 385 (Int.toNat v2) (m 385 (Int.toNat v1))) q w)) := by
  refine Eq.trans (k_ald0 rfl) ?_
  refine Eq.trans (k_gtR rfl s_363 rfl (by decide)) ?_
  refine Eq.trans (k_ild2 rfl) ?_
  refine Eq.trans (k_iald rfl s_385 (bl rfl) g0 g1) ?_
  refine Eq.trans (k_ald0 rfl) ?_
  refine Eq.trans (k_gtR rfl s_363 rfl (by decide)) ?_
  refine Eq.trans (k_ild1 rfl) ?_
  refine Eq.trans (k_iald rfl s_385 (bl rfl) g2 g3) ?_
  refine Eq.trans (k_i2ge rfl rfl) ?_
  refine ifc ?_ ?_
  · refine Eq.trans (k_inc2 rfl) ?_
    refine Eq.trans (k_go rfl rfl) ?_
    exact rfl
  · refine Eq.trans (k_ald0 rfl) ?_
    refine Eq.trans (k_gtR rfl s_363 rfl (by decide)) ?_
    refine Eq.trans (k_ild1 rfl) ?_
    refine Eq.trans (k_iald rfl s_385 (bl rfl) g2 g3) ?_
    refine Eq.trans (k_ist3 rfl) ?_
    refine Eq.trans (k_ald0 rfl) ?_
    refine Eq.trans (k_gtR rfl s_363 rfl (by decide)) ?_
    refine Eq.trans (k_ild1 rfl) ?_
    refine Eq.trans (k_ald0 rfl) ?_
    refine Eq.trans (k_gtR rfl s_363 rfl (by decide)) ?_
    refine Eq.trans (k_ild2 rfl) ?_
    refine Eq.trans (k_iald rfl s_385 (bl rfl) g0 g1) ?_
    refine Eq.trans (k_iast rfl s_385 (bl rfl) g2 g3) ?_
    refine Eq.trans (k_ald0 rfl) ?_
    refine Eq.trans (k_gtR rfl s_363 rfl (by decide)) ?_
    refine Eq.trans (k_ild2 rfl) ?_
    refine Eq.trans (k_ild3 rfl) ?_
    refine Eq.trans (k_iast rfl s_385 (bl rfl) g0 g1) ?_
    refine Eq.trans (k_ild1 rfl) ?_
    refine Eq.trans (k_con rfl) ?_
    refine Eq.trans (k_add rfl) ?_
    refine Eq.trans (k_ist4 rfl) ?_
    refine Eq.trans (k_ald0 rfl) ?_
    refine Eq.trans (k_gtI rfl s_363 rfl (by decide)) ?_
    refine Eq.trans (k_con rfl) ?_
    refine Eq.trans (k_sub rfl) ?_
    refine Eq.trans (k_ist5 rfl) ?_
    exact rfl
theorem b_245_107 {d : Nat} {m : Nat → Nat → Int} {q : Nat → Nat → Option Nat} {w : Option (Nat → Int64)} {u1 u2 u3 : Option Value} {v4 v5 : Int}   : gv d rR245 107 [some (.ref 363), u1, u2, u3, some (.int (iI v4)), some (.int (iI v5))] [] (mk m q w) =
    if iI v4 < iI v5 then (gv d rR245 114 [some (.ref 363), u1, u2, u3, some (.int (iI v4)), some (.int (iI v5))] [] (mk m q w)) else (some (.inl (some (.int (iI 1))), (mk m q w, (0, 0)))) := by
  refine Eq.trans (k_ild4 rfl) ?_
  refine Eq.trans (k_ild5 rfl) ?_
  refine Eq.trans (k_i2ge rfl rfl) ?_
  refine ifc ?_ ?_
  · exact rfl
  · refine Eq.trans (k_con rfl) ?_
    exact k_rtZ rfl rfl (Or.inr rfl)
theorem b_245_114 {d : Nat} {m : Nat → Nat → Int} {q : Nat → Nat → Option Nat} {w : Option (Nat → Int64)} {u1 u2 u3 : Option Value} {v4 v5 : Int}  (g0 : 0 ≤ v4) (g1 : v4 < 7) (g2 : 0 ≤ v5) (g3 : v5 < 7) : gv d rR245 114 [some (.ref 363), u1, u2, u3, some (.int (iI v4)), some (.int (iI v5))] [] (mk m q w) =
    gv d rR245 107 [some (.ref 363), u1, u2, some (.int (iI (m 385 (Int.toNat v4)))), some (.int (iI (v4 + 1))), some (.int (iI (v5 + (-1))))] [] (mk (wr (wr m 385 (Int.toNat v4) (m 385 (Int.toNat v5))) 385 (Int.toNat v5) (m 385 (Int.toNat v4))) q w) := by
  refine Eq.trans (k_ald0 rfl) ?_
  refine Eq.trans (k_gtR rfl s_363 rfl (by decide)) ?_
  refine Eq.trans (k_ild4 rfl) ?_
  refine Eq.trans (k_iald rfl s_385 (bl rfl) g0 g1) ?_
  refine Eq.trans (k_ist3 rfl) ?_
  refine Eq.trans (k_ald0 rfl) ?_
  refine Eq.trans (k_gtR rfl s_363 rfl (by decide)) ?_
  refine Eq.trans (k_ild4 rfl) ?_
  refine Eq.trans (k_ald0 rfl) ?_
  refine Eq.trans (k_gtR rfl s_363 rfl (by decide)) ?_
  refine Eq.trans (k_ild5 rfl) ?_
  refine Eq.trans (k_iald rfl s_385 (bl rfl) g2 g3) ?_
  refine Eq.trans (k_iast rfl s_385 (bl rfl) g0 g1) ?_
  refine Eq.trans (k_ald0 rfl) ?_
  refine Eq.trans (k_gtR rfl s_363 rfl (by decide)) ?_
  refine Eq.trans (k_ild5 rfl) ?_
  refine Eq.trans (k_ild3 rfl) ?_
  refine Eq.trans (k_iast rfl s_385 (bl rfl) g2 g3) ?_
  refine Eq.trans (k_inc4 rfl) ?_
  refine Eq.trans (k_inc5 rfl) ?_
  refine Eq.trans (k_go rfl rfl) ?_
  exact rfl
theorem e_245 {d : Nat} (hd : 1 ≤ d) {a0 : Value} (M : rMem) (h0 : a0.category = 1) : ev d 245 [a0] M = gv (d - 1) rR245 0 [some a0, none, none, none, none, none] [] M := ev_at hd q_245 rfl (by simp [*]) rfl
/-! FanHouseModel.near(I)I -/
theorem b_246_0 {d : Nat} {m : Nat → Nat → Int} {q : Nat → Nat → Option Nat} {w : Option (Nat → Int64)} {u2 u3 : Option Value} {v1 : Int}   : gv d rR246 0 [some (.ref 363), some (.int (iI v1)), u2, u3] [] (mk m q w) =
    rBd (ev d 224 [.int (iI v1)] (mk (wr m 363 0 0) q w)) (fun v M' => gv d rR246 10 [some (.ref 363), some (.int (iI v1)), u2, u3] (v.toList ++ [.ref 363]) M') := by
  refine Eq.trans (k_ald0 rfl) ?_
  refine Eq.trans (k_con rfl) ?_
  refine Eq.trans (k_ptI rfl s_363 rfl rfl) ?_
  refine Eq.trans (k_ald0 rfl) ?_
  refine Eq.trans (k_ild1 rfl) ?_
  exact k_cS1 rfl (by decide) q_224 rfl rfl (bl rfl)
theorem b_246_10 {d : Nat} {m : Nat → Nat → Int} {q : Nat → Nat → Option Nat} {w : Option (Nat → Int64)} {u2 u3 : Option Value} {v1 s1 : Int}   : gv d rR246 10 [some (.ref 363), some (.int (iI v1)), u2, u3] [.int (iI s1), .ref 363] (mk m q w) =
    rBd (ev d 160 [.ref 363, .int (iI s1), .int (iI 1), .int (iI 1)] (mk m q w)) (fun v M' => gv d rR246 15 [some (.ref 363), some (.int (iI v1)), u2, u3] (v.toList ++ []) M') := by
  refine Eq.trans (k_con rfl) ?_
  refine Eq.trans (k_con rfl) ?_
  exact k_cV3 rfl s_363 q_160 rfl rfl rfl (bl rfl)
theorem b_246_15 {d : Nat} {m : Nat → Nat → Int} {q : Nat → Nat → Option Nat} {w : Option (Nat → Int64)} {u2 u3 : Option Value} {v1 s0 : Int}   : gv d rR246 15 [some (.ref 363), some (.int (iI v1)), u2, u3] [.int (iI s0)] (mk m q w) =
    if iI s0 = iI 0 then (some (.inl (some (.int (iI 0))), (mk m q w, (0, 0)))) else (if iI (m 363 15) < iI (m 381 0) then (some (.inl (some (.int (iI (-1)))), (mk m q w, (0, 0)))) else (rBd (ev d 200 [.ref 363] (mk m q w)) (fun v M' => gv d rR246 39 [some (.ref 363), some (.int (iI v1)), u2, u3] (v.toList ++ []) M'))) := by
  refine Eq.trans (k_i1ne rfl rfl) ?_
  refine ifc ?_ ?_
  · refine Eq.trans (k_con rfl) ?_
    exact k_rtI rfl rfl
  · refine Eq.trans (k_ald0 rfl) ?_
    refine Eq.trans (k_gtR rfl s_363 rfl (by decide)) ?_
    refine Eq.trans (k_con rfl) ?_
    refine Eq.trans (k_iald rfl s_381 (bl rfl) (by decide) (by decide)) ?_
    refine Eq.trans (k_ald0 rfl) ?_
    refine Eq.trans (k_gtI rfl s_363 rfl (by decide)) ?_
    refine Eq.trans (k_i2le rfl rfl) ?_
    refine ifc ?_ ?_
    · refine Eq.trans (k_con rfl) ?_
      exact k_rtI rfl rfl
    · refine Eq.trans (k_ald0 rfl) ?_
      exact k_cV0 rfl s_363 q_200 rfl rfl rfl (bl rfl)
theorem b_246_39 {d : Nat} {m : Nat → Nat → Int} {q : Nat → Nat → Option Nat} {w : Option (Nat → Int64)} {u2 u3 : Option Value} {v1 : Int}   : gv d rR246 39 [some (.ref 363), some (.int (iI v1)), u2, u3] [] (mk m q w) =
    gv d rR246 41 [some (.ref 363), some (.int (iI v1)), some (.int (iI 0)), u3] [] (mk m q w) := by
  refine Eq.trans (k_con rfl) ?_
  refine Eq.trans (k_ist2 rfl) ?_
  exact rfl
theorem b_246_41 {d : Nat} {m : Nat → Nat → Int} {q : Nat → Nat → Option Nat} {w : Option (Nat → Int64)} {u3 : Option Value} {v1 v2 : Int}   : gv d rR246 41 [some (.ref 363), some (.int (iI v1)), some (.int (iI v2)), u3] [] (mk m q w) =
    if iI v2 < iI 7 then (gv d rR246 47 [some (.ref 363), some (.int (iI v1)), some (.int (iI v2)), u3] [] (mk m q w)) else (gv d rR246 62 [some (.ref 363), some (.int (iI v1)), some (.int (iI (-1))), u3] [] (mk m q w)) := by
  refine Eq.trans (k_ild2 rfl) ?_
  refine Eq.trans (k_bip rfl (by decide)) ?_
  refine Eq.trans (k_i2ge rfl rfl) ?_
  refine ifc ?_ ?_
  · exact rfl
  · refine Eq.trans (k_con rfl) ?_
    refine Eq.trans (k_ist2 rfl) ?_
    exact rfl
theorem b_246_47 {d : Nat} {m : Nat → Nat → Int} {q : Nat → Nat → Option Nat} {w : Option (Nat → Int64)} {u3 : Option Value} {v1 v2 : Int}  (g0 : 0 ≤ v2) (g1 : v2 < 7) : gv d rR246 47 [some (.ref 363), some (.int (iI v1)), some (.int (iI v2)), u3] [] (mk m q w) =
    gv d rR246 41 [some (.ref 363), some (.int (iI v1)), some (.int (iI (v2 + 1))), u3] [] (mk (wr m 385 (Int.toNat v2) v2) q w) := by
  refine Eq.trans (k_ald0 rfl) ?_
  refine Eq.trans (k_gtR rfl s_363 rfl (by decide)) ?_
  refine Eq.trans (k_ild2 rfl) ?_
  refine Eq.trans (k_ild2 rfl) ?_
  refine Eq.trans (k_iast rfl s_385 (bl rfl) g0 g1) ?_
  refine Eq.trans (k_inc2 rfl) ?_
  refine Eq.trans (k_go rfl rfl) ?_
  exact rfl
theorem b_246_62 {d : Nat} {m : Nat → Nat → Int} {q : Nat → Nat → Option Nat} {w : Option (Nat → Int64)} {u3 : Option Value} {v1 v2 : Int}   : gv d rR246 62 [some (.ref 363), some (.int (iI v1)), some (.int (iI v2)), u3] [] (mk m q w) =
    rBd (ev d 244 [.ref 363, .int (iI v1)] (mk m q w)) (fun v M' => gv d rR246 67 [some (.ref 363), some (.int (iI v1)), some (.int (iI v2)), u3] (v.toList ++ []) M') := by
  refine Eq.trans (k_ald0 rfl) ?_
  refine Eq.trans (k_ild1 rfl) ?_
  exact k_cV1 rfl s_363 q_244 rfl rfl rfl (bl rfl)
theorem b_246_67 {d : Nat} {m : Nat → Nat → Int} {q : Nat → Nat → Option Nat} {w : Option (Nat → Int64)} {u3 : Option Value} {v1 v2 s0 : Int}   : gv d rR246 67 [some (.ref 363), some (.int (iI v1)), some (.int (iI v2)), u3] [.int (iI s0)] (mk m q w) =
    if iI s0 = iI (-1) then (gv d rR246 87 [some (.ref 363), some (.int (iI v1)), some (.int (iI v2)), some (.int (iI s0))] [] (mk m q w)) else (if iI v2 = iI (-1) then (gv d rR246 83 [some (.ref 363), some (.int (iI v1)), some (.int (iI v2)), some (.int (iI s0))] [] (mk m q w)) else (if iI s0 < iI v2 then (gv d rR246 83 [some (.ref 363), some (.int (iI v1)), some (.int (iI v2)), some (.int (iI s0))] [] (mk m q w)) else (gv d rR246 87 [some (.ref 363), some (.int (iI v1)), some (.int (iI v2)), some (.int (iI s0))] [] (mk m q w)))) := by
  refine Eq.trans (k_ist3 rfl) ?_
  refine Eq.trans (k_ild3 rfl) ?_
  refine Eq.trans (k_con rfl) ?_
  refine Eq.trans (k_i2eq rfl rfl) ?_
  refine ifc ?_ ?_
  · exact rfl
  · refine Eq.trans (k_ild2 rfl) ?_
    refine Eq.trans (k_con rfl) ?_
    refine Eq.trans (k_i2eq rfl rfl) ?_
    refine ifc ?_ ?_
    · exact rfl
    · refine Eq.trans (k_ild3 rfl) ?_
      refine Eq.trans (k_ild2 rfl) ?_
      refine Eq.trans (k_i2ge rfl rfl) ?_
      refine ifc ?_ ?_
      · exact rfl
      · exact rfl
theorem b_246_83 {d : Nat} {m : Nat → Nat → Int} {q : Nat → Nat → Option Nat} {w : Option (Nat → Int64)} {u2 : Option Value} {v1 v3 : Int}   : gv d rR246 83 [some (.ref 363), some (.int (iI v1)), u2, some (.int (iI v3))] [] (mk m q w) =
    gv d rR246 88 [some (.ref 363), some (.int (iI v1)), u2, some (.int (iI v3))] [.int (iI v3)] (mk m q w) := by
  refine Eq.trans (k_ild3 rfl) ?_
  refine Eq.trans (k_go rfl rfl) ?_
  exact rfl
theorem b_246_87 {d : Nat} {m : Nat → Nat → Int} {q : Nat → Nat → Option Nat} {w : Option (Nat → Int64)} {u3 : Option Value} {v1 v2 : Int}   : gv d rR246 87 [some (.ref 363), some (.int (iI v1)), some (.int (iI v2)), u3] [] (mk m q w) =
    gv d rR246 88 [some (.ref 363), some (.int (iI v1)), some (.int (iI v2)), u3] [.int (iI v2)] (mk m q w) := by
  refine Eq.trans (k_ild2 rfl) ?_
  exact rfl
theorem b_246_88 {d : Nat} {m : Nat → Nat → Int} {q : Nat → Nat → Option Nat} {w : Option (Nat → Int64)} {u2 u3 : Option Value} {v1 s0 : Int}   : gv d rR246 88 [some (.ref 363), some (.int (iI v1)), u2, u3] [.int (iI s0)] (mk m q w) =
    rBd (ev d 245 [.ref 363] (mk m q w)) (fun v M' => gv d rR246 93 [some (.ref 363), some (.int (iI v1)), some (.int (iI s0)), u3] (v.toList ++ []) M') := by
  refine Eq.trans (k_ist2 rfl) ?_
  refine Eq.trans (k_ald0 rfl) ?_
  exact k_cV0 rfl s_363 q_245 rfl rfl rfl (bl rfl)
theorem b_246_93 {d : Nat} {m : Nat → Nat → Int} {q : Nat → Nat → Option Nat} {w : Option (Nat → Int64)} {u3 : Option Value} {v1 v2 s0 : Int}   : gv d rR246 93 [some (.ref 363), some (.int (iI v1)), some (.int (iI v2)), u3] [.int (iI s0)] (mk m q w) =
    if iI s0 = iI 0 then (some (.inl (some (.int (iI v2))), (mk m q w, (0, 0)))) else (gv d rR246 62 [some (.ref 363), some (.int (iI v1)), some (.int (iI v2)), u3] [] (mk m q w)) := by
  refine Eq.trans (k_i1ne rfl rfl) ?_
  refine ifc ?_ ?_
  · refine Eq.trans (k_ild2 rfl) ?_
    exact k_rtI rfl rfl
  · exact rfl
theorem e_246 {d : Nat} (hd : 1 ≤ d) {a0 a1 : Value} (M : rMem) (h0 : a0.category = 1) (h1 : a1.category = 1) : ev d 246 [a0, a1] M = gv (d - 1) rR246 0 [some a0, some a1, none, none] [] M := ev_at hd q_246 rfl (by simp [*]) rfl
/-! FanHouseModel.lot(II)I -/
theorem b_247_0 {d : Nat} {m : Nat → Nat → Int} {q : Nat → Nat → Option Nat} {w : Option (Nat → Int64)} {u3 u4 u5 u6 u7 : Option Value} {v1 v2 : Int}   : gv d rR247 0 [some (.ref 363), some (.int (iI v1)), some (.int (iI v2)), u3, u4, u5, u6, u7] [] (mk m q w) =
    rBd (ev d 224 [.int (iI v1)] (mk (wr m 363 0 0) q w)) (fun v M' => gv d rR247 10 [some (.ref 363), some (.int (iI v1)), some (.int (iI v2)), u3, u4, u5, u6, u7] (v.toList ++ [.ref 363]) M') := by
  refine Eq.trans (k_ald0 rfl) ?_
  refine Eq.trans (k_con rfl) ?_
  refine Eq.trans (k_ptI rfl s_363 rfl rfl) ?_
  refine Eq.trans (k_ald0 rfl) ?_
  refine Eq.trans (k_ild1 rfl) ?_
  exact k_cS1 rfl (by decide) q_224 rfl rfl (bl rfl)
theorem b_247_10 {d : Nat} {m : Nat → Nat → Int} {q : Nat → Nat → Option Nat} {w : Option (Nat → Int64)} {u3 u4 u5 u6 u7 : Option Value} {v1 v2 s1 : Int}   : gv d rR247 10 [some (.ref 363), some (.int (iI v1)), some (.int (iI v2)), u3, u4, u5, u6, u7] [.int (iI s1), .ref 363] (mk m q w) =
    if iI s1 = iI 0 then (gv d rR247 26 [some (.ref 363), some (.int (iI v1)), some (.int (iI v2)), u3, u4, u5, u6, u7] [.ref 363] (mk m q w)) else (rBd (ev d 161 [.int (iI v2), .int (iI 0), .int (iI 1)] (mk m q w)) (fun v M' => gv d rR247 19 [some (.ref 363), some (.int (iI v1)), some (.int (iI v2)), u3, u4, u5, u6, u7] (v.toList ++ [.ref 363]) M')) := by
  refine Eq.trans (k_i1eq rfl rfl) ?_
  refine ifc ?_ ?_
  · exact rfl
  · refine Eq.trans (k_ild2 rfl) ?_
    refine Eq.trans (k_con rfl) ?_
    refine Eq.trans (k_con rfl) ?_
    exact k_cS3 rfl (by decide) q_161 rfl rfl (bl rfl)
theorem b_247_19 {d : Nat} {m : Nat → Nat → Int} {q : Nat → Nat → Option Nat} {w : Option (Nat → Int64)} {u3 u4 u5 u6 u7 : Option Value} {v1 v2 s1 : Int}   : gv d rR247 19 [some (.ref 363), some (.int (iI v1)), some (.int (iI v2)), u3, u4, u5, u6, u7] [.int (iI s1), .ref 363] (mk m q w) =
    if iI s1 = iI 0 then (gv d rR247 26 [some (.ref 363), some (.int (iI v1)), some (.int (iI v2)), u3, u4, u5, u6, u7] [.ref 363] (mk m q w)) else (gv d rR247 27 [some (.ref 363), some (.int (iI v1)), some (.int (iI v2)), u3, u4, u5, u6, u7] [.int (iI 1), .ref 363] (mk m q w)) := by
  refine Eq.trans (k_i1eq rfl rfl) ?_
  refine ifc ?_ ?_
  · exact rfl
  · refine Eq.trans (k_con rfl) ?_
    refine Eq.trans (k_go rfl rfl) ?_
    exact rfl
theorem b_247_26 {d : Nat} {m : Nat → Nat → Int} {q : Nat → Nat → Option Nat} {w : Option (Nat → Int64)} {u3 u4 u5 u6 u7 : Option Value} {v1 v2 : Int}   : gv d rR247 26 [some (.ref 363), some (.int (iI v1)), some (.int (iI v2)), u3, u4, u5, u6, u7] [.ref 363] (mk m q w) =
    gv d rR247 27 [some (.ref 363), some (.int (iI v1)), some (.int (iI v2)), u3, u4, u5, u6, u7] [.int (iI 0), .ref 363] (mk m q w) := by
  refine Eq.trans (k_con rfl) ?_
  exact rfl
theorem b_247_27 {d : Nat} {m : Nat → Nat → Int} {q : Nat → Nat → Option Nat} {w : Option (Nat → Int64)} {u3 u4 u5 u6 u7 : Option Value} {v1 v2 s1 : Int}   : gv d rR247 27 [some (.ref 363), some (.int (iI v1)), some (.int (iI v2)), u3, u4, u5, u6, u7] [.int (iI s1), .ref 363] (mk m q w) =
    rBd (ev d 160 [.ref 363, .int (iI s1), .int (iI 1), .int (iI 1)] (mk m q w)) (fun v M' => gv d rR247 32 [some (.ref 363), some (.int (iI v1)), some (.int (iI v2)), u3, u4, u5, u6, u7] (v.toList ++ []) M') := by
  refine Eq.trans (k_con rfl) ?_
  refine Eq.trans (k_con rfl) ?_
  exact k_cV3 rfl s_363 q_160 rfl rfl rfl (bl rfl)
theorem b_247_32 {d : Nat} {m : Nat → Nat → Int} {q : Nat → Nat → Option Nat} {w : Option (Nat → Int64)} {u3 u4 u5 u6 u7 : Option Value} {v1 v2 s0 : Int}   : gv d rR247 32 [some (.ref 363), some (.int (iI v1)), some (.int (iI v2)), u3, u4, u5, u6, u7] [.int (iI s0)] (mk m q w) =
    if iI s0 = iI 0 then (some (.inl (some (.int (iI 0))), (mk m q w, (0, 0)))) else (rBd (ev d 200 [.ref 363] (mk m q w)) (fun v M' => gv d rR247 41 [some (.ref 363), some (.int (iI v1)), some (.int (iI v2)), u3, u4, u5, u6, u7] (v.toList ++ []) M')) := by
  refine Eq.trans (k_i1ne rfl rfl) ?_
  refine ifc ?_ ?_
  · refine Eq.trans (k_con rfl) ?_
    exact k_rtI rfl rfl
  · refine Eq.trans (k_ald0 rfl) ?_
    exact k_cV0 rfl s_363 q_200 rfl rfl rfl (bl rfl)
theorem b_247_41 {d : Nat} {m : Nat → Nat → Int} {q : Nat → Nat → Option Nat} {w : Option (Nat → Int64)} {u3 u4 u5 u6 u7 : Option Value} {v1 v2 : Int}   : gv d rR247 41 [some (.ref 363), some (.int (iI v1)), some (.int (iI v2)), u3, u4, u5, u6, u7] [] (mk m q w) =
    rBd (ev d 239 [.ref 363, .int (iI v1), .int (iI (-1))] (mk m q w)) (fun v M' => gv d rR247 47 [some (.ref 363), some (.int (iI v1)), some (.int (iI v2)), u3, u4, u5, u6, u7] (v.toList ++ []) M') := by
  refine Eq.trans (k_ald0 rfl) ?_
  refine Eq.trans (k_ild1 rfl) ?_
  refine Eq.trans (k_con rfl) ?_
  exact k_cV2 rfl s_363 q_239 rfl rfl rfl (bl rfl)
theorem b_247_47 {d : Nat} {m : Nat → Nat → Int} {q : Nat → Nat → Option Nat} {w : Option (Nat → Int64)} {u1 u3 u4 u5 u6 u7 : Option Value} {v2 s0 : Int}   : gv d rR247 47 [some (.ref 363), u1, some (.int (iI v2)), u3, u4, u5, u6, u7] [.int (iI s0)] (mk m q w) =
    gv d rR247 54 [some (.ref 363), u1, some (.int (iI v2)), some (.int (iI s0)), some (.int (iI 1)), some (.int (iI 1)), u6, u7] [] (mk m q w) := by
  refine Eq.trans (k_ist3 rfl) ?_
  refine Eq.trans (k_con rfl) ?_
  refine Eq.trans (k_ist4 rfl) ?_
  refine Eq.trans (k_con rfl) ?_
  refine Eq.trans (k_ist5 rfl) ?_
  exact rfl
theorem b_247_54 {d : Nat} {m : Nat → Nat → Int} {q : Nat → Nat → Option Nat} {w : Option (Nat → Int64)} {u1 u6 u7 : Option Value} {v2 v3 v4 v5 : Int}   : gv d rR247 54 [some (.ref 363), u1, some (.int (iI v2)), some (.int (iI v3)), some (.int (iI v4)), some (.int (iI v5)), u6, u7] [] (mk m q w) =
    if iI (m 363 15) < iI v5 then (gv d rR247 85 [some (.ref 363), u1, some (.int (iI v2)), some (.int (iI v3)), some (.int (iI v4)), some (.int (iI v3)), some (.int (iI v4)), u7] [] (mk m q w)) else (gv d rR247 54 [some (.ref 363), u1, some (.int (iI v2)), some (.int (iI v3)), some (.int (iI (v4 * (2 * v5)))), some (.int (iI (v5 + 1))), u6, u7] [] (mk m q w)) := by
  refine Eq.trans (k_ild5 rfl) ?_
  refine Eq.trans (k_ald0 rfl) ?_
  refine Eq.trans (k_gtI rfl s_363 rfl (by decide)) ?_
  refine Eq.trans (k_i2gt rfl rfl) ?_
  refine ifc ?_ ?_
  · refine Eq.trans (k_ild3 rfl) ?_
    refine Eq.trans (k_ist5 rfl) ?_
    refine Eq.trans (k_ild4 rfl) ?_
    refine Eq.trans (k_ist6 rfl) ?_
    exact rfl
  · refine Eq.trans (k_ild4 rfl) ?_
    refine Eq.trans (k_con rfl) ?_
    refine Eq.trans (k_ild5 rfl) ?_
    refine Eq.trans (k_mul rfl) ?_
    refine Eq.trans (k_mul rfl) ?_
    refine Eq.trans (k_ist4 rfl) ?_
    refine Eq.trans (k_inc5 rfl) ?_
    refine Eq.trans (k_go rfl rfl) ?_
    exact rfl
theorem b_247_85 {d : Nat} {m : Nat → Nat → Int} {q : Nat → Nat → Option Nat} {w : Option (Nat → Int64)} {u0 u1 u7 : Option Value} {v2 v3 v4 v5 v6 : Int}   : gv d rR247 85 [u0, u1, some (.int (iI v2)), some (.int (iI v3)), some (.int (iI v4)), some (.int (iI v5)), some (.int (iI v6)), u7] [] (mk m q w) =
    if iI v6 = iI 0 then (if iI v2 = iI 0 then (gv d rR247 118 [u0, u1, some (.int (iI v2)), some (.int (iI v3)), some (.int (iI v4)), some (.int (iI v5)), some (.int (iI v6)), u7] [.int (iI v3)] (mk m q w)) else (gv d rR247 118 [u0, u1, some (.int (iI v2)), some (.int (iI v3)), some (.int (iI v4)), some (.int (iI v5)), some (.int (iI v6)), u7] [.int (iI v4)] (mk m q w))) else (gv d rR247 90 [u0, u1, some (.int (iI v2)), some (.int (iI v3)), some (.int (iI v4)), some (.int (iI v5)), some (.int (iI v6)), u7] [] (mk m q w)) := by
  refine Eq.trans (k_ild6 rfl) ?_
  refine Eq.trans (k_i1eq rfl rfl) ?_
  refine ifc ?_ ?_
  · refine Eq.trans (k_ild2 rfl) ?_
    refine Eq.trans (k_i1ne rfl rfl) ?_
    refine ifc ?_ ?_
    · refine Eq.trans (k_ild3 rfl) ?_
      refine Eq.trans (k_go rfl rfl) ?_
      exact rfl
    · refine Eq.trans (k_ild4 rfl) ?_
      exact rfl
  · exact rfl
theorem b_247_90 {d : Nat} {m : Nat → Nat → Int} {q : Nat → Nat → Option Nat} {w : Option (Nat → Int64)} {u0 u1 u7 : Option Value} {v2 v3 v4 v5 v6 : Int}  (g0 : iI v6 ≠ 0) : gv d rR247 90 [u0, u1, some (.int (iI v2)), some (.int (iI v3)), some (.int (iI v4)), some (.int (iI v5)), some (.int (iI v6)), u7] [] (mk m q w) =
    gv d rR247 85 [u0, u1, some (.int (iI v2)), some (.int (iI v3)), some (.int (iI v4)), some (.int (iI v6)), some (.int (iI (zRem v5 v6))), some (.int (iI (zRem v5 v6)))] [] (mk m q w) := by
  refine Eq.trans (k_ild5 rfl) ?_
  refine Eq.trans (k_ild6 rfl) ?_
  refine Eq.trans (k_rem rfl g0) ?_
  refine Eq.trans (k_ist7 rfl) ?_
  refine Eq.trans (k_ild6 rfl) ?_
  refine Eq.trans (k_ist5 rfl) ?_
  refine Eq.trans (k_ild7 rfl) ?_
  refine Eq.trans (k_ist6 rfl) ?_
  refine Eq.trans (k_go rfl rfl) ?_
  exact rfl
theorem b_247_118 {d : Nat} {m : Nat → Nat → Int} {q : Nat → Nat → Option Nat} {w : Option (Nat → Int64)} {u0 u1 u2 u3 u4 u6 u7 : Option Value} {v5 s0 : Int}  (g0 : iI v5 ≠ 0) : gv d rR247 118 [u0, u1, u2, u3, u4, some (.int (iI v5)), u6, u7] [.int (iI s0)] (mk m q w) =
    some (.inl (some (.int (iI (zDiv s0 v5)))), (mk m q w, (0, 0))) := by
  refine Eq.trans (k_ild5 rfl) ?_
  refine Eq.trans (k_div rfl g0) ?_
  exact k_rtI rfl rfl
theorem e_247 {d : Nat} (hd : 1 ≤ d) {a0 a1 a2 : Value} (M : rMem) (h0 : a0.category = 1) (h1 : a1.category = 1) (h2 : a2.category = 1) : ev d 247 [a0, a1, a2] M = gv (d - 1) rR247 0 [some a0, some a1, some a2, none, none, none, none, none] [] M := ev_at hd q_247 rfl (by simp [*]) rfl
/-! FanHouseModel.off(I)I -/
theorem b_248_0 {d : Nat} {m : Nat → Nat → Int} {q : Nat → Nat → Option Nat} {w : Option (Nat → Int64)} {u2 u3 : Option Value} {v1 : Int}   : gv d rR248 0 [some (.ref 363), some (.int (iI v1)), u2, u3] [] (mk m q w) =
    rBd (ev d 224 [.int (iI v1)] (mk (wr m 363 0 0) q w)) (fun v M' => gv d rR248 10 [some (.ref 363), some (.int (iI v1)), u2, u3] (v.toList ++ [.ref 363]) M') := by
  refine Eq.trans (k_ald0 rfl) ?_
  refine Eq.trans (k_con rfl) ?_
  refine Eq.trans (k_ptI rfl s_363 rfl rfl) ?_
  refine Eq.trans (k_ald0 rfl) ?_
  refine Eq.trans (k_ild1 rfl) ?_
  exact k_cS1 rfl (by decide) q_224 rfl rfl (bl rfl)
theorem b_248_10 {d : Nat} {m : Nat → Nat → Int} {q : Nat → Nat → Option Nat} {w : Option (Nat → Int64)} {u2 u3 : Option Value} {v1 s1 : Int}   : gv d rR248 10 [some (.ref 363), some (.int (iI v1)), u2, u3] [.int (iI s1), .ref 363] (mk m q w) =
    rBd (ev d 160 [.ref 363, .int (iI s1), .int (iI 1), .int (iI 1)] (mk m q w)) (fun v M' => gv d rR248 15 [some (.ref 363), some (.int (iI v1)), u2, u3] (v.toList ++ []) M') := by
  refine Eq.trans (k_con rfl) ?_
  refine Eq.trans (k_con rfl) ?_
  exact k_cV3 rfl s_363 q_160 rfl rfl rfl (bl rfl)
theorem b_248_15 {d : Nat} {m : Nat → Nat → Int} {q : Nat → Nat → Option Nat} {w : Option (Nat → Int64)} {u2 u3 : Option Value} {v1 s0 : Int}   : gv d rR248 15 [some (.ref 363), some (.int (iI v1)), u2, u3] [.int (iI s0)] (mk m q w) =
    if iI s0 = iI 0 then (some (.inl (some (.int (iI 0))), (mk m q w, (0, 0)))) else (rBd (ev d 200 [.ref 363] (mk m q w)) (fun v M' => gv d rR248 24 [some (.ref 363), some (.int (iI v1)), u2, u3] (v.toList ++ []) M')) := by
  refine Eq.trans (k_i1ne rfl rfl) ?_
  refine ifc ?_ ?_
  · refine Eq.trans (k_con rfl) ?_
    exact k_rtI rfl rfl
  · refine Eq.trans (k_ald0 rfl) ?_
    exact k_cV0 rfl s_363 q_200 rfl rfl rfl (bl rfl)
theorem b_248_24 {d : Nat} {m : Nat → Nat → Int} {q : Nat → Nat → Option Nat} {w : Option (Nat → Int64)} {u2 u3 : Option Value} {v1 : Int}   : gv d rR248 24 [some (.ref 363), some (.int (iI v1)), u2, u3] [] (mk m q w) =
    gv d rR248 28 [some (.ref 363), some (.int (iI v1)), some (.int (iI 0)), some (.int (iI 0))] [] (mk m q w) := by
  refine Eq.trans (k_con rfl) ?_
  refine Eq.trans (k_ist2 rfl) ?_
  refine Eq.trans (k_con rfl) ?_
  refine Eq.trans (k_ist3 rfl) ?_
  exact rfl
theorem b_248_28 {d : Nat} {m : Nat → Nat → Int} {q : Nat → Nat → Option Nat} {w : Option (Nat → Int64)} {v1 v2 v3 : Int}   : gv d rR248 28 [some (.ref 363), some (.int (iI v1)), some (.int (iI v2)), some (.int (iI v3))] [] (mk m q w) =
    if iI v3 < iI (m 363 15) then (rBd (ev d 233 [.ref 363, .int (iI 0), .int (iI v1), .int (iI v3)] (mk m q w)) (fun v M' => gv d rR248 44 [some (.ref 363), some (.int (iI v1)), some (.int (iI v2)), some (.int (iI v3))] (v.toList ++ [.int (iI v2)]) M')) else (some (.inl (some (.int (iI v2))), (mk m q w, (0, 0)))) := by
  refine Eq.trans (k_ild3 rfl) ?_
  refine Eq.trans (k_ald0 rfl) ?_
  refine Eq.trans (k_gtI rfl s_363 rfl (by decide)) ?_
  refine Eq.trans (k_i2ge rfl rfl) ?_
  refine ifc ?_ ?_
  · refine Eq.trans (k_ild2 rfl) ?_
    refine Eq.trans (k_ald0 rfl) ?_
    refine Eq.trans (k_con rfl) ?_
    refine Eq.trans (k_ild1 rfl) ?_
    refine Eq.trans (k_ild3 rfl) ?_
    exact k_cV3 rfl s_363 q_233 rfl rfl rfl (bl rfl)
  · refine Eq.trans (k_ild2 rfl) ?_
    exact k_rtI rfl rfl
theorem b_248_44 {d : Nat} {m : Nat → Nat → Int} {q : Nat → Nat → Option Nat} {w : Option (Nat → Int64)} {u2 : Option Value} {v1 v3 s0 s1 : Int}  (g0 : 0 ≤ (28 + v3)) (g1 : (28 + v3) < 48) : gv d rR248 44 [some (.ref 363), some (.int (iI v1)), u2, some (.int (iI v3))] [.int (iI s1), .int (iI s0)] (mk m q w) =
    rBd (ev d 209 [.ref 363, .int (iI (m 377 (Int.toNat (28 + v3)))), .int (iI v1)] (mk m q w)) (fun v M' => gv d rR248 58 [some (.ref 363), some (.int (iI v1)), u2, some (.int (iI v3))] (v.toList ++ [.int (iI s1), .int (iI s0)]) M') := by
  refine Eq.trans (k_ald0 rfl) ?_
  refine Eq.trans (k_ald0 rfl) ?_
  refine Eq.trans (k_gtR rfl s_363 rfl (by decide)) ?_
  refine Eq.trans (k_bip rfl (by decide)) ?_
  refine Eq.trans (k_ild3 rfl) ?_
  refine Eq.trans (k_add rfl) ?_
  refine Eq.trans (k_iald rfl s_377 (bl rfl) g0 g1) ?_
  refine Eq.trans (k_ild1 rfl) ?_
  exact k_cV2 rfl s_363 q_209 rfl rfl rfl (bl rfl)
theorem b_248_58 {d : Nat} {m : Nat → Nat → Int} {q : Nat → Nat → Option Nat} {w : Option (Nat → Int64)} {u2 : Option Value} {v1 v3 s0 s1 s2 : Int}   : gv d rR248 58 [some (.ref 363), some (.int (iI v1)), u2, some (.int (iI v3))] [.int (iI s2), .int (iI s1), .int (iI s0)] (mk m q w) =
    rBd (ev d 234 [.int (iI s1), .int (iI s2)] (mk m q w)) (fun v M' => gv d rR248 61 [some (.ref 363), some (.int (iI v1)), u2, some (.int (iI v3))] (v.toList ++ [.int (iI s0)]) M') := by
  exact k_cS2 rfl (by decide) q_234 rfl rfl (bl rfl)
theorem b_248_61 {d : Nat} {m : Nat → Nat → Int} {q : Nat → Nat → Option Nat} {w : Option (Nat → Int64)} {u2 : Option Value} {v1 v3 s0 s1 : Int}   : gv d rR248 61 [some (.ref 363), some (.int (iI v1)), u2, some (.int (iI v3))] [.int (iI s1), .int (iI s0)] (mk m q w) =
    if iI s1 = iI 0 then (gv d rR248 69 [some (.ref 363), some (.int (iI v1)), u2, some (.int (iI v3))] [.int (iI 1), .int (iI s0)] (mk m q w)) else (gv d rR248 69 [some (.ref 363), some (.int (iI v1)), u2, some (.int (iI v3))] [.int (iI 0), .int (iI s0)] (mk m q w)) := by
  refine Eq.trans (k_i1eq rfl rfl) ?_
  refine ifc ?_ ?_
  · refine Eq.trans (k_con rfl) ?_
    exact rfl
  · refine Eq.trans (k_con rfl) ?_
    refine Eq.trans (k_go rfl rfl) ?_
    exact rfl
theorem b_248_69 {d : Nat} {m : Nat → Nat → Int} {q : Nat → Nat → Option Nat} {w : Option (Nat → Int64)} {u2 : Option Value} {v1 v3 s0 s1 : Int}   : gv d rR248 69 [some (.ref 363), some (.int (iI v1)), u2, some (.int (iI v3))] [.int (iI s1), .int (iI s0)] (mk m q w) =
    gv d rR248 28 [some (.ref 363), some (.int (iI v1)), some (.int (iI (s0 + s1))), some (.int (iI (v3 + 1)))] [] (mk m q w) := by
  refine Eq.trans (k_add rfl) ?_
  refine Eq.trans (k_ist2 rfl) ?_
  refine Eq.trans (k_inc3 rfl) ?_
  refine Eq.trans (k_go rfl rfl) ?_
  exact rfl
theorem e_248 {d : Nat} (hd : 1 ≤ d) {a0 a1 : Value} (M : rMem) (h0 : a0.category = 1) (h1 : a1.category = 1) : ev d 248 [a0, a1] M = gv (d - 1) rR248 0 [some a0, some a1, none, none] [] M := ev_at hd q_248 rfl (by simp [*]) rfl
/-! FanHouseModel.run(II)I -/
theorem b_249_0 {d : Nat} {m : Nat → Nat → Int} {q : Nat → Nat → Option Nat} {w : Option (Nat → Int64)} {u3 u4 u5 u6 : Option Value} {v1 v2 : Int}   : gv d rR249 0 [some (.ref 363), some (.int (iI v1)), some (.int (iI v2)), u3, u4, u5, u6] [] (mk m q w) =
    rBd (ev d 224 [.int (iI v1)] (mk (wr m 363 0 0) q w)) (fun v M' => gv d rR249 10 [some (.ref 363), some (.int (iI v1)), some (.int (iI v2)), u3, u4, u5, u6] (v.toList ++ [.ref 363]) M') := by
  refine Eq.trans (k_ald0 rfl) ?_
  refine Eq.trans (k_con rfl) ?_
  refine Eq.trans (k_ptI rfl s_363 rfl rfl) ?_
  refine Eq.trans (k_ald0 rfl) ?_
  refine Eq.trans (k_ild1 rfl) ?_
  exact k_cS1 rfl (by decide) q_224 rfl rfl (bl rfl)
theorem b_249_10 {d : Nat} {m : Nat → Nat → Int} {q : Nat → Nat → Option Nat} {w : Option (Nat → Int64)} {u3 u4 u5 u6 : Option Value} {v1 v2 s1 : Int}   : gv d rR249 10 [some (.ref 363), some (.int (iI v1)), some (.int (iI v2)), u3, u4, u5, u6] [.int (iI s1), .ref 363] (mk m q w) =
    if iI s1 = iI 0 then (gv d rR249 26 [some (.ref 363), some (.int (iI v1)), some (.int (iI v2)), u3, u4, u5, u6] [.ref 363] (mk m q w)) else (rBd (ev d 161 [.int (iI v2), .int (iI 0), .int (iI 1)] (mk m q w)) (fun v M' => gv d rR249 19 [some (.ref 363), some (.int (iI v1)), some (.int (iI v2)), u3, u4, u5, u6] (v.toList ++ [.ref 363]) M')) := by
  refine Eq.trans (k_i1eq rfl rfl) ?_
  refine ifc ?_ ?_
  · exact rfl
  · refine Eq.trans (k_ild2 rfl) ?_
    refine Eq.trans (k_con rfl) ?_
    refine Eq.trans (k_con rfl) ?_
    exact k_cS3 rfl (by decide) q_161 rfl rfl (bl rfl)
theorem b_249_19 {d : Nat} {m : Nat → Nat → Int} {q : Nat → Nat → Option Nat} {w : Option (Nat → Int64)} {u3 u4 u5 u6 : Option Value} {v1 v2 s1 : Int}   : gv d rR249 19 [some (.ref 363), some (.int (iI v1)), some (.int (iI v2)), u3, u4, u5, u6] [.int (iI s1), .ref 363] (mk m q w) =
    if iI s1 = iI 0 then (gv d rR249 26 [some (.ref 363), some (.int (iI v1)), some (.int (iI v2)), u3, u4, u5, u6] [.ref 363] (mk m q w)) else (gv d rR249 27 [some (.ref 363), some (.int (iI v1)), some (.int (iI v2)), u3, u4, u5, u6] [.int (iI 1), .ref 363] (mk m q w)) := by
  refine Eq.trans (k_i1eq rfl rfl) ?_
  refine ifc ?_ ?_
  · exact rfl
  · refine Eq.trans (k_con rfl) ?_
    refine Eq.trans (k_go rfl rfl) ?_
    exact rfl
theorem b_249_26 {d : Nat} {m : Nat → Nat → Int} {q : Nat → Nat → Option Nat} {w : Option (Nat → Int64)} {u3 u4 u5 u6 : Option Value} {v1 v2 : Int}   : gv d rR249 26 [some (.ref 363), some (.int (iI v1)), some (.int (iI v2)), u3, u4, u5, u6] [.ref 363] (mk m q w) =
    gv d rR249 27 [some (.ref 363), some (.int (iI v1)), some (.int (iI v2)), u3, u4, u5, u6] [.int (iI 0), .ref 363] (mk m q w) := by
  refine Eq.trans (k_con rfl) ?_
  exact rfl
theorem b_249_27 {d : Nat} {m : Nat → Nat → Int} {q : Nat → Nat → Option Nat} {w : Option (Nat → Int64)} {u3 u4 u5 u6 : Option Value} {v1 v2 s1 : Int}   : gv d rR249 27 [some (.ref 363), some (.int (iI v1)), some (.int (iI v2)), u3, u4, u5, u6] [.int (iI s1), .ref 363] (mk m q w) =
    rBd (ev d 160 [.ref 363, .int (iI s1), .int (iI 1), .int (iI 1)] (mk m q w)) (fun v M' => gv d rR249 32 [some (.ref 363), some (.int (iI v1)), some (.int (iI v2)), u3, u4, u5, u6] (v.toList ++ []) M') := by
  refine Eq.trans (k_con rfl) ?_
  refine Eq.trans (k_con rfl) ?_
  exact k_cV3 rfl s_363 q_160 rfl rfl rfl (bl rfl)
theorem b_249_32 {d : Nat} {m : Nat → Nat → Int} {q : Nat → Nat → Option Nat} {w : Option (Nat → Int64)} {u3 u4 u5 u6 : Option Value} {v1 v2 s0 : Int}   : gv d rR249 32 [some (.ref 363), some (.int (iI v1)), some (.int (iI v2)), u3, u4, u5, u6] [.int (iI s0)] (mk m q w) =
    if iI s0 = iI 0 then (some (.inl (some (.int (iI 0))), (mk m q w, (0, 0)))) else (rBd (ev d 200 [.ref 363] (mk m q w)) (fun v M' => gv d rR249 41 [some (.ref 363), some (.int (iI v1)), some (.int (iI v2)), u3, u4, u5, u6] (v.toList ++ []) M')) := by
  refine Eq.trans (k_i1ne rfl rfl) ?_
  refine ifc ?_ ?_
  · refine Eq.trans (k_con rfl) ?_
    exact k_rtI rfl rfl
  · refine Eq.trans (k_ald0 rfl) ?_
    exact k_cV0 rfl s_363 q_200 rfl rfl rfl (bl rfl)
theorem b_249_41 {d : Nat} {m : Nat → Nat → Int} {q : Nat → Nat → Option Nat} {w : Option (Nat → Int64)} {u3 u4 u5 u6 : Option Value} {v1 v2 : Int}   : gv d rR249 41 [some (.ref 363), some (.int (iI v1)), some (.int (iI v2)), u3, u4, u5, u6] [] (mk m q w) =
    gv d rR249 49 [some (.ref 363), some (.int (iI v1)), some (.int (iI v2)), some (.int (iI (-1))), some (.int (iI 0)), some (.int (iI 0)), u6] [] (mk m q w) := by
  refine Eq.trans (k_con rfl) ?_
  refine Eq.trans (k_ist3 rfl) ?_
  refine Eq.trans (k_con rfl) ?_
  refine Eq.trans (k_ist4 rfl) ?_
  refine Eq.trans (k_con rfl) ?_
  refine Eq.trans (k_ist5 rfl) ?_
  exact rfl
theorem b_249_49 {d : Nat} {m : Nat → Nat → Int} {q : Nat → Nat → Option Nat} {w : Option (Nat → Int64)} {u6 : Option Value} {v1 v2 v3 v4 v5 : Int}   : gv d rR249 49 [some (.ref 363), some (.int (iI v1)), some (.int (iI v2)), some (.int (iI v3)), some (.int (iI v4)), some (.int (iI v5)), u6] [] (mk m q w) =
    if iI v5 < iI (m 363 15) then (gv d rR249 61 [some (.ref 363), some (.int (iI v1)), some (.int (iI v2)), some (.int (iI v3)), some (.int (iI v4)), some (.int (iI v5)), some (.int (iI 1))] [] (mk m q w)) else (if iI v2 = iI 0 then (gv d rR249 137 [some (.ref 363), some (.int (iI v1)), some (.int (iI v2)), some (.int (iI v3)), some (.int (iI v4)), some (.int (iI v5)), u6] [.int (iI v4)] (mk m q w)) else (gv d rR249 137 [some (.ref 363), some (.int (iI v1)), some (.int (iI v2)), some (.int (iI v3)), some (.int (iI v4)), some (.int (iI v5)), u6] [.int (iI v3)] (mk m q w))) := by
  refine Eq.trans (k_ild5 rfl) ?_
  refine Eq.trans (k_ald0 rfl) ?_
  refine Eq.trans (k_gtI rfl s_363 rfl (by decide)) ?_
  refine Eq.trans (k_i2ge rfl rfl) ?_
  refine ifc ?_ ?_
  · refine Eq.trans (k_con rfl) ?_
    refine Eq.trans (k_ist6 rfl) ?_
    exact rfl
  · refine Eq.trans (k_ild2 rfl) ?_
    refine Eq.trans (k_i1ne rfl rfl) ?_
    refine ifc ?_ ?_
    · refine Eq.trans (k_ild4 rfl) ?_
      refine Eq.trans (k_go rfl rfl) ?_
      exact rfl
    · refine Eq.trans (k_ild3 rfl) ?_
      exact rfl
theorem b_249_61 {d : Nat} {m : Nat → Nat → Int} {q : Nat → Nat → Option Nat} {w : Option (Nat → Int64)} {v1 v2 v3 v4 v5 v6 : Int}   : gv d rR249 61 [some (.ref 363), some (.int (iI v1)), some (.int (iI v2)), some (.int (iI v3)), some (.int (iI v4)), some (.int (iI v5)), some (.int (iI v6))] [] (mk m q w) =
    if iI (v5 + v6) < iI (m 363 15) then (rBd (ev d 217 [.ref 363, .int (iI v1), .int (iI (v5 + v6))] (mk m q w)) (fun v M' => gv d rR249 83 [some (.ref 363), some (.int (iI v1)), some (.int (iI v2)), some (.int (iI v3)), some (.int (iI v4)), some (.int (iI v5)), some (.int (iI v6))] (v.toList ++ []) M')) else (gv d rR249 99 [some (.ref 363), some (.int (iI v1)), some (.int (iI v2)), some (.int (iI v3)), some (.int (iI v4)), some (.int (iI v5)), some (.int (iI v6))] [] (mk m q w)) := by
  refine Eq.trans (k_ild5 rfl) ?_
  refine Eq.trans (k_ild6 rfl) ?_
  refine Eq.trans (k_add rfl) ?_
  refine Eq.trans (k_ald0 rfl) ?_
  refine Eq.trans (k_gtI rfl s_363 rfl (by decide)) ?_
  refine Eq.trans (k_i2ge rfl rfl) ?_
  refine ifc ?_ ?_
  · refine Eq.trans (k_ald0 rfl) ?_
    refine Eq.trans (k_ild1 rfl) ?_
    refine Eq.trans (k_ild5 rfl) ?_
    refine Eq.trans (k_ild6 rfl) ?_
    refine Eq.trans (k_add rfl) ?_
    exact k_cV2 rfl s_363 q_217 rfl rfl rfl (bl rfl)
  · exact rfl
theorem b_249_83 {d : Nat} {m : Nat → Nat → Int} {q : Nat → Nat → Option Nat} {w : Option (Nat → Int64)} {v1 v2 v3 v4 v5 v6 s0 : Int}   : gv d rR249 83 [some (.ref 363), some (.int (iI v1)), some (.int (iI v2)), some (.int (iI v3)), some (.int (iI v4)), some (.int (iI v5)), some (.int (iI v6))] [.int (iI s0)] (mk m q w) =
    rBd (ev d 217 [.ref 363, .int (iI v1), .int (iI v5)] (mk m q w)) (fun v M' => gv d rR249 90 [some (.ref 363), some (.int (iI v1)), some (.int (iI v2)), some (.int (iI v3)), some (.int (iI v4)), some (.int (iI v5)), some (.int (iI v6))] (v.toList ++ [.int (iI s0)]) M') := by
  refine Eq.trans (k_ald0 rfl) ?_
  refine Eq.trans (k_ild1 rfl) ?_
  refine Eq.trans (k_ild5 rfl) ?_
  exact k_cV2 rfl s_363 q_217 rfl rfl rfl (bl rfl)
theorem b_249_90 {d : Nat} {m : Nat → Nat → Int} {q : Nat → Nat → Option Nat} {w : Option (Nat → Int64)} {v1 v2 v3 v4 v5 v6 s0 s1 : Int}   : gv d rR249 90 [some (.ref 363), some (.int (iI v1)), some (.int (iI v2)), some (.int (iI v3)), some (.int (iI v4)), some (.int (iI v5)), some (.int (iI v6))] [.int (iI s1), .int (iI s0)] (mk m q w) =
    if iI s0 = iI s1 then (gv d rR249 61 [some (.ref 363), some (.int (iI v1)), some (.int (iI v2)), some (.int (iI v3)), some (.int (iI v4)), some (.int (iI v5)), some (.int (iI (v6 + 1)))] [] (mk m q w)) else (gv d rR249 99 [some (.ref 363), some (.int (iI v1)), some (.int (iI v2)), some (.int (iI v3)), some (.int (iI v4)), some (.int (iI v5)), some (.int (iI v6))] [] (mk m q w)) := by
  refine Eq.trans (k_i2ne rfl rfl) ?_
  refine ifc ?_ ?_
  · refine Eq.trans (k_inc6 rfl) ?_
    refine Eq.trans (k_go rfl rfl) ?_
    exact rfl
  · exact rfl
theorem b_249_99 {d : Nat} {m : Nat → Nat → Int} {q : Nat → Nat → Option Nat} {w : Option (Nat → Int64)} {v1 v2 v3 v4 v5 v6 : Int}   : gv d rR249 99 [some (.ref 363), some (.int (iI v1)), some (.int (iI v2)), some (.int (iI v3)), some (.int (iI v4)), some (.int (iI v5)), some (.int (iI v6))] [] (mk m q w) =
    if iI v4 < iI v6 then (rBd (ev d 217 [.ref 363, .int (iI v1), .int (iI v5)] (mk m q w)) (fun v M' => gv d rR249 116 [some (.ref 363), some (.int (iI v1)), some (.int (iI v2)), some (.int (iI v3)), some (.int (iI v4)), some (.int (iI v5)), some (.int (iI v6))] (v.toList ++ []) M')) else (gv d rR249 121 [some (.ref 363), some (.int (iI v1)), some (.int (iI v2)), some (.int (iI v3)), some (.int (iI v4)), some (.int (iI v5)), some (.int (iI v6))] [] (mk m q w)) := by
  refine Eq.trans (k_ild6 rfl) ?_
  refine Eq.trans (k_ild4 rfl) ?_
  refine Eq.trans (k_i2gt rfl rfl) ?_
  refine ifc ?_ ?_
  · refine Eq.trans (k_ald0 rfl) ?_
    refine Eq.trans (k_ild1 rfl) ?_
    refine Eq.trans (k_ild5 rfl) ?_
    exact k_cV2 rfl s_363 q_217 rfl rfl rfl (bl rfl)
  · refine Eq.trans (k_go rfl rfl) ?_
    exact rfl
theorem b_249_116 {d : Nat} {m : Nat → Nat → Int} {q : Nat → Nat → Option Nat} {w : Option (Nat → Int64)} {u3 u4 : Option Value} {v1 v2 v5 v6 s0 : Int}   : gv d rR249 116 [some (.ref 363), some (.int (iI v1)), some (.int (iI v2)), u3, u4, some (.int (iI v5)), some (.int (iI v6))] [.int (iI s0)] (mk m q w) =
    gv d rR249 121 [some (.ref 363), some (.int (iI v1)), some (.int (iI v2)), some (.int (iI s0)), some (.int (iI v6)), some (.int (iI v5)), some (.int (iI v6))] [] (mk m q w) := by
  refine Eq.trans (k_ist3 rfl) ?_
  refine Eq.trans (k_ild6 rfl) ?_
  refine Eq.trans (k_ist4 rfl) ?_
  exact rfl
theorem b_249_121 {d : Nat} {m : Nat → Nat → Int} {q : Nat → Nat → Option Nat} {w : Option (Nat → Int64)} {u6 : Option Value} {v1 v2 v3 v4 v5 : Int}   : gv d rR249 121 [some (.ref 363), some (.int (iI v1)), some (.int (iI v2)), some (.int (iI v3)), some (.int (iI v4)), some (.int (iI v5)), u6] [] (mk m q w) =
    gv d rR249 49 [some (.ref 363), some (.int (iI v1)), some (.int (iI v2)), some (.int (iI v3)), some (.int (iI v4)), some (.int (iI (v5 + 1))), u6] [] (mk m q w) := by
  refine Eq.trans (k_inc5 rfl) ?_
  refine Eq.trans (k_go rfl rfl) ?_
  exact rfl
theorem b_249_137 {d : Nat} {m : Nat → Nat → Int} {q : Nat → Nat → Option Nat} {w : Option (Nat → Int64)} {u0 u1 u2 u3 u4 u5 u6 : Option Value} {s0 : Int}   : gv d rR249 137 [u0, u1, u2, u3, u4, u5, u6] [.int (iI s0)] (mk m q w) =
    some (.inl (some (.int (iI s0))), (mk m q w, (0, 0))) := by
  exact k_rtI rfl rfl
theorem e_249 {d : Nat} (hd : 1 ≤ d) {a0 a1 a2 : Value} (M : rMem) (h0 : a0.category = 1) (h1 : a1.category = 1) (h2 : a2.category = 1) : ev d 249 [a0, a1, a2] M = gv (d - 1) rR249 0 [some a0, some a1, some a2, none, none, none, none] [] M := ev_at hd q_249 rfl (by simp [*]) rfl
