/-! ===== the calls ahead and lasts, alike ===== -/
theorem qC_trans {x : Nat} {m m1 m2 : Nat → Nat → Int} (h : qC x m m1) (h2 : qC x m1 m2) : qC x m m2 := fun a a1 a2 a3 a4 a5 a6 a7 => (h2 a a1 a2 a3 a4 a5 a6 a7).trans (h a a1 a2 a3 a4 a5 a6 a7)
theorem qX_trans {m m1 m2 : Nat → Nat → Int} (h : qX m m1) (h2 : qX m1 m2) : qX m m2 := fun a a1 a2 a3 => (h2 a a1 a2 a3).trans (h a a1 a2 a3)
theorem qX_xR {m m1 : Nat → Nat → Int} {n r z : Nat} {C : Nat → Int} (h : qX m m1) (hx : xR m n r C z) : xR m1 n r C z := by
  unfold xR at *
  rw [h 363 (by decide) (by decide) (by decide), h 370 (by decide) (by decide) (by decide), h 371 (by decide) (by decide) (by decide)]
  exact hx
theorem clsL_q {x y z : Nat} {m m1 : Nat → Nat → Int} (hx : iFan x) (h : qC x m m1) (hy : clsL m y z) : clsL m1 y z ∧ m1 (y + 1) = m (y + 1) := by
  obtain ⟨h1, h2, h3⟩ := hy
  have hl := law_rng h1
  have hr := fan_rng hx
  have e1 : m1 (y + 1) = m (y + 1) := h (y + 1) (by omega) (by omega) (by omega) (by omega) (by omega) (by omega) (by omega)
  have e2 : m1 y = m y := h y (by omega) (by omega) (by omega) (by omega) (by omega) (by omega) (by omega)
  exact ⟨⟨h1, by rw [e1]; exact h2, by rw [e2]; exact h3⟩, e1⟩
theorem gS_fn {m : Nat → Nat → Int} {n r Q : Nat} {G : Nat → Int} (hF : fnR n r Q (m 161) (m 162) (m 163) G) : gS m := by
  obtain ⟨-, -, -, -, -, ⟨-, -, f7⟩, -, -, c1, -⟩ := hF
  refine ⟨fun i hi => c1 i hi, ?_⟩
  omega
theorem fnR_bc {m : Nat → Nat → Int} {n r Q x y : Nat} {G : Nat → Int} (hF : fnR n r Q (m y) (m (y + 1)) (m (y + 2)) G) : fnR n r Q (bc m x y x) (bc m x y (x + 1)) (bc m x y (x + 2)) G := fnR_congr (fun j hj => bc_0 m hj) (fun j hj => bc_1 m hj) (fun j hj => bc_2 m hj) (fun _ _ => rfl) hF
theorem fnR_Q {n r Q Q1 : Nat} {A B C G : Nat → Int} (hF : fnR n r Q A B C G) (h : Q ≤ Q1) : fnR n r Q1 A B C G := by
  obtain ⟨f0, f2, f3, f4, f5⟩ := hF
  exact ⟨f0, f2, f3, ⟨f4.1, f4.2.1, by omega⟩, f5⟩
/-- a quiet change of both: what queries with a fan of their own leave -/
theorem qs_C {x : Nat} {m m1 : Nat → Nat → Int} (hx : x = 161 ∨ x = 165 ∨ x = 172 ∨ x = 178) (h : qC x m m1) : qs m m1 := ⟨fun a h1 h2 => h a (by unfold scr at h1; omega) (by unfold scr at h1; omega) (by unfold scr at h1; omega) (by unfold scr at h1; omega) (by unfold scr at h1; omega) (by unfold scr at h1; omega) (by unfold scr at h1; omega), fun j _ => by rw [h 363 (by omega) (by omega) (by omega) (by omega) (by omega) (by omega) (by omega)]⟩
theorem qs_X {m m1 : Nat → Nat → Int} (h : qX m m1) : qs m m1 := ⟨fun a h1 h2 => h a (by unfold scr at h1; omega) (by unfold scr at h1; omega) (by unfold scr at h1; omega), fun j _ => by rw [h 363 (by decide) (by decide) (by decide)]⟩
section S
variable {d n : Nat} {m : Nat → Nat → Int} {q : Nat → Nat → Option Nat} {w : Option (Nat → Int64)} {r : Nat}
theorem J_ahead (hd : 11 ≤ d) {a b : Int} (ha : i32 a) (hb : b = 0 ∨ b = 1) (h99 : a ≤ 99) : ∀ (g k : Nat) (m : Nat → Nat → Int) (G : Nat → Int) (Q : Nat), (k : Int) + g = a → Q + g ≤ 600 → fnR n r Q (m 161) (m 162) (m 163) G → ∃ (V : Int) (m1 : Nat → Nat → Int),
    gv d rR148 44 [some (.ref 100), some (.int (iI a)), some (.int (iI b)), some (.int (iI (k : Int)))] [] (mk m q w) = vI V (mk m1 q w) ∧ (∀ e, e ≠ 161 → m1 e = m e) ∧ gS m1 ∧
    ∀ (m' : Nat → Nat → Int) (q' : Nat → Nat → Option Nat) (w' : Option (Nat → Int64)), m' 377 = G → ∃ m2, gv d rR258 46 [some (.ref 363), some (.int (iI a)), some (.int (iI b)), some (.int (iI (k : Int)))] [] (mk m' q' w') = vI V (mk m2 q' w') ∧ qX m' m2 := by
  intro g
  induction g with
  | zero =>
    intro k m G Q hg hQ hF
    refine ⟨if b = 0 then m 161 2 else m 161 3, m, ?_, fun _ _ => rfl, gS_fn hF, fun m' q' w' hG => ⟨m', ?_, fun _ _ _ _ => rfl⟩⟩
    · rw [b_148_44, if_neg (by rw [iI_lt (by omega) (by omega)]; omega)]
      rcases hb with rfl | rfl
      · rw [if_pos rfl, b_148_83, if_pos rfl]
      · rw [if_neg (by decide), b_148_83, if_neg (by decide)]
    · rw [b_258_46, if_neg (by rw [iI_lt (by omega) (by omega)]; omega)]
      rcases hb with rfl | rfl
      · rw [if_pos rfl, b_258_76 (by decide) (by decide), if_pos rfl, show Int.toNat 42 = 42 from rfl, hG, hF.2.1.1]
      · rw [if_neg (by decide), b_258_76 (by decide) (by decide), if_neg (by decide), show Int.toNat 43 = 43 from rfl, hG, hF.2.2.1.1]
  | succ g ih =>
    intro k m G Q hg hQ hF
    obtain ⟨m1, G1, h1, h2, h3, -, h4, -, -⟩ := M_pass (d := d) (q := q) (w := w) (by omega) f161 hF
    obtain ⟨V, m2, e1, e2, e3, e4⟩ := ih (k + 1) m1 G1 (Q + 1) (by omega) (by omega) h3
    refine ⟨V, m2, ?_, fun e he => (e2 e he).trans (h2 e he), e3, fun m' q' w' hG => ?_⟩
    · rw [b_148_44, if_pos (by rw [iI_lt (by omega) (by omega)]; omega), h1]
      simp only [rBd_v, Option.toList_some, Option.toList_none, List.cons_append, List.nil_append, List.append_nil]
      rw [b_148_56]
      exact e1
    · obtain ⟨m3, e5, e6⟩ := e4 (row m' 377 G1) q' w' (row_s _ _ _)
      refine ⟨m3, ?_, fun e a1 a2 a3 => (e6 e a1 a2 a3).trans (row_o _ _ _ a1)⟩
      rw [b_258_46, if_pos (by rw [iI_lt (by omega) (by omega)]; omega), h4 m' q' w' hG]
      simp only [rBd_v, Option.toList_some, Option.toList_none, List.cons_append, List.nil_append, List.append_nil]
      rw [b_258_55]
      exact e5
theorem K_ahead {a b : Int} (ha : i32 a) (hb : i32 b) : cTH 148 258 [.int (iI a), .int (iI b)] 1 := by
  intro m q w hR d hd
  obtain ⟨n, r, o, hF, k15, k16, hn7, hfk, hfl, hCi, ho, hbt⟩ := RR_fan hR
  have hEc : gv (d - 1) rR148 24 [some (.ref 100), some (.int (iI a)), some (.int (iI b)), none] [.ref 100] (mk m q w) = some (.inr 0, (mk (wr m 100 17 (m 100 17 + 1)) q w, (1, 6))) := by
    rw [b_148_24, b_148_25, T_116 (by omega), if_pos rfl]
    rfl
  have hC : ev d 148 [.ref 100, .int (iI a), .int (iI b)] (mk m q w) = if (0 ≤ a ∧ a ≤ 99) ∧ (0 ≤ b ∧ b ≤ 1) then gv (d - 1) rR148 44 [some (.ref 100), some (.int (iI a)), some (.int (iI b)), some (.int (iI 0))] [] (mk (bc m 161 108) q w) else some (.inr 0, (mk (wr m 100 17 (m 100 17 + 1)) q w, (1, 6))) := by
    rw [e_148 (by omega) _ rfl rfl rfl, b_148_0, T_6 (by omega) ha (by omega) (by omega)]
    simp only [rBd_v, Option.toList_some, Option.toList_none, List.cons_append, List.nil_append, List.append_nil]
    rw [b_148_8]
    simp only [zb_0]
    by_cases h : 0 ≤ a ∧ a ≤ 99
    · rw [if_neg (not_not_intro h), T_6 (by omega) hb (by omega) (by omega)]
      simp only [rBd_v, Option.toList_some, Option.toList_none, List.cons_append, List.nil_append, List.append_nil]
      rw [b_148_17]
      simp only [zb_0]
      by_cases h2 : 0 ≤ b ∧ b ≤ 1
      · rw [if_neg (not_not_intro h2), if_pos ⟨h, h2⟩, b_148_25, T_116 (by omega), if_neg (by decide)]
        simp only [rBd_v, Option.toList_some, Option.toList_none, List.cons_append, List.nil_append, List.append_nil]
        rw [b_148_28, T_22 (by omega) f161 f108 (by decide)]
        simp only [rBd_v, Option.toList_some, Option.toList_none, List.cons_append, List.nil_append, List.append_nil]
        rw [b_148_42]
      · rw [if_pos h2, if_neg (fun z => h2 z.2), hEc]
    · rw [if_pos h, if_neg (fun z => h z.1), hEc]
  have hX : ∀ m1 : Nat → Nat → Int, ev d 258 [.ref 363, .int (iI a), .int (iI b)] (mk m1 q w) = if (0 ≤ a ∧ a ≤ 99) ∧ (0 ≤ b ∧ b ≤ 1) then gv (d - 1) rR258 46 [some (.ref 363), some (.int (iI a)), some (.int (iI b)), some (.int (iI 0))] [] (mk (tk m1) q w) else vI 0 (mk (noX m1 1 1) q w) := by
    intro m1
    have key : ∀ (P : Prop) [Decidable P], gv (d - 1) rR258 30 [some (.ref 363), some (.int (iI a)), some (.int (iI b)), none] [.int (iI (zb P)), .ref 363] (mk (wr m1 363 0 0) q w) = if P then gv (d - 1) rR258 46 [some (.ref 363), some (.int (iI a)), some (.int (iI b)), some (.int (iI 0))] [] (mk (tk m1) q w) else vI 0 (mk (noX m1 1 1) q w) := by
      intro P _
      rw [b_258_30, V_160 (by omega) (Or.inr rfl) (by omega) (by decide) (wr_s _ _ _ _)]
      by_cases h : P
      · rw [if_pos h, if_pos h]
        simp only [rBd_v, Option.toList_some, Option.toList_none, List.cons_append, List.nil_append, List.append_nil]
        rw [b_258_35, if_neg (by decide), V_200 (by omega)]
        simp only [rBd_v, Option.toList_some, Option.toList_none, List.cons_append, List.nil_append, List.append_nil]
        rw [b_258_44]
        rfl
      · rw [if_neg h, if_neg h]
        simp only [rBd_v, Option.toList_some, Option.toList_none, List.cons_append, List.nil_append, List.append_nil]
        rw [b_258_35, if_pos rfl]
        rfl
    have hE : gv (d - 1) rR258 29 [some (.ref 363), some (.int (iI a)), some (.int (iI b)), none] [.ref 363] (mk (wr m1 363 0 0) q w) = vI 0 (mk (noX m1 1 1) q w) := by
      rw [b_258_29, show iI 0 = iI (zb False) from rfl, key, if_neg not_false]
    rw [e_258 (by omega) _ rfl rfl rfl, b_258_0, V_161 (by omega) ha (by omega) (by omega)]
    simp only [rBd_v, Option.toList_some, Option.toList_none, List.cons_append, List.nil_append, List.append_nil]
    rw [b_258_13]
    simp only [zb_0]
    by_cases h : 0 ≤ a ∧ a ≤ 99
    · rw [if_neg (not_not_intro h), V_161 (by omega) hb (by omega) (by omega)]
      simp only [rBd_v, Option.toList_some, Option.toList_none, List.cons_append, List.nil_append, List.append_nil]
      rw [b_258_22]
      simp only [zb_0]
      by_cases h2 : 0 ≤ b ∧ b ≤ 1
      · rw [if_neg (not_not_intro h2), if_pos ⟨h, h2⟩, show iI 1 = iI (zb True) from rfl, key, if_pos trivial]
      · rw [if_pos h2, if_neg (fun z => h2 z.2), hE]
    · rw [if_pos h, if_neg (fun z => h z.1), hE]
  by_cases h : (0 ≤ a ∧ a ≤ 99) ∧ (0 ≤ b ∧ b ≤ 1)
  · rw [if_pos h] at hC
    have hF1 : fnR n r 400 (bc m 161 108 161) (bc m 161 108 162) (bc m 161 108 163) (tk m 377) := fnR_congr (fun _ _ => rfl) (fun _ _ => rfl) (fun _ _ => rfl) (fun j hj => tk_r hj) (fnR_bc (x := 161) (y := 108) hF)
    obtain ⟨V, mc, e1, e2, e3, e4⟩ := J_ahead (d := d - 1) (q := q) (w := w) (by omega) ha (show b = 0 ∨ b = 1 by omega) h.1.2 a.toNat 0 (bc m 161 108) (tk m 377) 400 (by omega) (by omega) hF1
    have hmc : ∀ e, e ≠ 161 → e ≠ 162 → e ≠ 163 → mc e = m e := fun e h1 h2 h3 => (e2 e h1).trans (bc_o m h1 h2 h3)
    have hq : qs m mc := ⟨fun e h1 _ => hmc e (by unfold scr at h1; omega) (by unfold scr at h1; omega) (by unfold scr at h1; omega), fun j _ => by rw [hmc 363 (by decide) (by decide) (by decide)]⟩
    have hRc : RR mc q := RR_s hq e3 hR
    have hX1 := hX mc
    rw [if_pos h] at hX1
    obtain ⟨m2, e5, e6⟩ := e4 (tk mc) q w (by
      unfold tk cp
      rw [row_s, row_s, wr_o _ _ _ _ (by decide), wr_o _ _ _ _ (by decide), wr_o _ _ _ _ (by decide), wr_o _ _ _ _ (by decide), hmc 376 (by decide) (by decide) (by decide), hmc 377 (by decide) (by decide) (by decide)])
    refine q_in (hC.trans e1) (hX1.trans e5) (by rw [e6 363 (by decide) (by decide) (by decide), tk_0]) (RR_s (qs_X e6) (gS_o (e6 161 (by decide) (by decide) (by decide)) (e6 163 (by decide) (by decide) (by decide)) (tk_RR hRc).2.2.2.2.2.2) (tk_RR hRc))
  · rw [if_neg h] at hC
    have hX1 := hX (wr m 100 17 (m 100 17 + 1))
    rw [if_neg h] at hX1
    exact q_no hR hC hX1
theorem J_lasts (hd : 14 ≤ d) {v y z : Nat} (hn : 1 ≤ n ∧ n ≤ 7) (hv : v < 4) (hq : q 100 9 = some y) : ∀ (g k : Nat) (m : Nat → Nat → Int) (G : Nat → Int), k + g = 999 → clsL m y z → fnR n r 400 (m 161) (m 162) (m 163) G → ∃ (V : Int) (m1 : Nat → Nat → Int),
    gv d rR149 32 [some (.ref 100), some (.int (iI v)), some (.int (iI (k : Int)))] [] (mk m q w) = vI V (mk m1 q w) ∧ qC 161 m m1 ∧ gS m1 ∧
    ∀ (m' : Nat → Nat → Int) (q' : Nat → Nat → Option Nat) (w' : Option (Nat → Int64)), m' 377 = G → xR m' n r (m (y + 1)) z → ∃ m2, gv d rR259 40 [some (.ref 363), some (.int (iI v)), some (.int (iI (k : Int)))] [] (mk m' q' w') = vI V (mk m2 q' w') ∧ qX m' m2 := by
  intro g
  induction g with
  | zero =>
    intro k m G hg hy hF
    refine ⟨k, m, ?_, fun _ _ _ _ _ _ _ _ => rfl, gS_fn hF, fun m' q' w' hG hx => ⟨m', ?_, fun _ _ _ _ => rfl⟩⟩
    · rw [b_149_32, if_neg (by rw [iI_lt (by omega) (by omega)]; omega), b_149_75]
    · rw [b_259_40, if_neg (by rw [iI_lt (by omega) (by omega)]; omega), b_259_70]
  | succ g ih =>
    intro k m G hg hy hF
    have hA : m 161 0 = n := hF.1.1
    obtain ⟨b, m1, G1, hb, h1, h2, h3, h4⟩ := M_open (d := d) (q := q) (w := w) (by omega) f161 hy hF hv hn
    obtain ⟨hy1, hC1⟩ := clsL_q f161 h2 hy
    rcases hb with rfl | rfl
    · refine ⟨k, m1, ?_, h2, gS_fn h3, fun m' q' w' hG hx => ?_⟩
      · rw [b_149_32, if_pos (by rw [iI_lt (by omega) (by omega)]; omega), hq]
        refine Eq.trans (b_149_47 hy.1) ?_
        rw [hA, h1]
        simp only [rBd_v, Option.toList_some, Option.toList_none, List.cons_append, List.nil_append, List.append_nil]
        rw [b_149_58, if_pos rfl, b_149_75]
      · obtain ⟨m2, e1, e2, e3⟩ := h4 m' q' w' hG hx
        refine ⟨m2, ?_, e3⟩
        rw [b_259_40, if_pos (by rw [iI_lt (by omega) (by omega)]; omega), hx.1, e1]
        simp only [rBd_v, Option.toList_some, Option.toList_none, List.cons_append, List.nil_append, List.append_nil]
        rw [b_259_56, if_pos rfl, b_259_70]
    · obtain ⟨b2, m2, G2, hb2, i1, i2, i3, i4, -⟩ := M_shut (d := d) (q := q) (w := w) (z := z) (by omega) f161 h3 (C := m (y + 1))
      obtain ⟨hy2, hC2⟩ := clsL_q f161 i2 hy1
      obtain ⟨V, m3, e1, e2, e3, e4⟩ := ih (k + 1) m2 G2 (by omega) hy2 i3
      refine ⟨V, m3, ?_, qC_trans h2 (qC_trans i2 e2), e3, fun m' q' w' hG hx => ?_⟩
      · rw [b_149_32, if_pos (by rw [iI_lt (by omega) (by omega)]; omega), hq]
        refine Eq.trans (b_149_47 hy.1) ?_
        rw [hA, h1]
        simp only [rBd_v, Option.toList_some, Option.toList_none, List.cons_append, List.nil_append, List.append_nil]
        rw [b_149_58, if_neg (by decide), i1]
        simp only [rBd_v, Option.toList_some, Option.toList_none, List.cons_append, List.nil_append, List.append_nil]
        rw [b_149_68]
        exact e1
      · obtain ⟨m4, f1, f2, f3⟩ := h4 m' q' w' hG hx
        have hx4 := qX_xR f3 hx
        obtain ⟨m5, f4, f5, f6⟩ := i4 m4 q' w' f2 hx4
        obtain ⟨m6, f7, f8⟩ := e4 m5 q' w' f5 (by rw [hC2, hC1]; exact qX_xR f6 hx4)
        refine ⟨m6, ?_, qX_trans f3 (qX_trans f6 f8)⟩
        rw [b_259_40, if_pos (by rw [iI_lt (by omega) (by omega)]; omega), hx.1, f1]
        simp only [rBd_v, Option.toList_some, Option.toList_none, List.cons_append, List.nil_append, List.append_nil]
        rw [b_259_56, if_neg (by decide), f4]
        simp only [rBd_v, Option.toList_some, Option.toList_none, List.cons_append, List.nil_append, List.append_nil]
        rw [b_259_63]
        exact f7
theorem K_lasts {a : Int} (ha : i32 a) : cTH 149 259 [.int (iI a)] 1 := by
  intro m q w hR d hd
  obtain ⟨n, r, o, hF, k15, k16, hn7, hfk, hfl, hCi, ho, hbt⟩ := RR_fan hR
  obtain ⟨-, -, ⟨y, y', l1, l2, l3, l4, l5, lz, l6, l7⟩, -, -, -, hS⟩ := id hR
  have hy := law_rng l3
  have hF1 : fnR n r 400 (bc m 161 108 161) (bc m 161 108 162) (bc m 161 108 163) (tk m 377) := fnR_congr (fun _ _ => rfl) (fun _ _ => rfl) (fun _ _ => rfl) (fun j hj => tk_r hj) (fnR_bc (x := 161) (y := 108) hF)
  obtain ⟨b2, ms, G2, hb2, i1, i2, i3, i4, i5⟩ := M_shut (d := d - 1) (q := q) (w := w) (z := lz) (by omega) f161 hF1 (C := m (y + 1))
  have hms : qC 161 m ms := fun e a1 a2 a3 a4 a5 a6 a7 => (i2 e a1 a2 a3 a4 a5 a6 a7).trans (bc_o m a1 a2 a3)
  have hyc : clsL m y lz := ⟨l3, l7.1, l6⟩
  obtain ⟨hy2, hC2⟩ := clsL_q f161 hms hyc
  have hC : ev d 149 [.ref 100, .int (iI a)] (mk m q w) = if 0 ≤ a ∧ a ≤ 3 then gv (d - 1) rR149 32 [some (.ref 100), some (.int (iI a)), some (.int (iI 0))] [] (mk ms q w) else some (.inr 0, (mk (wr m 100 17 (m 100 17 + 1)) q w, (1, 6))) := by
    rw [e_149 (by omega) _ rfl rfl, b_149_0, T_128 (by omega) ha]
    simp only [rBd_v, Option.toList_some, Option.toList_none, List.cons_append, List.nil_append, List.append_nil]
    rw [b_149_5, T_116 (by omega)]
    by_cases h : 0 ≤ a ∧ a ≤ 3
    · rw [zb_t h, if_pos h, if_neg (by decide)]
      simp only [rBd_v, Option.toList_some, Option.toList_none, List.cons_append, List.nil_append, List.append_nil]
      rw [b_149_8, T_22 (by omega) f161 f108 (by decide)]
      simp only [rBd_v, Option.toList_some, Option.toList_none, List.cons_append, List.nil_append, List.append_nil]
      rw [b_149_22, i1]
      simp only [rBd_v, Option.toList_some, Option.toList_none, List.cons_append, List.nil_append, List.append_nil]
      rw [b_149_29]
    · rw [zb_f h, if_neg h, if_pos rfl]
      rfl
  have hX : ∀ m1 : Nat → Nat → Int, m1 363 15 = n → ev d 259 [.ref 363, .int (iI a)] (mk m1 q w) = if 0 ≤ a ∧ a ≤ 3 then (if n = 0 then vI 0 (mk (wr m1 363 0 0) q w) else rBd (ev (d - 1) 205 [.ref 363] (mk (tk m1) q w)) (fun v M' => gv (d - 1) rR259 37 [some (.ref 363), some (.int (iI a)), none] (v.toList ++ []) M')) else vI 0 (mk (noX m1 1 1) q w) := by
    intro m1 h15
    rw [e_259 (by omega) _ rfl rfl, b_259_0, V_224 (by omega) ha]
    simp only [rBd_v, Option.toList_some, Option.toList_none, List.cons_append, List.nil_append, List.append_nil]
    rw [b_259_10, V_160 (by omega) (Or.inr rfl) (by omega) (by decide) (wr_s _ _ _ _)]
    by_cases h : 0 ≤ a ∧ a ≤ 3
    · rw [if_pos h, if_pos h]
      simp only [rBd_v, Option.toList_some, Option.toList_none, List.cons_append, List.nil_append, List.append_nil]
      rw [b_259_15, if_neg (by decide), wr_b _ _ _ _ (show 15 ≠ 0 by decide), h15]
      simp only [iI_eq (show i32 (n : Int) by omega) (show i32 0 by omega)]
      by_cases hn : n = 0
      · rw [if_pos (by omega), if_pos hn]
      · rw [if_neg (by omega), if_neg hn, V_200 (by omega)]
        simp only [rBd_v, Option.toList_some, Option.toList_none, List.cons_append, List.nil_append, List.append_nil]
        rw [b_259_33]
        simp only [List.append_nil]
        rfl
    · rw [if_neg h, if_neg h]
      simp only [rBd_v, Option.toList_some, Option.toList_none, List.cons_append, List.nil_append, List.append_nil]
      rw [b_259_15, if_pos rfl]
      rfl
  by_cases h : 0 ≤ a ∧ a ≤ 3
  · rw [if_pos h] at hC
    obtain ⟨v, rfl⟩ : ∃ v : Nat, a = v := ⟨a.toNat, by omega⟩
    by_cases hn : n = 0
    · have e0 : gv (d - 1) rR149 32 [some (.ref 100), some (.int (iI (v : Int))), some (.int (iI 0))] [] (mk ms q w) = vI 0 (mk ms q w) := by
        rw [b_149_32, if_pos (by decide), l1]
        refine Eq.trans (b_149_47 l3) ?_
        rw [e_44 (by omega) _ rfl rfl rfl rfl, b_44_0 l3 f161, T_23 (by omega) f161 (by rw [i5]; omega), i5]
        simp only [rBd_v, Option.toList_some, Option.toList_none, List.cons_append, List.nil_append, List.append_nil]
        rw [b_44_4 l3 f161, if_neg (by decide), i3.1.1, hn, T_6 (by omega) (by omega) (by omega) (by omega)]
        simp only [rBd_v, Option.toList_some, Option.toList_none, List.cons_append, List.nil_append, List.append_nil]
        rw [b_44_16 l3 f161, if_pos (by decide), b_44_19]
        simp only [rBd_v, Option.toList_some, Option.toList_none, List.cons_append, List.nil_append, List.append_nil]
        rw [b_149_58, if_pos rfl, b_149_75]
      have hX1 := hX ms (by rw [hms 363 (by decide) (by decide) (by decide) (by decide) (by decide) (by decide) (by decide)]; exact k15)
      rw [if_pos h, if_pos hn] at hX1
      exact q_in (hC.trans e0) hX1 (wr_s _ _ _ _) (RR_0 (RR_s (qs_C (Or.inl rfl) hms) (gS_fn i3) hR))
    · obtain ⟨V, mc, e1, e2, e3, e4⟩ := J_lasts (d := d - 1) (q := q) (w := w) (by omega) (show 1 ≤ n ∧ n ≤ 7 by omega) (v := v) (by omega) l1 999 0 ms G2 (by omega) hy2 i3
      have hmc := qC_trans hms e2
      have hmo : ∀ e, 363 ≤ e → mc e = m e := fun e he => hmc e (by omega) (by omega) (by omega) (by omega) (by omega) (by omega) (by omega)
      have hRc : RR mc q := RR_s (qs_C (Or.inl rfl) hmc) e3 hR
      have hX1 := hX mc (by rw [hmo 363 (by decide)]; exact k15)
      rw [if_pos h, if_neg hn] at hX1
      have hxr : xR (tk mc) n r (m (y + 1)) lz := by
        unfold xR
        rw [tk_b (by decide), tk_b (by decide), tk_b (by decide), tk_o (by decide) (by decide), tk_o (by decide) (by decide), hmo 363 (by decide), hmo 370 (by decide), hmo 371 (by decide)]
        exact ⟨k15, k16, l7⟩
      obtain ⟨m4, f4, f5, f6⟩ := i4 (tk mc) q w (by
        unfold tk cp
        rw [row_s, row_s, wr_o _ _ _ _ (by decide), wr_o _ _ _ _ (by decide), wr_o _ _ _ _ (by decide), wr_o _ _ _ _ (by decide), hmo 376 (by decide), hmo 377 (by decide)]) hxr
      obtain ⟨m2, e5, e6⟩ := e4 m4 q w f5 (by rw [hC2]; exact qX_xR f6 hxr)
      have hq2 := qX_trans f6 e6
      rw [f4] at hX1
      simp only [rBd_v, Option.toList_some, Option.toList_none, List.cons_append, List.nil_append, List.append_nil] at hX1
      rw [b_259_37] at hX1
      refine q_in (hC.trans e1) (hX1.trans e5) (by rw [hq2 363 (by decide) (by decide) (by decide), tk_0]) (RR_s (qs_X hq2) (gS_o (hq2 161 (by decide) (by decide) (by decide)) (hq2 163 (by decide) (by decide) (by decide)) (tk_RR hRc).2.2.2.2.2.2) (tk_RR hRc))
  · rw [if_neg h] at hC
    have hX1 := hX (wr m 100 17 (m 100 17 + 1)) (by rw [wr_o _ _ _ _ (by decide)]; exact k15)
    rw [if_neg h] at hX1
    exact q_no hR hC hX1
end S
