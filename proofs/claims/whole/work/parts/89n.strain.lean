/-! ===== the call strain, alike ===== -/
section S
variable {d n : Nat} {m : Nat → Nat → Int} {q : Nat → Nat → Option Nat} {w : Option (Nat → Int64)}
theorem K_strain {a b : Int} (ha : i32 a) (hb : i32 b) : cTH 129 228 [.int (iI a), .int (iI b)] 1 := by
  intro m q w hR d hd
  obtain ⟨-, ⟨n0, r0, k, h0, ⟨k1, k2⟩, ⟨kF, -, -, -⟩, -, -, -, -, -, -⟩, ⟨y, y', l1, l2, l3, l4, l5, lz, l6, l7⟩, -, -, -, hS⟩ := id hR
  have hy := law_rng l3
  have hF : fnR n0 r0 400 (m 108) (m 109) (m 110) (m 376) := kF
  have hn7 := hF.1.2.1
  obtain ⟨o, hfk, hfl, -, ho2, hbt⟩ := fnR_k hF
  have f2 := hF.2.1.1
  have f3 := hF.2.2.1.1
  have f4 := hF.2.2.2.1.1
  have f5 := hF.2.2.2.2.1
  obtain ⟨F, S, hT⟩ := T_43 (m := m) (q := q) (w := w) (d := d - 1) (by omega) l3 f108 l7.1 l6 hfk.2.2.1 hfk.2.2.2 (v := a) (k := b)
  obtain ⟨V, hV⟩ : ∃ V, V = lawv (m (y + 1)) lz (fq a b (m 108 2) (m 108 5) (pc o) (m 108 3) (m 108 4)) := ⟨_, rfl⟩
  rw [← hV] at hT
  obtain ⟨mc, emc⟩ : ∃ mc, mc = row (row m (y + 3) F) (y + 2) S := ⟨_, rfl⟩
  rw [← emc] at hT
  have hmc : ∀ e, e ≠ y + 2 → e ≠ y + 3 → mc e = m e := fun e h1 h2 => by rw [emc, row_o _ _ _ h1, row_o _ _ _ h2]
  clear emc
  have hRc : RR mc q := by
    refine RR_q ⟨⟨fun e h1 _ _ => hmc e (by unfold scr at h1; omega) (by unfold scr at h1; omega), fun j _ => by rw [hmc 363 (by omega) (by omega)]⟩, ⟨by rw [hmc 101 (by omega) (by omega)], by rw [hmc 101 (by omega) (by omega)]⟩, by rw [hmc 363 (by omega) (by omega)], by rw [hmc 363 (by omega) (by omega)]⟩ ?_ hR
    unfold gS fB at *
    rw [hmc (161 + 2) (by omega) (by omega), hmc 161 (by omega) (by omega)]
    exact hS
  have hEc : gv (d - 1) rR129 22 [some (.ref 100), some (.int (iI a)), some (.int (iI b))] [.ref 100] (mk m q w) = some (.inr 0, (mk (wr m 100 17 (m 100 17 + 1)) q w, (1, 6))) := by
    rw [b_129_22, b_129_23, T_116 (by omega), if_pos rfl]
    rfl
  have hC : ev d 129 [.ref 100, .int (iI a), .int (iI b)] (mk m q w) = if (0 ≤ a ∧ a ≤ 3) ∧ (1 ≤ b ∧ b ≤ 7) then vI V (mk mc q w) else some (.inr 0, (mk (wr m 100 17 (m 100 17 + 1)) q w, (1, 6))) := by
    rw [e_129 (by omega) _ rfl rfl rfl, b_129_0, T_128 (by omega) ha]
    simp only [rBd_v, Option.toList_some, Option.toList_none, List.cons_append, List.nil_append, List.append_nil]
    rw [b_129_5]
    simp only [zb_0]
    by_cases h : 0 ≤ a ∧ a ≤ 3
    · rw [if_neg (not_not_intro h), T_6 (by omega) hb (by omega) (by omega)]
      simp only [rBd_v, Option.toList_some, Option.toList_none, List.cons_append, List.nil_append, List.append_nil]
      rw [b_129_15]
      simp only [zb_0]
      by_cases h2 : 1 ≤ b ∧ b ≤ 7
      · rw [if_neg (not_not_intro h2), if_pos ⟨h, h2⟩, b_129_23, T_116 (by omega), if_neg (by decide)]
        simp only [rBd_v, Option.toList_some, Option.toList_none, List.cons_append, List.nil_append, List.append_nil]
        rw [b_129_26, l1]
        refine Eq.trans (b_129_30 l3) ?_
        rw [hT]
        simp only [rBd_v, Option.toList_some, Option.toList_none, List.cons_append, List.nil_append, List.append_nil, b_129_42]
      · rw [if_pos h2, if_neg (fun z => h2 z.2), hEc]
    · rw [if_pos h, if_neg (fun z => h z.1), hEc]
  have hX : ∀ m1 : Nat → Nat → Int, (∀ e, 363 ≤ e → m1 e = m e) → ∃ F S, ev d 228 [.ref 363, .int (iI a), .int (iI b)] (mk m1 q w) = if (0 ≤ a ∧ a ≤ 3) ∧ (1 ≤ b ∧ b ≤ 7) then vI V (mk (row (row (cp (wr m1 363 0 0) 376 377 48) 373 F) 372 S) q w) else vI 0 (mk (noX m1 1 1) q w) := by
    intro m1 h1
    have e15 : cp (wr m1 363 0 0) 376 377 48 363 15 = n0 := by
      unfold cp
      rw [row_o _ _ _ (by decide), wr_b _ _ _ _ (by decide), h1 363 (by decide)]
      exact k1
    have e377 : ∀ j, j < 48 → cp (wr m1 363 0 0) 376 377 48 377 j = m 376 j := by
      intro j hj
      unfold cp
      rw [row_s, if_pos hj, wr_o _ _ _ _ (by decide), h1 376 (by decide)]
    have hL : lawR (m (y + 1)) lz (cp (wr m1 363 0 0) 376 377 48 370) (cp (wr m1 363 0 0) 376 377 48 371) (cp (wr m1 363 0 0) 376 377 48 363 24) := by
      unfold cp
      rw [row_o _ _ _ (by decide), row_o _ _ _ (by decide), row_o _ _ _ (by decide), wr_o _ _ _ _ (by decide), wr_o _ _ _ _ (by decide), wr_b _ _ _ _ (by decide), h1 370 (by decide), h1 371 (by decide), h1 363 (by decide)]
      exact l7
    obtain ⟨F, S, hV3⟩ := V_203 (q := q) (w := w) (m := cp (wr m1 363 0 0) 376 377 48) (d := d - 1) (by omega) hL e15 hn7 ho2 (fun s hs => by rw [e377 _ (by omega)]; exact hbt s hs) (v := a) (k := b)
    rw [e377 42 (by decide), e377 43 (by decide), e377 44 (by decide), e377 47 (by decide), ← f2, ← f3, ← f4, ← f5, ← hV] at hV3
    refine ⟨F, S, ?_⟩
    have key : ∀ (P : Prop) [Decidable P], gv (d - 1) rR228 28 [some (.ref 363), some (.int (iI a)), some (.int (iI b))] [.int (iI (zb P)), .ref 363] (mk (wr m1 363 0 0) q w) = if P then vI V (mk (row (row (cp (wr m1 363 0 0) 376 377 48) 373 F) 372 S) q w) else vI 0 (mk (noX m1 1 1) q w) := by
      intro P _
      rw [b_228_28, V_160 (by omega) (Or.inr rfl) (by omega) (by decide) (wr_s _ _ _ _)]
      by_cases h : P
      · rw [if_pos h, if_pos h]
        simp only [rBd_v, Option.toList_some, Option.toList_none, List.cons_append, List.nil_append, List.append_nil]
        rw [b_228_33, if_neg (by decide), V_200 (by omega)]
        simp only [rBd_v, Option.toList_some, Option.toList_none, List.cons_append, List.nil_append, List.append_nil]
        rw [b_228_42, hV3]
        simp only [rBd_v, Option.toList_some, Option.toList_none, List.cons_append, List.nil_append, List.append_nil, b_228_48]
      · rw [if_neg h, if_neg h]
        simp only [rBd_v, Option.toList_some, Option.toList_none, List.cons_append, List.nil_append, List.append_nil]
        rw [b_228_33, if_pos rfl]
        rfl
    have hE : gv (d - 1) rR228 27 [some (.ref 363), some (.int (iI a)), some (.int (iI b))] [.ref 363] (mk (wr m1 363 0 0) q w) = vI 0 (mk (noX m1 1 1) q w) := by
      rw [b_228_27, show iI 0 = iI (zb False) from rfl, key, if_neg not_false]
    rw [e_228 (by omega) _ rfl rfl rfl, b_228_0, V_224 (by omega) ha]
    simp only [rBd_v, Option.toList_some, Option.toList_none, List.cons_append, List.nil_append, List.append_nil]
    rw [b_228_10]
    simp only [zb_0]
    by_cases h : 0 ≤ a ∧ a ≤ 3
    · rw [if_neg (not_not_intro h), V_161 (by omega) hb (by omega) (by omega)]
      simp only [rBd_v, Option.toList_some, Option.toList_none, List.cons_append, List.nil_append, List.append_nil]
      rw [b_228_20]
      simp only [zb_0]
      by_cases h2 : 1 ≤ b ∧ b ≤ 7
      · rw [if_neg (not_not_intro h2), if_pos ⟨h, h2⟩, show iI 1 = iI (zb True) from rfl, key, if_pos trivial]
      · rw [if_pos h2, if_neg (fun z => h2 z.2), hE]
    · rw [if_pos h, if_neg (fun z => h z.1), hE]
  by_cases h : (0 ≤ a ∧ a ≤ 3) ∧ (1 ≤ b ∧ b ≤ 7)
  · rw [if_pos h] at hC
    obtain ⟨F2, S2, hX1⟩ := hX mc (fun e he => hmc e (by omega) (by omega))
    rw [if_pos h] at hX1
    have hRt := RR_take (RR_0 hRc)
    refine Or.inl ⟨V, mc, q, _, hC, hX1, ?_, ?_⟩
    · rw [row_o _ _ _ (by decide), row_o _ _ _ (by decide)]
      unfold cp
      rw [row_o _ _ _ (by decide), wr_s]
    · have ho : ∀ e, e ≠ 372 → e ≠ 373 → row (row (cp (wr mc 363 0 0) 376 377 48) 373 F2) 372 S2 e = cp (wr mc 363 0 0) 376 377 48 e := fun e h1 h2 => by rw [row_o _ _ _ h1, row_o _ _ _ h2]
      refine RR_q ⟨⟨fun e h1 _ _ => ho e (by unfold scr at h1; omega) (by unfold scr at h1; omega), fun j _ => by rw [ho 363 (by decide) (by decide)]⟩, ⟨by rw [ho 101 (by decide) (by decide)], by rw [ho 101 (by decide) (by decide)]⟩, by rw [ho 363 (by decide) (by decide)], by rw [ho 363 (by decide) (by decide)]⟩ ?_ hRt
      have hS9 := hRt.2.2.2.2.2.2
      unfold gS fB at *
      rw [ho (161 + 2) (by decide) (by decide), ho 161 (by decide) (by decide)]
      exact hS9
  · rw [if_neg h] at hC
    obtain ⟨F2, S2, hX1⟩ := hX (wr m 100 17 (m 100 17 + 1)) (fun e he => wr_o _ _ _ _ (by omega))
    rw [if_neg h] at hX1
    exact Or.inr ⟨0, 0, _, noX (wr m 100 17 (m 100 17 + 1)) 1 1, Or.inl rfl, hC, hX1, noX_0, RR_no0 hR⟩
end S
