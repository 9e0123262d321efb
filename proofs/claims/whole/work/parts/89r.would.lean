/-! ===== the call would, alike ===== -/
section S
variable {d n : Nat} {m : Nat → Nat → Int} {q : Nat → Nat → Option Nat} {w : Option (Nat → Int64)}
theorem K_would {a b c e f g h : Int} (ha : i32 a) (hb : i32 b) (hc : i32 c) (he : i32 e) (hf : i32 f) (hg : i32 g) (hh : i32 h) : cTH 130 229 [.int (iI a), .int (iI b), .int (iI c), .int (iI e), .int (iI f), .int (iI g), .int (iI h)] 1 := by
  intro m q w hR d hd
  obtain ⟨-, -, ⟨y, y', l1, l2, l3, l4, l5, lz, l6, l7⟩, -, -, -, hS⟩ := id hR
  have hy := law_rng l3
  obtain ⟨V, hV⟩ : ∃ V, V = lawv (m (y + 1)) lz (fq a b c e f g h) := ⟨_, rfl⟩
  obtain ⟨mt, emt⟩ : ∃ mt, mt = wr (wr (wr (wr (wr (wr (wr m (y + 3) 0 a) (y + 3) 1 b) (y + 3) 2 c) (y + 3) 3 e) (y + 3) 4 f) (y + 3) 5 g) (y + 3) 6 h := ⟨_, rfl⟩
  have hmt : ∀ x, x ≠ y + 3 → mt x = m x := fun x hx => by
    rw [emt]
    simp only [wr_o _ _ _ _ hx]
  obtain ⟨S, hT⟩ := T_42 (m := mt) (q := q) (w := w) (show 11 ≤ d - 1 by omega) l3 (z := lz) (by rw [hmt _ (by omega)]; exact l7.1) (by rw [hmt _ (by omega)]; exact l6)
  have hv : lawv (mt (y + 1)) lz (mt (y + 3)) = V := by
    rw [hV]
    refine lawv_congr (by rw [hmt _ (by omega)]; exact l7.1) (fun j _ => by rw [hmt _ (by omega)]) (fun j hj => ?_)
    have hjs : j = 0 ∨ j = 1 ∨ j = 2 ∨ j = 3 ∨ j = 4 ∨ j = 5 ∨ j = 6 := by omega
    rw [emt]
    rcases hjs with rfl | rfl | rfl | rfl | rfl | rfl | rfl <;> simp [wr, row, fq]
  rw [hv] at hT
  obtain ⟨mc, emc⟩ : ∃ mc, mc = row mt (y + 2) S := ⟨_, rfl⟩
  rw [← emc] at hT
  have hmc : ∀ x, x ≠ y + 2 → x ≠ y + 3 → mc x = m x := fun x h1 h2 => by rw [emc, row_o _ _ _ h1, hmt x h2]
  clear emc
  have hqs : qs m mc := ⟨fun x h1 _ => hmc x (by unfold scr at h1; omega) (by unfold scr at h1; omega), fun j _ => by rw [hmc 363 (by omega) (by omega)]⟩
  have hRc : RR mc q := RR_s hqs (gS_o (hmc 161 (by omega) (by omega)) (hmc 163 (by omega) (by omega)) hS) hR
  have g1 : ∀ (P : Prop) [Decidable P], gv (d - 1) rR130 23 [some (.ref 100), some (.int (iI a)), some (.int (iI b)), some (.int (iI c)), some (.int (iI e)), some (.int (iI f)), some (.int (iI g)), some (.int (iI h))] [.int (iI (zb P)), .ref 100] (mk m q w) = if P then gv (d - 1) rR130 26 [some (.ref 100), some (.int (iI a)), some (.int (iI b)), some (.int (iI c)), some (.int (iI e)), some (.int (iI f)), some (.int (iI g)), some (.int (iI h))] [] (mk m q w) else some (.inr 0, (mk (wr m 100 17 (m 100 17 + 1)) q w, (1, 6))) := by
    intro P _
    rw [b_130_23, T_116 (by omega)]
    simp only [zb_0]
    by_cases k : P
    · rw [if_neg (not_not_intro k), if_pos k]
      simp only [rBd_v, Option.toList_some, Option.toList_none, List.cons_append, List.nil_append, List.append_nil]
    · rw [if_pos k, if_neg k]
      rfl
  have g2 : ∀ (P : Prop) [Decidable P], gv (d - 1) rR130 55 [some (.ref 100), some (.int (iI a)), some (.int (iI b)), some (.int (iI c)), some (.int (iI e)), some (.int (iI f)), some (.int (iI g)), some (.int (iI h))] [.int (iI (zb P)), .ref 100] (mk m q w) = if P then gv (d - 1) rR130 58 [some (.ref 100), some (.int (iI a)), some (.int (iI b)), some (.int (iI c)), some (.int (iI e)), some (.int (iI f)), some (.int (iI g)), some (.int (iI h))] [] (mk m q w) else some (.inr 0, (mk (wr m 100 17 (m 100 17 + 1)) q w, (1, 6))) := by
    intro P _
    rw [b_130_55, T_116 (by omega)]
    simp only [zb_0]
    by_cases k : P
    · rw [if_neg (not_not_intro k), if_pos k]
      simp only [rBd_v, Option.toList_some, Option.toList_none, List.cons_append, List.nil_append, List.append_nil]
    · rw [if_pos k, if_neg k]
      rfl
  have g3 : ∀ (P : Prop) [Decidable P], gv (d - 1) rR130 86 [some (.ref 100), some (.int (iI a)), some (.int (iI b)), some (.int (iI c)), some (.int (iI e)), some (.int (iI f)), some (.int (iI g)), some (.int (iI h))] [.int (iI (zb P)), .ref 100] (mk m q w) = if P then gv (d - 1) rR130 89 [some (.ref 100), some (.int (iI a)), some (.int (iI b)), some (.int (iI c)), some (.int (iI e)), some (.int (iI f)), some (.int (iI g)), some (.int (iI h))] [] (mk m q w) else some (.inr 0, (mk (wr m 100 17 (m 100 17 + 1)) q w, (1, 6))) := by
    intro P _
    rw [b_130_86, T_116 (by omega)]
    simp only [zb_0]
    by_cases k : P
    · rw [if_neg (not_not_intro k), if_pos k]
      simp only [rBd_v, Option.toList_some, Option.toList_none, List.cons_append, List.nil_append, List.append_nil]
    · rw [if_pos k, if_neg k]
      rfl
  have g4 : ∀ (P : Prop) [Decidable P], gv (d - 1) rR130 99 [some (.ref 100), some (.int (iI a)), some (.int (iI b)), some (.int (iI c)), some (.int (iI e)), some (.int (iI f)), some (.int (iI g)), some (.int (iI h))] [.int (iI (zb P)), .ref 100] (mk m q w) = if P then gv (d - 1) rR130 102 [some (.ref 100), some (.int (iI a)), some (.int (iI b)), some (.int (iI c)), some (.int (iI e)), some (.int (iI f)), some (.int (iI g)), some (.int (iI h))] [] (mk m q w) else some (.inr 0, (mk (wr m 100 17 (m 100 17 + 1)) q w, (1, 6))) := by
    intro P _
    rw [b_130_99, T_116 (by omega)]
    simp only [zb_0]
    by_cases k : P
    · rw [if_neg (not_not_intro k), if_pos k]
      simp only [rBd_v, Option.toList_some, Option.toList_none, List.cons_append, List.nil_append, List.append_nil]
    · rw [if_pos k, if_neg k]
      rfl
  have hC : ev d 130 [.ref 100, .int (iI a), .int (iI b), .int (iI c), .int (iI e), .int (iI f), .int (iI g), .int (iI h)] (mk m q w) = if (((0 ≤ a ∧ a ≤ 3) ∧ (1 ≤ b ∧ b ≤ 7)) ∧ ((0 ≤ c ∧ c ≤ 200) ∧ (0 ≤ e ∧ e ≤ 9999)) ∧ ((0 ≤ f ∧ f ≤ 7) ∧ (0 ≤ g ∧ g ≤ 99)) ∧ (0 ≤ h ∧ h ≤ 400)) then vI V (mk mc q w) else some (.inr 0, (mk (wr m 100 17 (m 100 17 + 1)) q w, (1, 6))) := by
    rw [e_130 (by omega) _ rfl rfl rfl rfl rfl rfl rfl rfl, b_130_0, T_128 (by omega) ha]
    simp only [rBd_v, Option.toList_some, Option.toList_none, List.cons_append, List.nil_append, List.append_nil]
    rw [b_130_5]
    simp only [zb_0]
    by_cases k1 : 0 ≤ a ∧ a ≤ 3
    · rw [if_neg (not_not_intro k1), T_6 (by omega) hb (by omega) (by omega)]
      simp only [rBd_v, Option.toList_some, Option.toList_none, List.cons_append, List.nil_append, List.append_nil]
      rw [b_130_15]
      simp only [zb_0]
      by_cases k2 : 1 ≤ b ∧ b ≤ 7
      · rw [if_neg (not_not_intro k2), show iI 1 = iI (zb True) from rfl, g1, if_pos trivial, b_130_26, T_6 (by omega) hc (by omega) (by omega)]
        simp only [rBd_v, Option.toList_some, Option.toList_none, List.cons_append, List.nil_append, List.append_nil]
        rw [b_130_35]
        simp only [zb_0]
        by_cases k3 : 0 ≤ c ∧ c ≤ 200
        · rw [if_neg (not_not_intro k3), T_6 (by omega) he (by omega) (by omega)]
          simp only [rBd_v, Option.toList_some, Option.toList_none, List.cons_append, List.nil_append, List.append_nil]
          rw [b_130_47]
          simp only [zb_0]
          by_cases k4 : 0 ≤ e ∧ e ≤ 9999
          · rw [if_neg (not_not_intro k4), show iI 1 = iI (zb True) from rfl, g2, if_pos trivial, b_130_58, T_6 (by omega) hf (by omega) (by omega)]
            simp only [rBd_v, Option.toList_some, Option.toList_none, List.cons_append, List.nil_append, List.append_nil]
            rw [b_130_67]
            simp only [zb_0]
            by_cases k5 : 0 ≤ f ∧ f ≤ 7
            · rw [if_neg (not_not_intro k5), T_6 (by omega) hg (by omega) (by omega)]
              simp only [rBd_v, Option.toList_some, Option.toList_none, List.cons_append, List.nil_append, List.append_nil]
              rw [b_130_78]
              simp only [zb_0]
              by_cases k6 : 0 ≤ g ∧ g ≤ 99
              · rw [if_neg (not_not_intro k6), show iI 1 = iI (zb True) from rfl, g3, if_pos trivial, b_130_89, T_6 (by omega) hh (by omega) (by omega)]
                simp only [rBd_v, Option.toList_some, Option.toList_none, List.cons_append, List.nil_append, List.append_nil]
                rw [g4]
                by_cases k7 : 0 ≤ h ∧ h ≤ 400
                · rw [if_pos k7, if_pos ⟨⟨k1, k2⟩, ⟨k3, k4⟩, ⟨k5, k6⟩, k7⟩, b_130_102, l1]
                  refine Eq.trans (b_130_106 l3) ?_
                  rw [T_37 (by omega) l3]
                  simp only [rBd_v, Option.toList_some, Option.toList_none, List.cons_append, List.nil_append, List.append_nil]
                  rw [b_130_111, l1]
                  refine Eq.trans (b_130_115 l3) ?_
                  rw [T_39 (by omega) l3]
                  simp only [rBd_v, Option.toList_some, Option.toList_none, List.cons_append, List.nil_append, List.append_nil]
                  rw [b_130_127, l1]
                  refine Eq.trans (b_130_131 l3) ?_
                  rw [← emt, hT]
                  simp only [rBd_v, Option.toList_some, Option.toList_none, List.cons_append, List.nil_append, List.append_nil, b_130_134]
                · rw [if_neg k7, if_neg (fun z => k7 z.2.2.2)]
              · rw [if_pos k6, b_130_85, show iI 0 = iI (zb False) from rfl, g3, if_neg not_false, if_neg (fun z => k6 z.2.2.1.2)]
            · rw [if_pos k5, b_130_85, show iI 0 = iI (zb False) from rfl, g3, if_neg not_false, if_neg (fun z => k5 z.2.2.1.1)]
          · rw [if_pos k4, b_130_54, show iI 0 = iI (zb False) from rfl, g2, if_neg not_false, if_neg (fun z => k4 z.2.1.2)]
        · rw [if_pos k3, b_130_54, show iI 0 = iI (zb False) from rfl, g2, if_neg not_false, if_neg (fun z => k3 z.2.1.1)]
      · rw [if_pos k2, b_130_22, show iI 0 = iI (zb False) from rfl, g1, if_neg not_false, if_neg (fun z => k2 z.1.2)]
    · rw [if_pos k1, b_130_22, show iI 0 = iI (zb False) from rfl, g1, if_neg not_false, if_neg (fun z => k1 z.1.1)]
  have hX : ∀ m1 : Nat → Nat → Int, (∀ x, 363 ≤ x → m1 x = m x) → ∃ F S, ev d 229 [.ref 363, .int (iI a), .int (iI b), .int (iI c), .int (iI e), .int (iI f), .int (iI g), .int (iI h)] (mk m1 q w) = if (((0 ≤ a ∧ a ≤ 3) ∧ (1 ≤ b ∧ b ≤ 7)) ∧ ((0 ≤ c ∧ c ≤ 200) ∧ (0 ≤ e ∧ e ≤ 9999)) ∧ ((0 ≤ f ∧ f ≤ 7) ∧ (0 ≤ g ∧ g ≤ 99)) ∧ (0 ≤ h ∧ h ≤ 400)) then vI V (mk (row (row (wr m1 363 0 0) 373 F) 372 S) q w) else vI 0 (mk (noX m1 1 1) q w) := by
    intro m1 h1
    obtain ⟨F, S, hV2⟩ := V_202 (q := q) (w := w) (m := wr m1 363 0 0) (d := d - 1) (by omega) (C := m (y + 1)) (z := lz) (by
      rw [wr_o _ _ _ _ (by decide), wr_o _ _ _ _ (by decide), wr_b _ _ _ _ (by decide), h1 370 (by decide), h1 371 (by decide), h1 363 (by decide)]
      exact l7) (a := a) (b := b) (c := c) (e := e) (f := f) (g := g) (h := h)
    rw [← hV] at hV2
    refine ⟨F, S, ?_⟩
    have key : ∀ (P : Prop) [Decidable P], gv (d - 1) rR229 85 [some (.ref 363), some (.int (iI a)), some (.int (iI b)), some (.int (iI c)), some (.int (iI e)), some (.int (iI f)), some (.int (iI g)), some (.int (iI h))] [.int (iI (zb P)), .ref 363] (mk (wr m1 363 0 0) q w) = if P then vI V (mk (row (row (wr m1 363 0 0) 373 F) 372 S) q w) else vI 0 (mk (noX m1 1 1) q w) := by
      intro P _
      rw [b_229_85, V_160 (by omega) (Or.inr rfl) (by omega) (by decide) (wr_s _ _ _ _)]
      by_cases k : P
      · rw [if_pos k, if_pos k]
        simp only [rBd_v, Option.toList_some, Option.toList_none, List.cons_append, List.nil_append, List.append_nil]
        rw [b_229_90, if_neg (by decide), hV2]
        simp only [rBd_v, Option.toList_some, Option.toList_none, List.cons_append, List.nil_append, List.append_nil]
        rw [b_229_110]
      · rw [if_neg k, if_neg k]
        simp only [rBd_v, Option.toList_some, Option.toList_none, List.cons_append, List.nil_append, List.append_nil]
        rw [b_229_90, if_pos rfl]
        rfl
    have hE : gv (d - 1) rR229 84 [some (.ref 363), some (.int (iI a)), some (.int (iI b)), some (.int (iI c)), some (.int (iI e)), some (.int (iI f)), some (.int (iI g)), some (.int (iI h))] [.ref 363] (mk (wr m1 363 0 0) q w) = vI 0 (mk (noX m1 1 1) q w) := by
      rw [b_229_84, show iI 0 = iI (zb False) from rfl, key, if_neg not_false]
    rw [e_229 (by omega) _ rfl rfl rfl rfl rfl rfl rfl rfl, b_229_0, V_224 (by omega) ha]
    simp only [rBd_v, Option.toList_some, Option.toList_none, List.cons_append, List.nil_append, List.append_nil]
    rw [b_229_10]
    simp only [zb_0]
    by_cases k1 : 0 ≤ a ∧ a ≤ 3
    · rw [if_neg (not_not_intro k1), V_161 (by omega) hb (by omega) (by omega)]
      simp only [rBd_v, Option.toList_some, Option.toList_none, List.cons_append, List.nil_append, List.append_nil]
      rw [b_229_20]
      simp only [zb_0]
      by_cases k2 : 1 ≤ b ∧ b ≤ 7
      · rw [if_neg (not_not_intro k2), V_161 (by omega) hc (by omega) (by omega)]
        simp only [rBd_v, Option.toList_some, Option.toList_none, List.cons_append, List.nil_append, List.append_nil]
        rw [b_229_31]
        simp only [zb_0]
        by_cases k3 : 0 ≤ c ∧ c ≤ 200
        · rw [if_neg (not_not_intro k3), V_161 (by omega) he (by omega) (by omega)]
          simp only [rBd_v, Option.toList_some, Option.toList_none, List.cons_append, List.nil_append, List.append_nil]
          rw [b_229_43]
          simp only [zb_0]
          by_cases k4 : 0 ≤ e ∧ e ≤ 9999
          · rw [if_neg (not_not_intro k4), V_161 (by omega) hf (by omega) (by omega)]
            simp only [rBd_v, Option.toList_some, Option.toList_none, List.cons_append, List.nil_append, List.append_nil]
            rw [b_229_54]
            simp only [zb_0]
            by_cases k5 : 0 ≤ f ∧ f ≤ 7
            · rw [if_neg (not_not_intro k5), V_161 (by omega) hg (by omega) (by omega)]
              simp only [rBd_v, Option.toList_some, Option.toList_none, List.cons_append, List.nil_append, List.append_nil]
              rw [b_229_65]
              simp only [zb_0]
              by_cases k6 : 0 ≤ g ∧ g ≤ 99
              · rw [if_neg (not_not_intro k6), V_161 (by omega) hh (by omega) (by omega)]
                simp only [rBd_v, Option.toList_some, Option.toList_none, List.cons_append, List.nil_append, List.append_nil]
                rw [b_229_77]
                simp only [zb_0]
                by_cases k7 : 0 ≤ h ∧ h ≤ 400
                · rw [if_neg (not_not_intro k7), show iI 1 = iI (zb True) from rfl, key, if_pos trivial, if_pos ⟨⟨k1, k2⟩, ⟨k3, k4⟩, ⟨k5, k6⟩, k7⟩]
                · rw [if_pos k7, hE, if_neg (fun z => k7 z.2.2.2)]
              · rw [if_pos k6, hE, if_neg (fun z => k6 z.2.2.1.2)]
            · rw [if_pos k5, hE, if_neg (fun z => k5 z.2.2.1.1)]
          · rw [if_pos k4, hE, if_neg (fun z => k4 z.2.1.2)]
        · rw [if_pos k3, hE, if_neg (fun z => k3 z.2.1.1)]
      · rw [if_pos k2, hE, if_neg (fun z => k2 z.1.2)]
    · rw [if_pos k1, hE, if_neg (fun z => k1 z.1.1)]
  by_cases k : (((0 ≤ a ∧ a ≤ 3) ∧ (1 ≤ b ∧ b ≤ 7)) ∧ ((0 ≤ c ∧ c ≤ 200) ∧ (0 ≤ e ∧ e ≤ 9999)) ∧ ((0 ≤ f ∧ f ≤ 7) ∧ (0 ≤ g ∧ g ≤ 99)) ∧ (0 ≤ h ∧ h ≤ 400))
  · rw [if_pos k] at hC
    obtain ⟨F2, S2, hX1⟩ := hX mc (fun x hx => hmc x (by omega) (by omega))
    rw [if_pos k] at hX1
    have ho : ∀ x, x ≠ 372 → x ≠ 373 → row (row (wr mc 363 0 0) 373 F2) 372 S2 x = wr mc 363 0 0 x := fun x h1 h2 => by rw [row_o _ _ _ h1, row_o _ _ _ h2]
    refine q_in hC hX1 (by rw [ho 363 (by decide) (by decide), wr_s]) (RR_s ⟨fun x h1 _ => ho x (by unfold scr at h1; omega) (by unfold scr at h1; omega), fun j _ => by rw [ho 363 (by decide) (by decide)]⟩ (gS_o (ho 161 (by decide) (by decide)) (ho 163 (by decide) (by decide)) (RR_0 hRc).2.2.2.2.2.2) (RR_0 hRc))
  · rw [if_neg k] at hC
    obtain ⟨F2, S2, hX1⟩ := hX (wr m 100 17 (m 100 17 + 1)) (fun x hx => wr_o _ _ _ _ (by omega))
    rw [if_neg k] at hX1
    exact q_no hR hC hX1
end S
