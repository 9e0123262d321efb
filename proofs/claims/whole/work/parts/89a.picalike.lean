/-! ===== the call picture, alike ===== -/
section S
variable {d n : Nat} {m : Nat → Nat → Int} {q : Nat → Nat → Option Nat} {w : Option (Nat → Int64)}
theorem C_120 (hd : 40 ≤ d) {a c : Int} {z p : Nat} {M1 : Nat → Nat → Int} (ha : i32 a) (hc : i32 c) (hz : z ≤ 600) (h1 : m 101 1 = z) (hq : q 100 11 = some p) (hp : iPic p) (hg : (0 ≤ a ∧ a ≤ 60 ∧ a ≤ z) ∧ 0 ≤ c ∧ c ≤ 1) (h74 : gv (d - 2) rR74 7 [some (.ref p), some (.ref 101), some (.int (iI ((0 : Nat) : Int))), none, none] [] (mk (tr (px (wr m 101 2 a) p (m (p + 1)) 0) (0, 0, -1)) q w) = vV (mk M1 q w)) : ev d 120 [.ref 100, .int (iI a), .int (iI c)] (mk m q w) =
    gv (d - 1) rR120 50 [some (.ref 100), some (.int (iI a)), some (.int (iI c)), none] [] (mk M1 q w) := by
  have hl := pic_rng hp
  rw [e_120 (by omega) _ rfl rfl rfl, b_120_0, T_82 (by omega) ha (by omega) (by rw [h1]; omega), h1]
  simp only [rBd_v, Option.toList_some, Option.toList_none, List.cons_append, List.nil_append, List.append_nil]
  rw [b_120_11, zb_t hg.1, if_neg (by decide), T_6 (by omega) hc (by omega) (by omega), zb_t hg.2]
  simp only [rBd_v, Option.toList_some, Option.toList_none, List.cons_append, List.nil_append, List.append_nil]
  rw [b_120_20, if_neg (by decide), b_120_28, T_116 (by omega), if_neg (by decide)]
  simp only [rBd_v, Option.toList_some, Option.toList_none, List.cons_append, List.nil_append, List.append_nil, b_120_31]
  rw [T_83 (by omega) ha (by rw [h1]; omega) (by rw [h1]; omega)]
  simp only [rBd_v, Option.toList_some, Option.toList_none, List.cons_append, List.nil_append, List.append_nil, b_120_39, hq]
  refine Eq.trans (b_120_43 hp) ?_
  have e0 : wr (wr m 101 2 a) p 1 0 = px (wr m 101 2 a) p (m (p + 1)) 0 := by
    unfold px
    rw [show row (wr m 101 2 a) (p + 1) (m (p + 1)) = wr m 101 2 a from by
      rw [← wr_o m 101 2 a (show p + 1 ≠ 101 by omega), row_self]]
    rfl
  rw [e_74 (by omega) _ rfl rfl, b_74_0 hp, tr_wo (by omega), e0, show d - 1 - 1 = d - 2 by omega, show iI 0 = iI ((0 : Nat) : Int) from rfl, h74]
  simp only [rBd_v, Option.toList_some, Option.toList_none, List.cons_append, List.nil_append, List.append_nil]
theorem C_120n (hd : 40 ≤ d) {a c : Int} {z : Nat} (ha : i32 a) (hc : i32 c) (hz : z ≤ 600) (h1 : m 101 1 = z) (hg : ¬ ((0 ≤ a ∧ a ≤ 60 ∧ a ≤ z) ∧ 0 ≤ c ∧ c ≤ 1)) : ev d 120 [.ref 100, .int (iI a), .int (iI c)] (mk m q w) = some (.inr 0, (mk (wr m 100 17 (m 100 17 + 1)) q w, (1, 6))) := by
  have hE : gv (d - 1) rR120 27 [some (.ref 100), some (.int (iI a)), some (.int (iI c)), none] [.ref 100] (mk m q w) = some (.inr 0, (mk (wr m 100 17 (m 100 17 + 1)) q w, (1, 6))) := by
    rw [b_120_27, b_120_28, T_116 (by omega), if_pos rfl]
    rfl
  rw [e_120 (by omega) _ rfl rfl rfl, b_120_0, T_82 (by omega) ha (by omega) (by rw [h1]; omega), h1]
  simp only [rBd_v, Option.toList_some, Option.toList_none, List.cons_append, List.nil_append, List.append_nil]
  rw [b_120_11]
  simp only [zb_0]
  by_cases h : 0 ≤ a ∧ a ≤ 60 ∧ a ≤ z
  · rw [if_neg (not_not_intro h), T_6 (by omega) hc (by omega) (by omega)]
    simp only [rBd_v, Option.toList_some, Option.toList_none, List.cons_append, List.nil_append, List.append_nil]
    rw [b_120_20]
    simp only [zb_0]
    rw [if_pos (fun y => hg ⟨h, y⟩), hE]
  · rw [if_pos h, hE]
set_option maxHeartbeats 2000000 in
theorem K_picture {a c : Int} (ha : i32 a) (hc : i32 c) : cTH 120 218 [.int (iI a), .int (iI c)] 1 := by
  intro m q w hR d hd
  have hRR := hR
  obtain ⟨⟨z, ⟨t1, t2⟩, ⟨t3, t4, t5⟩, t6⟩, -, ⟨y, y', l1, l2, l3, l4, l5, -⟩, ⟨p0, p1, p2, q0, q1, q2, i0, i1, i2, j0, j1, j2, ⟨z0, P0⟩, ⟨z1, P1⟩⟩, -, -, hS⟩ := hR
  have hp0 := pic_three i0
  have hp1 := pic_three i1
  have hp2 := pic_three i2
  by_cases hg : (0 ≤ a ∧ a ≤ 60 ∧ a ≤ z) ∧ 0 ≤ c ∧ c ≤ 1
  case neg =>
    refine Or.inr ⟨0, 0, _, noX (wr m 100 17 (m 100 17 + 1)) 1 1, Or.inl rfl, C_120n (by omega) ha hc t3 t4 hg, ?_, noX_0, RR_no0 hRR⟩
    rw [X_218o (z := z) (by omega) ha hc t3 (by rw [wr_o _ _ _ _ (by decide)]; exact t5), if_neg (by omega)]
  left
  obtain ⟨n, rfl⟩ : ∃ n : Nat, a = n := ⟨a.toNat, by omega⟩
  obtain ⟨c, rfl⟩ : ∃ e : Nat, c = e := ⟨c.toNat, by omega⟩
  have hn : n ≤ 60 := by omega
  have hT102 : isT (m 102) := by rw [t1]; exact t2
  obtain ⟨s', x', P', Q', z', zx', g1, g2, r3, g4, g5, c1, c2⟩ := J_pic (T := m 102) (n := n) hT102 (by omega) i2 (m (p2 + 1)) (m 379) (0, 0, -1) (0, -1, m 363 6) ⟨by show 0 ≤ n; omega, by show i32 0; omega⟩ ⟨by show 0 ≤ n; omega, by show i32 (-1); omega⟩ (Or.inl ⟨rfl, rfl, rfl⟩) (fun i hi => absurd hi (by omega))
  have hO : onT (wr m 101 2 (n : Int)) (m 102) n := ⟨wr_o _ _ _ _ (by decide), wr_s _ _ _ _, by omega, hT102⟩
  have hC := C_120 (d := d) (m := m) (q := q) (w := w) (by omega) ha hc t3 t4 q2 i2 hg (c1 (d - 2) (by omega) (wr m 101 2 (n : Int)) q w none none hO)
  have hgF := aFi_gd (T := m 102) g1
  rw [b_120_50, T_85 (by omega) (px_on i2 hO) g1] at hC
  simp only [rBd_v, Option.toList_some, Option.toList_none, List.cons_append, List.nil_append, List.append_nil] at hC
  rw [b_120_57] at hC
  simp only [zb_0] at hC
  generalize hA : aFi (m 102) n s' = sA at *
  have hX : ∀ (m1 : Nat → Nat → Int) (qr : Nat → Nat → Option Nat), (∀ e, 363 ≤ e → m1 e = m e) → ∃ v m', ev d 218 [.ref 363, .int (iI (n : Int)), .int (iI (c : Int))] (mk m1 qr w) = vI v (mk m' qr w) ∧
      (x'.2.1 ≠ -1 → v = x'.2.2 - 10 ∧ m' = mr (wr (row (bgX m1 (n : Int)) 379 Q') 363 8 x'.2.1) x') ∧
      (x'.2.1 = -1 → v = zx' ∧ (∀ e, e ≠ 363 → e ≠ 380 → e ≠ 381 → m' e = (row (bgX m1 (n : Int)) 379 Q') e) ∧ (∀ j, j ≠ 4 → j ≠ 5 → j ≠ 6 → j ≠ 8 → m' 363 j = (row (bgX m1 (n : Int)) 379 Q') 363 j) ∧ m' 363 8 = -1 ∧ (m' 381 c = zx' ∧ (∀ j, j ≠ c → m' 381 j = (row (bgX m1 (n : Int)) 379 Q') 381 j)) ∧ (∀ i, i < zx' → m' 380 (7 * c + i) = (row (bgX m1 (n : Int)) 379 Q') 379 i) ∧ ∀ j, ¬ (7 * c ≤ j ∧ j < 7 * c + zx') → m' 380 j = (row (bgX m1 (n : Int)) 379 Q') 380 j) := by
    intro m1 qr h1
    have e3 := h1 363 (by decide)
    have hOX : onX (bgX m1 (n : Int)) (m 102) n := ⟨by rw [bgX_o (by decide), h1 365 (by decide), t1], bgX_3, by omega, hT102⟩
    have e0 : row (bgX m1 (n : Int)) 379 (m 379) = bgX m1 (n : Int) := by
      rw [show m 379 = bgX m1 (n : Int) 379 by rw [bgX_o (by decide), h1 379 (by decide)], row_self]
    obtain ⟨u4', u5', c3⟩ := c2 (d - 1) (by omega) (bgX m1 (n : Int)) qr w (some (.int (iI (n : Int)))) none none (c : Int) hOX
    obtain ⟨v, m', v1, v2⟩ := X_218e (M := row (bgX m1 (n : Int)) 379 Q') (xs := x') (n := n) (q := qr) (w := w) (d := d - 1) (u1 := some (.int (iI (n : Int)))) (u4 := u4') (u5 := u5') (c := c) (z := zx') (by omega) (by omega) (fun h => by rw [(g5 h).1]; exact g4) g2
    refine ⟨v, m', ?_, v2⟩
    rw [X_218o (z := z) (by omega) ha hc t3 (by rw [e3]; exact t5), if_pos (by omega), e3]
    rw [e0] at c3
    exact c3.trans v1
  have hSp : ∀ m1 : Nat → Nat → Int, m1 = tr (wr (px (wr m 101 2 (n : Int)) p2 P' z') 101 1 0) sA → (∀ e, e ≠ 101 → e ≠ p2 → e ≠ p2 + 1 → m1 e = m e) ∧ m1 101 1 = 0 ∧ m1 101 5 = (if sA.2.1 = 0 then -1 else sA.2.2) ∧ m1 (p2 + 1) = P' ∧ m1 p2 1 = z' := by
    rintro m1 rfl
    refine ⟨fun e h1 h2 h3 => ?_, ?_, tr_5, ?_, ?_⟩
    · rw [tr_o h1, wr_o _ _ _ _ h1]
      unfold px
      rw [wr_o _ _ _ _ h2, row_o _ _ _ h3, wr_o _ _ _ _ h1]
    · rw [tr_1, wr_s]
    · rw [tr_o (by omega), wr_o _ _ _ _ (by omega)]
      unfold px
      rw [wr_o _ _ _ _ (by omega), row_s]
    · rw [tr_o (by omega), wr_o _ _ _ _ (by omega), px_1]
  obtain ⟨m1, em1⟩ : ∃ m1, m1 = tr (wr (px (wr m 101 2 (n : Int)) p2 P' z') 101 1 0) sA := ⟨_, rfl⟩
  obtain ⟨a1, a2, a3, a4, a5⟩ := hSp m1 em1
  clear hSp
  have hm363 : ∀ e, 363 ≤ e → m1 e = m e := fun e he => a1 e (by omega) (by omega) (by omega)
  obtain ⟨ms, ems⟩ : ∃ ms, ms = row (row m p2 (m1 p2)) (p2 + 1) (m1 (p2 + 1)) := ⟨_, rfl⟩
  have hso : ∀ e, e ≠ 101 → ms e = m1 e := by
    intro e h1
    rw [ems]
    by_cases h2 : e = p2 + 1
    · rw [h2, row_s]
    · rw [row_o _ _ _ h2]
      by_cases h3 : e = p2
      · rw [h3, row_s]
      · rw [row_o _ _ _ h3, a1 e h1 h3 h2]
  have hSpare : RR ms q := RR_sp hRR (fun e => by
    rw [ems]
    by_cases h1 : e = p2
    · exact Or.inr (Or.inr (Or.inl ⟨p2, q2, Or.inl h1⟩))
    · by_cases h2 : e = p2 + 1
      · exact Or.inr (Or.inr (Or.inl ⟨p2, q2, Or.inr h2⟩))
      · exact Or.inl (by rw [row_o _ _ _ h2, row_o _ _ _ h1]))
  clear ems
  by_cases hf : sA.2.1 = 0
  · have hx := (rel_fine r3).mp hf
    obtain ⟨k1, k2⟩ := g5 hx
    subst k1
    obtain ⟨po, o1, o2, o3⟩ : ∃ po, q 181 c = some po ∧ iPic po ∧ po ≠ p2 := by
      rcases (show c = 0 ∨ c = 1 by omega) with rfl | rfl
      · exact ⟨p0, q0, i0, j1⟩
      · exact ⟨p1, q1, i1, j2⟩
    rw [if_pos (not_not_intro hf), b_120_68 (by omega) (by omega), Int.toNat_natCast, o1] at hC
    replace hC := hC.trans (b_120_74 o2)
    rw [q2] at hC
    replace hC := hC.trans (b_120_84 o2 i2 (by omega) (by omega) (by omega) (by omega))
    rw [Int.toNat_natCast] at hC
    have qc : (wq (wq q 181 c (some p2)) 100 11 (some po)) 181 c = some p2 := by simp [wq, row]
    have q11 : (wq (wq q 181 c (some p2)) 100 11 (some po)) 100 11 = some po := by simp [wq, row]
    have qe : ∀ e, e ≠ c → (wq (wq q 181 c (some p2)) 100 11 (some po)) 181 e = q 181 e := by
      intro e he
      simp [wq, row, he]
    have qo : ∀ i j, i ≠ 181 → ¬ (i = 100 ∧ j = 11) → (wq (wq q 181 c (some p2)) 100 11 (some po)) i j = q i j := by
      intro i j h1 h2
      by_cases h3 : i = 100
      · have h4 : j ≠ 11 := fun z => h2 ⟨h3, z⟩
        simp [wq, row, h1, h3, h4]
      · simp [wq, row, h1, h3]
    rw [qc] at hC
    replace hC := hC.trans (b_120_96 i2)
    rw [← em1, a5] at hC
    generalize hq1 : wq (wq q 181 c (some p2)) 100 11 (some po) = qn at *
    obtain ⟨v, m2, x1, -, x3⟩ := hX m1 qn hm363
    obtain ⟨w1, w2, w3, w4, ⟨w5, w6⟩, w7, w8⟩ := x3 hx
    clear hX x3 em1
    have er : ∀ e, e ≠ 363 → e ≠ 379 → (row (bgX m1 (n : Int)) 379 Q') e = m1 e := by
      intro e h1 h2
      rw [row_o _ _ _ h2, bgX_o h1]
    have eo : ∀ e, e ≠ 363 → e ≠ 379 → e ≠ 380 → e ≠ 381 → m2 e = m1 e := fun e h1 h2 h3 h4 => (w2 e h1 h3 h4).trans (er e h1 h2)
    have eb : ∀ j, j ≠ 4 → j ≠ 5 → j ≠ 6 → j ≠ 8 → m2 363 j = bgX m1 (n : Int) 363 j := by
      intro j h4 h5 h6 h8
      rw [w3 j h4 h5 h6 h8, row_o _ _ _ (by decide)]
    refine ⟨zx', m1, qn, m2, hC, by rw [x1, w1], by rw [eb 0 (by decide) (by decide) (by decide) (by decide), bgX_0], ?_⟩
    obtain ⟨mi, emi⟩ : ∃ mi, mi = row (row ms 380 (m2 380)) 381 (m2 381) := ⟨_, rfl⟩
    have hio : ∀ e, e ≠ 380 → e ≠ 381 → mi e = ms e := by
      intro e h1 h2
      rw [emi, row_o _ _ _ h2, row_o _ _ _ h1]
    have hi0 : mi 380 = m2 380 := by rw [emi, row_o _ _ _ (by decide), row_s]
    have hi1 : mi 381 = m2 381 := by rw [emi, row_s]
    clear emi
    have hnew : gP1 mi p2 c zx' := by
      refine ⟨g4, by rw [hio p2 (by omega) (by omega), hso p2 (by omega)]; exact a5, by rw [hi1]; exact w5, ?_⟩
      intro i hi
      rw [hio (p2 + 1) (by omega) (by omega), hso (p2 + 1) (by omega), a4]
      show P' i = mi 380 (7 * c + i) ∧ _
      rw [hi0, w7 i hi, row_s]
      exact k2 i hi
    have hold : ∀ p e z9, iPic p → p ≠ p2 → e ≠ c → e < 2 → gP1 m p e z9 → gP1 mi p e z9 := by
      intro p e z9 h1 h2 h3 h4 ⟨h5, h6, h7, h8⟩
      have hp := pic_three h1
      have hff := pic_far h1 i2 h2
      have em : ∀ x, x = p ∨ x = p + 1 → mi x = m x := by
        intro x hx
        rw [hio x (by omega) (by omega), hso x (by omega), a1 x (by omega) (by omega) (by omega)]
      refine ⟨h5, by rw [em p (Or.inl rfl)]; exact h6, ?_, ?_⟩
      · rw [hi1, w6 e h3, er 381 (by decide) (by decide), hm363 381 (by decide)]
        exact h7
      · intro i hi
        rw [em (p + 1) (Or.inr rfl)]
        show m (p + 1) i = mi 380 (7 * e + i) ∧ _
        rw [hi0, w8 (7 * e + i) (by omega), er 380 (by decide) (by decide), hm363 380 (by decide)]
        exact h8 i hi
    have hRi : RR mi qn := by
      rcases (show c = 0 ∨ c = 1 by omega) with rfl | rfl
      · have : po = p0 := by rw [q0] at o1; cases o1; rfl
        subst this
        exact RR_gP (p0 := p2) (p1 := p1) hSpare hio qo ⟨po, qc, by rw [qe 1 (by decide)]; exact q1, q11, i2, i1, i0, Ne.symm j2, Ne.symm j1, Ne.symm j0, ⟨zx', hnew⟩, ⟨z1, hold p1 1 z1 i1 j2 (by decide) (by decide) P1⟩⟩
      · have : po = p1 := by rw [q1] at o1; cases o1; rfl
        subst this
        exact RR_gP (p0 := p0) (p1 := p2) hSpare hio qo ⟨po, by rw [qe 0 (by decide)]; exact q0, qc, q11, i0, i2, i1, j1, j0, Ne.symm j2, ⟨z0, hold p0 0 z0 i0 j1 (by decide) (by decide) P0⟩, ⟨zx', hnew⟩⟩
    have hq : qk mi m2 := by
      refine ⟨fun e h1 h2 h3 => ?_, fun j hj => ?_⟩
      · unfold scr at h1
        by_cases h4 : e = 380
        · rw [h4, hi0]
        · by_cases h5 : e = 381
          · rw [h5, hi1]
          · rw [eo e h3 (by omega) h4 h5, hio e h4 h5, hso e h2]
      · rw [eb j (by omega) (by omega) (by omega) (by omega), bgX_b (by omega) (by omega) (by omega) (by omega) (by omega), hio 363 (by omega) (by omega), hso 363 (by omega)]
    refine RR_k (z := 0) hq ⟨⟨?_, ?_⟩, ⟨by omega, ?_, ?_⟩, ?_⟩ ?_ hRi
    · rw [eo 102 (by omega) (by omega) (by omega) (by omega), eo 365 (by omega) (by omega) (by omega) (by omega), hm363 365 (by omega), a1 102 (by omega) (by omega) (by omega)]
      exact t1
    · rw [eo 365 (by omega) (by omega) (by omega) (by omega), hm363 365 (by omega)]
      exact t2
    · rw [eo 101 (by omega) (by omega) (by omega) (by omega), a2]
      rfl
    · rw [eb 2 (by decide) (by decide) (by decide) (by decide), bgX_2]
      rfl
    · rw [eo 101 (by omega) (by omega) (by omega) (by omega), a3, if_pos hf, w4]
    · unfold gS fB at *
      rw [eo (161 + 2) (by omega) (by omega) (by omega) (by omega), eo 161 (by omega) (by omega) (by omega) (by omega), a1 (161 + 2) (by omega) (by omega) (by omega), a1 161 (by omega) (by omega) (by omega)]
      exact hS
  · have hx := rel_nf r3 hf
    rw [if_neg (fun z => z hf), T_86 (by omega)] at hC
    simp only [rBd_v, Option.toList_some, Option.toList_none, List.cons_append, List.nil_append, List.append_nil] at hC
    rw [b_120_67, ← em1] at hC
    obtain ⟨v, m2, x1, x2, -⟩ := hX m1 q hm363
    obtain ⟨w1, w2⟩ := x2 hx
    clear hX x2 em1
    rcases r3 with ⟨o1, -, -⟩ | ⟨-, -, o3, o4⟩
    · exact absurd o1 hf
    have eo : ∀ e, e ≠ 363 → e ≠ 379 → m2 e = m1 e := by
      intro e h1 h2
      rw [w2, mr_o _ _ h1, wr_o _ _ _ _ h1, row_o _ _ _ h2, bgX_o h1]
    have eb : ∀ j, j ≠ 4 → j ≠ 5 → j ≠ 6 → j ≠ 8 → m2 363 j = bgX m1 (n : Int) 363 j := by
      intro j h4 h5 h6 h8
      rw [w2, mr_b _ _ h4 h5 h6, wr_b _ _ _ _ h8, row_o _ _ _ (by decide)]
    refine ⟨sA.2.1 - 10, m1, q, m2, hC, by rw [x1, w1, o4], by rw [eb 0 (by decide) (by decide) (by decide) (by decide), bgX_0], ?_⟩
    have hq : qk ms m2 := by
      refine ⟨fun e h1 h2 h3 => ?_, fun j hj => ?_⟩
      · unfold scr at h1
        rw [eo e h3 (by omega), hso e h2]
      · rw [eb j (by omega) (by omega) (by omega) (by omega), bgX_b (by omega) (by omega) (by omega) (by omega) (by omega), hso 363 (by omega)]
    refine RR_k (z := 0) hq ⟨⟨?_, ?_⟩, ⟨by omega, ?_, ?_⟩, ?_⟩ ?_ hSpare
    · rw [eo 102 (by omega) (by omega), eo 365 (by omega) (by omega), hm363 365 (by omega), a1 102 (by omega) (by omega) (by omega)]
      exact t1
    · rw [eo 365 (by omega) (by omega), hm363 365 (by omega)]
      exact t2
    · rw [eo 101 (by omega) (by omega), a2]
      rfl
    · rw [eb 2 (by decide) (by decide) (by decide) (by decide), bgX_2]
      rfl
    · rw [eo 101 (by omega) (by omega), a3, if_neg hf, w2, mr_b _ _ (by decide) (by decide) (by decide), wr_s, o3]
    · unfold gS fB at *
      rw [eo (161 + 2) (by omega) (by omega), eo 161 (by omega) (by omega), a1 (161 + 2) (by omega) (by omega) (by omega), a1 161 (by omega) (by omega) (by omega)]
      exact hS
end S
