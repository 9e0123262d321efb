/-! ===== the call undo ===== -/
section S
variable {d n : Nat} {m : Nat → Nat → Int} {q : Nat → Nat → Option Nat} {w : Option (Nat → Int64)}
theorem T_62 (hd : 11 ≤ d) {k : Nat} (hk : k < 16) (h : m 107 2 = ((k + 1 : Nat) : Int)) : ev d 62 [.ref 107] (mk m q w) = vI 1 (mk (bc (wr m 107 2 k) 108 (112 + 3 * k)) q w) := by
  have hf := keep_bef k107 hk
  have e0 : wr m 107 2 (m 107 2 - 1) = wr m 107 2 k := by rw [h]; congr 1; omega
  rw [e_62 (by omega) _ rfl, b_62_0 k107, if_pos (by rw [h, iI_lt (by omega) (by omega)]; omega), b_62_9 k107 (by rw [e0, wr_s]; omega) (by rw [e0, wr_s]; omega), e0, wr_s, Int.toNat_natCast]
  refine Eq.trans (b_62_32 k107 hf) ?_
  rw [T_22 (by omega) f108 hf (by omega)]
  simp only [rBd_v, Option.toList_some, Option.toList_none, List.cons_append, List.nil_append, List.append_nil]
  rw [b_62_35]
theorem T_62n (hd : 11 ≤ d) (h : m 107 2 = 0) : ev d 62 [.ref 107] (mk m q w) = vI 0 (mk m q w) := by
  rw [e_62 (by omega) _ rfl, b_62_0 k107, if_neg (by rw [h]; decide)]
theorem L_220 {k : Nat} (hk : k < 16) : ∀ (g i : Nat) (m : Nat → Nat → Int), i + g = 48 → m 363 29 = k → gv d rR220 26 [some (.ref 363), some (.int (iI (i : Int)))] [] (mk m q w) = vI k (mk (wr (row m 376 (fun j => if i ≤ j ∧ j < 48 then m 378 (48 * k + j) else m 376 j)) 363 30 0) q w) := by
  intro g
  induction g with
  | zero =>
    intro i m hi hm
    obtain rfl : i = 48 := by omega
    rw [b_220_26, if_neg (by decide), wr_b _ _ _ _ (by decide), hm, show (fun j : Nat => if 48 ≤ j ∧ j < 48 then m 378 (48 * k + j) else m 376 j) = m 376 from funext fun j => if_neg (by omega), row_self]
  | succ g ih =>
    intro i m hi hm
    have hm' : ∀ (e : Nat) (v : Int), (wr m 376 e v) 363 29 = k := fun e v => by rw [wr_o _ _ _ _ (by decide)]; exact hm
    rw [b_220_26, if_pos (by rw [iI_lt (by omega) (by omega)]; omega), b_220_32 (by rw [hm]; omega) (by rw [hm]; omega) (by omega) (by omega), hm, show (i : Int) + 1 = ((i + 1 : Nat) : Int) from rfl, ih (i + 1) _ (by omega) (hm' _ _), show (48 * (k : Int) + (i : Int)).toNat = 48 * k + i by omega, Int.toNat_natCast, wr_o _ _ _ _ (show 378 ≠ 376 by decide)]
    have e : row (wr m 376 i (m 378 (48 * k + i))) 376 (fun j => if i + 1 ≤ j ∧ j < 48 then m 378 (48 * k + j) else wr m 376 i (m 378 (48 * k + i)) 376 j) = row m 376 (fun j => if i ≤ j ∧ j < 48 then m 378 (48 * k + j) else m 376 j) := by
      unfold wr
      rw [row_row]
      congr 1
      funext j
      by_cases hj : j = i
      · subst hj
        rw [if_neg (by omega), row_s, row_s, if_pos (by omega)]
      · rw [row_s, row_o _ _ _ hj]
        by_cases h1 : i + 1 ≤ j ∧ j < 48
        · rw [if_pos h1, if_pos (by omega)]
        · rw [if_neg h1, if_neg (by omega)]
    rw [e]
theorem K_undo : cOK 123 220 [] := by
  intro m q w hR d hd
  obtain ⟨⟨z, ⟨t1, t2⟩, ⟨t3, t4, t5⟩, t6⟩, ⟨n0, r0, k, h0, ⟨k1, k2⟩, ⟨kF, k7, k16, kB⟩, k29, k30, kh, k14, k52, kI⟩, -, -, -, -, hS⟩ := id hR
  cases k with
  | zero =>
    refine ⟨-1, m, q, wr m 363 0 0, ?_, ?_, wr_s _ _ _ _, RR_0 hR⟩
    · rw [e_123 (by omega) _ rfl, b_123_0, T_62n (by omega) k7]
      simp only [rBd_v, Option.toList_some, Option.toList_none, List.cons_append, List.nil_append, List.append_nil]
      rw [b_123_7, if_pos rfl]
    · rw [e_220 (by omega) _ rfl, b_220_0, wr_b _ _ _ _ (by decide), k29, if_pos (show iI ((0 : Nat) : Int) = iI 0 from rfl)]
  | succ k =>
    have hk : k < 16 := by omega
    obtain ⟨m1, em1⟩ : ∃ m1, m1 = wr (bc (wr m 107 2 k) 108 (112 + 3 * k)) 100 15 0 := ⟨_, rfl⟩
    have a1 : ∀ e, e ≠ 100 → e ≠ 107 → e ≠ 108 → e ≠ 109 → e ≠ 110 → m1 e = m e := by
      intro e h1 h2 h3 h4 h5
      rw [em1, wr_o _ _ _ _ h1, bc_o _ h3 h4 h5, wr_o _ _ _ _ h2]
    have a2 : m1 107 2 = k := by
      rw [em1, wr_o _ _ _ _ (by decide), bc_o _ (by decide) (by decide) (by decide), wr_s]
    have a3 : (∀ j, j < 9 → m1 108 j = m (112 + 3 * k) j) ∧ (∀ j, j < 7 → m1 109 j = m (113 + 3 * k) j) ∧ (∀ j, j < 28 → m1 110 j = m (114 + 3 * k) j) := by
      rw [em1]
      refine ⟨fun j hj => ?_, fun j hj => ?_, fun j hj => ?_⟩
      · rw [wr_o _ _ _ _ (by decide), bc_0 _ hj, wr_o _ _ _ _ (by omega)]
      · rw [wr_o _ _ _ _ (by decide), show 109 = 108 + 1 from rfl, bc_1 _ hj, wr_o _ _ _ _ (by omega), show 112 + 3 * k + 1 = 113 + 3 * k by omega]
      · rw [wr_o _ _ _ _ (by decide), show 110 = 108 + 2 from rfl, bc_2 _ hj, wr_o _ _ _ _ (by omega), show 112 + 3 * k + 2 = 114 + 3 * k by omega]
    have a4 : m1 100 15 = 0 ∧ ∀ j, j ≠ 15 → m1 100 j = m 100 j := by
      rw [em1]
      refine ⟨wr_s _ _ _ _, fun j hj => ?_⟩
      rw [wr_b _ _ _ _ hj, bc_o _ (by decide) (by decide) (by decide), wr_o _ _ _ _ (by decide)]
    have hC : ev d 123 [.ref 100] (mk m q w) = vI k (mk m1 q w) := by
      rw [e_123 (by omega) _ rfl, b_123_0, T_62 (by omega) hk k7]
      simp only [rBd_v, Option.toList_some, Option.toList_none, List.cons_append, List.nil_append, List.append_nil]
      rw [b_123_7, if_neg (by decide), ← em1, a2]
    clear em1
    have e363 := a1 363 (by decide) (by decide) (by decide) (by decide) (by decide)
    have hw29 : ∀ v : Int, wr (wr m1 363 0 0) 363 29 v 363 29 = v := fun v => wr_s _ _ _ _
    obtain ⟨m2, em2⟩ : ∃ m2, m2 = wr (row (wr (wr m1 363 0 0) 363 29 k) 376 (fun j => if 0 ≤ j ∧ j < 48 then (wr (wr m1 363 0 0) 363 29 k) 378 (48 * k + j) else (wr (wr m1 363 0 0) 363 29 k) 376 j)) 363 30 0 := ⟨_, rfl⟩
    have hX : ev d 220 [.ref 363] (mk m1 q w) = vI k (mk m2 q w) := by
      have e29 : wr m1 363 0 0 363 29 = ((k + 1 : Nat) : Int) := by
        rw [wr_b _ _ _ _ (by decide), e363]
        exact k29
      rw [e_220 (by omega) _ rfl, b_220_0, e29, if_neg (by rw [iI_eq (by omega) (by omega)]; omega), show ((k + 1 : Nat) : Int) - 1 = k by omega, show iI 0 = iI ((0 : Nat) : Int) from rfl, L_220 hk 48 0 _ rfl (wr_s _ _ _ _), ← em2]
    have b1 : ∀ e, e ≠ 363 → e ≠ 376 → m2 e = m1 e := by
      intro e h1 h2
      rw [em2, wr_o _ _ _ _ h1, row_o _ _ _ h2, wr_o _ _ _ _ h1, wr_o _ _ _ _ h1]
    have b2 : ∀ j, j < 48 → m2 376 j = m 378 (48 * k + j) := by
      intro j hj
      rw [em2, wr_o _ _ _ _ (by decide), row_s, if_pos (by omega), wr_o _ _ _ _ (by decide), wr_o _ _ _ _ (by decide), a1 378 (by decide) (by decide) (by decide) (by decide) (by decide)]
    have b3 : ∀ j, j ≠ 0 → j ≠ 29 → j ≠ 30 → m2 363 j = m 363 j := by
      intro j h1 h2 h3
      rw [em2, wr_b _ _ _ _ h3, row_o _ _ _ (by decide), wr_b _ _ _ _ h2, wr_b _ _ _ _ h1, e363]
    have b4 : m2 363 0 = 0 ∧ m2 363 29 = k ∧ m2 363 30 = 0 := by
      rw [em2]
      refine ⟨?_, ?_, wr_s _ _ _ _⟩
      · rw [wr_b _ _ _ _ (by decide), row_o _ _ _ (by decide), wr_b _ _ _ _ (by decide), wr_s]
      · rw [wr_b _ _ _ _ (by decide), row_o _ _ _ (by decide), wr_s]
    clear em2
    have c : ∀ e, e ≠ 100 → e ≠ 107 → e ≠ 108 → e ≠ 109 → e ≠ 110 → e ≠ 363 → e ≠ 376 → m2 e = m e := fun e h1 h2 h3 h4 h5 h6 h7 => (b1 e h6 h7).trans (a1 e h1 h2 h3 h4 h5)
    have c100 : m2 100 = m1 100 := b1 100 (by decide) (by decide)
    refine ⟨k, m1, q, m2, hC, hX, b4.1, RR_gK (n := n0) (r := r0) (k := k) (e := h0) (z := z) hR (fun e h1 h2 h3 h4 h5 h6 h7 h8 => c e h1 (by omega) (by omega) (by omega) (by omega) h3 h6) ⟨by rw [c100, a4.2 16 (by decide)], by rw [c100, a4.2 17 (by decide)]⟩ ⟨b3 24 (by decide) (by decide) (by decide), b3 42 (by decide) (by decide) (by decide)⟩ (fun _ _ _ => rfl) ⟨⟨?_, ?_⟩, ⟨t3, ?_, ?_⟩, ?_⟩ ⟨⟨(b3 15 (by decide) (by decide) (by decide)).trans k1, (b3 16 (by decide) (by decide) (by decide)).trans k2⟩, ⟨?_, by rw [b1 107 (by decide) (by decide)]; exact a2, by omega, fun i hi => ?_⟩, b4.2.1, by rw [c100, a4.1, b4.2.2], kh, by rw [c100, a4.2 14 (by decide)]; exact k14, (b3 52 (by decide) (by decide) (by decide)).trans k52, fun i hi => ?_⟩ ?_⟩
    · rw [c 102 (by omega) (by omega) (by omega) (by omega) (by omega) (by omega) (by omega), c 365 (by omega) (by omega) (by omega) (by omega) (by omega) (by omega) (by omega)]
      exact t1
    · rw [c 365 (by omega) (by omega) (by omega) (by omega) (by omega) (by omega) (by omega)]
      exact t2
    · rw [c 101 (by omega) (by omega) (by omega) (by omega) (by omega) (by omega) (by omega)]
      exact t4
    · rw [b3 2 (by decide) (by decide) (by decide)]
      exact t5
    · rw [c 101 (by omega) (by omega) (by omega) (by omega) (by omega) (by omega) (by omega), b3 8 (by decide) (by decide) (by decide)]
      exact t6
    · show fnR n0 r0 400 (m2 108) (m2 109) (m2 110) (m2 376)
      rw [b1 108 (by decide) (by decide), b1 109 (by decide) (by decide), b1 110 (by decide) (by decide)]
      exact fnR_congr a3.1 a3.2.1 a3.2.2 b2 (kB k (by omega))
    · show fnR n0 r0 400 (m2 (112 + 3 * i)) (m2 (113 + 3 * i)) (m2 (114 + 3 * i)) (fun j => m2 378 (48 * i + j))
      rw [c (112 + 3 * i) (by omega) (by omega) (by omega) (by omega) (by omega) (by omega) (by omega), c (113 + 3 * i) (by omega) (by omega) (by omega) (by omega) (by omega) (by omega) (by omega), c (114 + 3 * i) (by omega) (by omega) (by omega) (by omega) (by omega) (by omega) (by omega), c 378 (by omega) (by omega) (by omega) (by omega) (by omega) (by omega) (by omega)]
      exact kB i (by omega)
    · obtain ⟨e9, e1, e2⟩ := kI i hi
      rw [c 390 (by omega) (by omega) (by omega) (by omega) (by omega) (by omega) (by omega)]
      exact ⟨e9, kpR_q (fun e h1 h2 => c e (by omega) (by omega) (by omega) (by omega) (by omega) (by omega) (by omega)) rfl rfl e1, e2⟩
    · unfold gS fB at *
      rw [c (161 + 2) (by omega) (by omega) (by omega) (by omega) (by omega) (by omega) (by omega), c 161 (by omega) (by omega) (by omega) (by omega) (by omega) (by omega) (by omega)]
      exact hS
end S
