/-! ===== the call restore, alike ===== -/
section S
variable {d n : Nat} {m : Nat → Nat → Int} {q : Nat → Nat → Option Nat} {w : Option (Nat → Int64)}
theorem K_restore : cOK 156 271 [] := by
  intro m q w hR d hd
  obtain ⟨⟨z, ⟨t1, t2⟩, ⟨t3, t4, t5⟩, t6⟩, ⟨n0, r0, k, h0, ⟨k1, k2⟩, kK, k29, k30, kh, k14, k52, kI⟩, -, -, -, -, hS⟩ := id hR
  cases h0 with
  | zero =>
    refine ⟨-1, m, q, wr m 363 0 0, ?_, ?_, wr_s _ _ _ _, RR_0 hR⟩
    · rw [e_156 (by omega) _ rfl, b_156_0, k14, if_neg (by decide)]
    · rw [e_271 (by omega) _ rfl, b_271_0, wr_b _ _ _ _ (by decide), k52, if_pos (show iI ((0 : Nat) : Int) = iI 0 from rfl)]
  | succ i =>
    have hi3 : i < 3 := by omega
    have hx := keep_im hi3
    obtain ⟨k', iK, iN⟩ := kI i (by omega)
    obtain ⟨ma, ema⟩ : ∃ ma, ma = wr m 100 14 (i : Int) := ⟨_, rfl⟩
    have ma1 : ∀ e, e ≠ 100 → ma e = m e := fun e h => by rw [ema, wr_o _ _ _ _ h]
    have iK2 : kpR n0 r0 ma (200 + 53 * i) (fun j => m 390 (817 * i + j)) (fun j => m 390 (817 * i + 48 + j)) k' := kpR_q (fun e h1 h2 => ma1 e (by omega)) rfl rfl iK
    obtain ⟨m9, v1, v2, v3, v4, v5⟩ := T_60 (q := q) (w := w) (m := ma) (d := d - 1) (by omega) k107 hx (by omega) iK2.2.2.1 iK2.2.1
    obtain ⟨m1, em1⟩ : ∃ m1, m1 = wr m9 100 15 0 := ⟨_, rfl⟩
    have e14 : m9 100 14 = i := by rw [v2 100 (by omega), ema, wr_s]
    have hC : ev d 156 [.ref 100] (mk m q w) = vI i (mk m1 q w) := by
      have ew : wr m 100 14 (m 100 14 - 1) = ma := by rw [k14, ema]; congr 1; omega
      have ev14 : ma 100 14 = i := by rw [ema, wr_s]
      rw [e_156 (by omega) _ rfl, b_156_0, k14, if_pos (by rw [iI_lt (by omega) (by omega)]; omega), b_156_9 (by rw [ew, ev14]; omega) (by rw [ew, ev14]; omega), ew, ev14, Int.toNat_natCast]
      refine Eq.trans (b_156_32 hx) ?_
      rw [v1]
      simp only [rBd_v, Option.toList_some, Option.toList_none, List.cons_append, List.nil_append, List.append_nil]
      rw [b_156_35, wr_b _ _ _ _ (by decide), e14, ← em1]
    have a1 : ∀ e, e ≠ 100 → (e < 107 ∨ 159 < e) → m1 e = m e := by
      intro e h1 h2
      rw [em1, wr_o _ _ _ _ h1, v2 e (by omega), ma1 e h1]
    have a2 : m1 100 14 = i ∧ m1 100 15 = 0 ∧ ∀ j, j ≠ 14 → j ≠ 15 → m1 100 j = m 100 j := by
      rw [em1]
      exact ⟨by rw [wr_b _ _ _ _ (by decide), e14], wr_s _ _ _ _, fun j h1 h2 => by rw [wr_b _ _ _ _ h2, v2 100 (by omega), ema, wr_b _ _ _ _ h1]⟩
    have a3 : ∀ e, e ≠ 100 → m1 e = m9 e := fun e h1 => by rw [em1, wr_o _ _ _ _ h1]
    clear em1 v1 v2 ema
    have e363 := a1 363 (by decide) (by omega)
    have e52 : wr m1 363 0 0 363 52 = ((i + 1 : Nat) : Int) := by
      rw [wr_b _ _ _ _ (by decide), e363]
      exact k52
    obtain ⟨mb, emb⟩ : ∃ mb, mb = wr (wr m1 363 0 0) 363 52 (i : Int) := ⟨_, rfl⟩
    obtain ⟨m8, u1, u2, u3, u4, u5, u6⟩ := V_269b (q := q) (w := w) (m := mb) (d := d - 1) (by omega) hi3
    obtain ⟨m2, em2⟩ : ∃ m2, m2 = wr m8 363 30 0 := ⟨_, rfl⟩
    have e852 : m8 363 52 = i := by rw [u3 52 (by decide), emb, wr_s]
    have hX : ev d 271 [.ref 363] (mk m1 q w) = vI i (mk m2 q w) := by
      have ew : wr (wr m1 363 0 0) 363 52 (((i + 1 : Nat) : Int) - 1) = mb := by rw [emb]; congr 1; omega
      have ev52 : mb 363 52 = i := by rw [emb, wr_s]
      rw [e_271 (by omega) _ rfl, b_271_0, e52, if_neg (by rw [iI_eq (by omega) (by omega)]; omega), ew, ev52, u1]
      simp only [rBd_v, Option.toList_some, Option.toList_none, List.cons_append, List.nil_append, List.append_nil]
      rw [b_271_33, wr_b _ _ _ _ (by decide), e852, ← em2]
    have b0 : ∀ e, e ≠ 363 → mb e = m1 e := fun e h => by rw [emb, wr_o _ _ _ _ h, wr_o _ _ _ _ h]
    have b1 : ∀ e, e ≠ 363 → e ≠ 376 → e ≠ 378 → m2 e = m1 e := by
      intro e h1 h2 h3
      rw [em2, wr_o _ _ _ _ h1, u2 e h1 h2 h3, b0 e h1]
    have b390 : mb 390 = m 390 := by rw [b0 390 (by decide), a1 390 (by decide) (by omega)]
    have b2 : (∀ j, j < 48 → m2 376 j = m 390 (817 * i + j)) ∧ (∀ j, j < 768 → m2 378 j = m 390 (817 * i + 48 + j)) := by
      rw [em2]
      exact ⟨fun j hj => by rw [wr_o _ _ _ _ (by decide), u4 j hj, b390], fun j hj => by rw [wr_o _ _ _ _ (by decide), u5 j hj, b390]⟩
    have b3 : ∀ j, j ≠ 0 → j ≠ 52 → j ≠ 29 → j ≠ 30 → m2 363 j = m 363 j := by
      intro j h1 h2 h3 h4
      rw [em2, wr_b _ _ _ _ h4, u3 j h3, emb, wr_b _ _ _ _ h2, wr_b _ _ _ _ h1, e363]
    have b4 : m2 363 0 = 0 ∧ m2 363 52 = i ∧ m2 363 30 = 0 ∧ m2 363 29 = k' := by
      rw [em2]
      exact ⟨by rw [wr_b _ _ _ _ (by decide), u3 0 (by decide), emb, wr_b _ _ _ _ (by decide), wr_s], by rw [wr_b _ _ _ _ (by decide), e852], wr_s _ _ _ _, by rw [wr_b _ _ _ _ (by decide), u6, b390]; exact iN⟩
    clear em2 u1 emb b0
    have c : ∀ e, e ≠ 100 → e ≠ 363 → e ≠ 376 → e ≠ 378 → (e < 107 ∨ 159 < e) → m2 e = m e := fun e h1 h2 h3 h4 h5 => (b1 e h2 h3 h4).trans (a1 e h1 h5)
    have c100 : m2 100 = m1 100 := b1 100 (by decide) (by decide) (by decide)
    refine ⟨i, m1, q, m2, hC, hX, b4.1, RR_gK (n := n0) (r := r0) (k := k') (e := i) (z := z) hR (fun e h1 h2 h3 h4 h5 h6 h7 h8 => c e h1 h3 h6 h7 (by omega)) ⟨by rw [c100, a2.2.2 16 (by decide) (by decide)], by rw [c100, a2.2.2 17 (by decide) (by decide)]⟩ ⟨b3 24 (by decide) (by decide) (by decide) (by decide), b3 42 (by decide) (by decide) (by decide) (by decide)⟩ (fun _ _ _ => rfl) ⟨⟨?_, ?_⟩, ⟨t3, ?_, ?_⟩, ?_⟩ ⟨⟨(b3 15 (by decide) (by decide) (by decide) (by decide)).trans k1, (b3 16 (by decide) (by decide) (by decide) (by decide)).trans k2⟩, ?_, b4.2.2.2, by rw [c100, a2.2.1, b4.2.2.1], by omega, by rw [c100]; exact a2.1, b4.2.1, fun l hl => ?_⟩ ?_⟩
    · rw [c 102 (by omega) (by omega) (by omega) (by omega) (by omega), c 365 (by omega) (by omega) (by omega) (by omega) (by omega)]
      exact t1
    · rw [c 365 (by omega) (by omega) (by omega) (by omega) (by omega)]
      exact t2
    · rw [c 101 (by omega) (by omega) (by omega) (by omega) (by omega)]
      exact t4
    · rw [b3 2 (by decide) (by decide) (by decide) (by decide)]
      exact t5
    · rw [c 101 (by omega) (by omega) (by omega) (by omega) (by omega), b3 8 (by decide) (by decide) (by decide) (by decide)]
      exact t6
    · exact kpR_q (m := m9) (fun e h1 h2 => by rw [b1 e (by omega) (by omega) (by omega), a3 e (by omega)]) rfl rfl (kpR_cp (p := 200 + 53 * i) v3 v4 v5 b2.1 b2.2 iK2)
    · obtain ⟨e9, e1, e2⟩ := kI l (by omega)
      rw [c 390 (by omega) (by omega) (by omega) (by omega) (by omega)]
      exact ⟨e9, kpR_q (fun e h1 h2 => c e (by omega) (by omega) (by omega) (by omega) (by omega)) rfl rfl e1, e2⟩
    · unfold gS fB at *
      rw [c (161 + 2) (by omega) (by omega) (by omega) (by omega) (by omega), c 161 (by omega) (by omega) (by omega) (by omega) (by omega)]
      exact hS
end S
