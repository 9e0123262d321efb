/-! ===== the calls image and restore, alike ===== -/
section S
variable {d n : Nat} {m : Nat → Nat → Int} {q : Nat → Nat → Option Nat} {w : Option (Nat → Int64)}
theorem V_269a (hd : 4 ≤ d) {i : Nat} (hi : i < 3) : ∃ m', ev d 269 [.ref 363, .int (iI (i : Int)), .int (iI 1)] (mk m q w) = vV (mk m' q w) ∧ (∀ e, e ≠ 390 → m' e = m e) ∧ (∀ j, j < 817 * i → m' 390 j = m 390 j) ∧ (∀ j, j < 48 → m' 390 (817 * i + j) = m 376 j) ∧ (∀ j, j < 768 → m' 390 (817 * i + 48 + j) = m 378 j) ∧ m' 390 (817 * i + 816) = m 363 29 := by
  have c1 := fun (m : Nat → Nat → Int) => L_268a (q := q) (w := w) (d := d - 1 - 1) s_376 (by decide) (by decide) (show 48 ≤ 48 by decide) (show 817 * i + 48 ≤ 2451 by omega) 48 0 m rfl
  have c2 := fun (m : Nat → Nat → Int) => L_268a (q := q) (w := w) (d := d - 1 - 1) s_378 (by decide) (by decide) (show 768 ≤ 768 by decide) (show 817 * i + 48 + 768 ≤ 2451 by omega) 768 0 m rfl
  have d1 : ∀ m : Nat → Nat → Int, ev (d - 1) 268 [.ref 363, .int (iI (817 * (i : Int))), .ref 376, .int (iI 48), .int (iI 1)] (mk m q w) = vI ((817 * i + 48 : Nat) : Int) (mk (row m 390 (fun j => if 817 * i + 0 ≤ j ∧ j < 817 * i + 48 then m 376 (j - 817 * i) else m 390 j)) q w) := by
    intro m
    rw [e_268 (by omega) _ rfl rfl rfl rfl rfl, b_268_0 s_376 (by decide), show (817 * (i : Int)) = ((817 * i : Nat) : Int) by omega]
    exact c1 m
  have d2 : ∀ m : Nat → Nat → Int, ev (d - 1) 268 [.ref 363, .int (iI ((817 * i + 48 : Nat) : Int)), .ref 378, .int (iI 768), .int (iI 1)] (mk m q w) = vI ((817 * i + 48 + 768 : Nat) : Int) (mk (row m 390 (fun j => if 817 * i + 48 + 0 ≤ j ∧ j < 817 * i + 48 + 768 then m 378 (j - (817 * i + 48)) else m 390 j)) q w) := by
    intro m
    rw [e_268 (by omega) _ rfl rfl rfl rfl rfl, b_268_0 s_378 (by decide)]
    exact c2 m
  rw [e_269 (by omega) _ rfl rfl rfl, b_269_0, d1]
  simp only [rBd_v, Option.toList_some, Option.toList_none, List.cons_append, List.nil_append, List.append_nil, b_269_16]
  rw [d2]
  simp only [rBd_v, Option.toList_some, Option.toList_none, List.cons_append, List.nil_append, List.append_nil]
  rw [b_269_30, if_neg (by decide), b_269_35 (by omega) (by omega), b_269_58, Int.toNat_natCast]
  refine ⟨_, rfl, ?_, ?_, ?_, ?_, ?_⟩
  · intro e he
    rw [wr_o _ _ _ _ he, row_o _ _ _ he, row_o _ _ _ he]
  · intro j hj
    rw [wr_b _ _ _ _ (by omega), row_s, if_neg (by omega), row_s, if_neg (by omega)]
  · intro j hj
    rw [wr_b _ _ _ _ (by omega), row_s, if_neg (by omega), row_s, if_pos (by omega), show 817 * i + j - 817 * i = j by omega]
  · intro j hj
    rw [wr_b _ _ _ _ (by omega), row_s, if_pos (by omega), row_o _ _ _ (by decide), show 817 * i + 48 + j - (817 * i + 48) = j by omega]
  · rw [show 817 * i + 816 = 817 * i + 48 + 768 by omega, wr_s, row_o _ _ _ (by decide), row_o _ _ _ (by decide)]
theorem V_269b (hd : 4 ≤ d) {i : Nat} (hi : i < 3) : ∃ m', ev d 269 [.ref 363, .int (iI (i : Int)), .int (iI 0)] (mk m q w) = vV (mk m' q w) ∧ (∀ e, e ≠ 363 → e ≠ 376 → e ≠ 378 → m' e = m e) ∧ (∀ j, j ≠ 29 → m' 363 j = m 363 j) ∧ (∀ j, j < 48 → m' 376 j = m 390 (817 * i + j)) ∧ (∀ j, j < 768 → m' 378 j = m 390 (817 * i + 48 + j)) ∧ m' 363 29 = m 390 (817 * i + 816) := by
  have c1 := fun (m : Nat → Nat → Int) => L_268b (q := q) (w := w) (d := d - 1 - 1) s_376 (by decide) (by decide) (show 48 ≤ 48 by decide) (show 817 * i + 48 ≤ 2451 by omega) 48 0 m rfl
  have c2 := fun (m : Nat → Nat → Int) => L_268b (q := q) (w := w) (d := d - 1 - 1) s_378 (by decide) (by decide) (show 768 ≤ 768 by decide) (show 817 * i + 48 + 768 ≤ 2451 by omega) 768 0 m rfl
  have d1 : ∀ m : Nat → Nat → Int, ev (d - 1) 268 [.ref 363, .int (iI (817 * (i : Int))), .ref 376, .int (iI 48), .int (iI 0)] (mk m q w) = vI ((817 * i + 48 : Nat) : Int) (mk (row m 376 (fun j => if 0 ≤ j ∧ j < 48 then m 390 (817 * i + j) else m 376 j)) q w) := by
    intro m
    rw [e_268 (by omega) _ rfl rfl rfl rfl rfl, b_268_0 s_376 (by decide), show (817 * (i : Int)) = ((817 * i : Nat) : Int) by omega]
    exact c1 m
  have d2 : ∀ m : Nat → Nat → Int, ev (d - 1) 268 [.ref 363, .int (iI ((817 * i + 48 : Nat) : Int)), .ref 378, .int (iI 768), .int (iI 0)] (mk m q w) = vI ((817 * i + 48 + 768 : Nat) : Int) (mk (row m 378 (fun j => if 0 ≤ j ∧ j < 768 then m 390 (817 * i + 48 + j) else m 378 j)) q w) := by
    intro m
    rw [e_268 (by omega) _ rfl rfl rfl rfl rfl, b_268_0 s_378 (by decide)]
    exact c2 m
  rw [e_269 (by omega) _ rfl rfl rfl, b_269_0, d1]
  simp only [rBd_v, Option.toList_some, Option.toList_none, List.cons_append, List.nil_append, List.append_nil, b_269_16]
  rw [d2]
  simp only [rBd_v, Option.toList_some, Option.toList_none, List.cons_append, List.nil_append, List.append_nil]
  rw [b_269_30, if_pos rfl, b_269_48 (by omega) (by omega), b_269_58, Int.toNat_natCast]
  refine ⟨_, rfl, ?_, ?_, ?_, ?_, ?_⟩
  · intro e h1 h2 h3
    rw [wr_o _ _ _ _ h1, row_o _ _ _ h3, row_o _ _ _ h2]
  · intro j hj
    rw [wr_b _ _ _ _ hj, row_o _ _ _ (by decide), row_o _ _ _ (by decide)]
  · intro j hj
    rw [wr_o _ _ _ _ (by decide), row_o _ _ _ (by decide), row_s, if_pos (by omega)]
  · intro j hj
    rw [wr_o _ _ _ _ (by decide), row_s, if_pos (by omega), row_o _ _ _ (by decide)]
  · rw [wr_s, row_o _ _ _ (by decide), row_o _ _ _ (by decide), show 817 * i + 816 = 817 * i + 48 + 768 by omega]
end S
/-- a keep that has become another one -/
theorem kpR_cp {n r k x p : Nat} {m m' : Nat → Nat → Int} {G P G' P' : Nat → Int} (h1 : m' x 2 = k) (h2 : (∀ j, j < 9 → m' (x + 1) j = m (p + 1) j) ∧ (∀ j, j < 7 → m' (x + 2) j = m (p + 2) j) ∧ (∀ j, j < 28 → m' (x + 3) j = m (p + 3) j)) (h3 : ∀ l, l < k → (∀ j, j < 9 → m' (x + 5 + 3 * l) j = m (p + 5 + 3 * l) j) ∧ (∀ j, j < 7 → m' (x + 6 + 3 * l) j = m (p + 6 + 3 * l) j) ∧ (∀ j, j < 28 → m' (x + 7 + 3 * l) j = m (p + 7 + 3 * l) j)) (hG : ∀ j, j < 48 → G' j = G j) (hP : ∀ j, j < 768 → P' j = P j) (h : kpR n r m p G P k) : kpR n r m' x G' P' k := by
  obtain ⟨k1, -, k3, k4⟩ := h
  refine ⟨fnR_congr h2.1 h2.2.1 h2.2.2 hG k1, h1, k3, fun l hl => ?_⟩
  obtain ⟨v1, v2, v3⟩ := h3 l hl
  exact fnR_congr v1 v2 v3 (fun j hj => hP _ (by omega)) (k4 l hl)
section S
variable {d n : Nat} {m : Nat → Nat → Int} {q : Nat → Nat → Option Nat} {w : Option (Nat → Int64)}
theorem K_image : cOK 155 270 [] := by
  intro m q w hR d hd
  obtain ⟨⟨z, ⟨t1, t2⟩, ⟨t3, t4, t5⟩, t6⟩, ⟨n0, r0, k, h0, ⟨k1, k2⟩, kK, k29, k30, kh, k14, k52, kI⟩, -, -, -, -, hS⟩ := id hR
  by_cases h3 : h0 < 3
  · have hx := keep_im h3
    obtain ⟨m9, v1, v2, v3, v4, v5⟩ := T_60 (q := q) (w := w) (m := m) (d := d - 1) (by omega) hx k107 (by omega) kK.2.2.1 kK.2.1
    obtain ⟨m1, em1⟩ : ∃ m1, m1 = wr m9 100 14 ((h0 + 1 : Nat) : Int) := ⟨_, rfl⟩
    have e14 : m9 100 14 = h0 := by rw [v2 100 (by omega)]; exact k14
    have hC : ev d 155 [.ref 100] (mk m q w) = vI ((h0 + 1 : Nat) : Int) (mk m1 q w) := by
      rw [e_155 (by omega) _ rfl, b_155_0, k14, if_pos (by rw [iI_lt (by omega) (by omega)]; omega), b_155_14 (by rw [k14]; omega) (by rw [k14]; omega), k14, Int.toNat_natCast]
      refine Eq.trans (b_155_23 hx) ?_
      rw [v1]
      simp only [rBd_v, Option.toList_some, Option.toList_none, List.cons_append, List.nil_append, List.append_nil]
      rw [b_155_30, e14, show (h0 : Int) + 1 = ((h0 + 1 : Nat) : Int) from rfl, ← em1, em1, wr_s]
    have a1 : ∀ e, e ≠ 100 → (e < 200 + 53 * h0 ∨ 200 + 53 * h0 + 52 < e) → m1 e = m e := by
      intro e h1 h2
      rw [em1, wr_o _ _ _ _ h1, v2 e h2]
    have a2 : m1 100 14 = ((h0 + 1 : Nat) : Int) ∧ ∀ j, j ≠ 14 → m1 100 j = m 100 j := by
      rw [em1]
      exact ⟨wr_s _ _ _ _, fun j hj => by rw [wr_b _ _ _ _ hj, v2 100 (by omega)]⟩
    have a3 : ∀ e, e ≠ 100 → m1 e = m9 e := fun e h1 => by rw [em1, wr_o _ _ _ _ h1]
    clear em1 v1 v2
    have e363 := a1 363 (by decide) (by omega)
    obtain ⟨m8, u1, u2, u3, u4, u5, u6⟩ := V_269a (q := q) (w := w) (m := wr m1 363 0 0) (d := d - 1) (by omega) h3
    have e52 : wr m1 363 0 0 363 52 = h0 := by
      rw [wr_b _ _ _ _ (by decide), e363]
      exact k52
    have e852 : m8 363 52 = h0 := by rw [u2 363 (by decide)]; exact e52
    obtain ⟨m2, em2⟩ : ∃ m2, m2 = wr m8 363 52 ((h0 + 1 : Nat) : Int) := ⟨_, rfl⟩
    have hX : ev d 270 [.ref 363] (mk m1 q w) = vI ((h0 + 1 : Nat) : Int) (mk m2 q w) := by
      rw [e_270 (by omega) _ rfl, b_270_0, e52, if_neg (by rw [iI_eq (by omega) (by omega)]; omega), u1]
      simp only [rBd_v, Option.toList_some, Option.toList_none, List.cons_append, List.nil_append, List.append_nil]
      rw [b_270_24, e852, show (h0 : Int) + 1 = ((h0 + 1 : Nat) : Int) from rfl, ← em2, em2, wr_s]
    have b1 : ∀ e, e ≠ 363 → e ≠ 390 → m2 e = m1 e := by
      intro e h1 h2
      rw [em2, wr_o _ _ _ _ h1, u2 e h2, wr_o _ _ _ _ h1]
    have b2 : m2 390 = m8 390 := by rw [em2, wr_o _ _ _ _ (by decide)]
    have b3 : ∀ j, j ≠ 0 → j ≠ 52 → m2 363 j = m 363 j := by
      intro j h1 h2
      rw [em2, wr_b _ _ _ _ h2, u2 363 (by decide), wr_b _ _ _ _ h1, e363]
    have b4 : m2 363 0 = 0 ∧ m2 363 52 = ((h0 + 1 : Nat) : Int) := by
      rw [em2]
      exact ⟨by rw [wr_b _ _ _ _ (by decide), u2 363 (by decide), wr_s], wr_s _ _ _ _⟩
    clear em2 u1
    have c : ∀ e, e ≠ 100 → e ≠ 363 → e ≠ 390 → (e < 200 + 53 * h0 ∨ 200 + 53 * h0 + 52 < e) → m2 e = m e := fun e h1 h2 h3 h4 => (b1 e h2 h3).trans (a1 e h1 h4)
    have c100 : m2 100 = m1 100 := b1 100 (by decide) (by decide)
    refine ⟨((h0 + 1 : Nat) : Int), m1, q, m2, hC, hX, b4.1, RR_gK (n := n0) (r := r0) (k := k) (e := h0 + 1) (z := z) hR (fun e h1 h2 h3 h4 h5 h6 h7 h8 => c e h1 h3 h8 (by omega)) ⟨by rw [c100, a2.2 16 (by decide)], by rw [c100, a2.2 17 (by decide)]⟩ ⟨b3 24 (by decide) (by decide), b3 42 (by decide) (by decide)⟩ (fun _ _ _ => rfl) ⟨⟨?_, ?_⟩, ⟨t3, ?_, ?_⟩, ?_⟩ ⟨⟨(b3 15 (by decide) (by decide)).trans k1, (b3 16 (by decide) (by decide)).trans k2⟩, ?_, (b3 29 (by decide) (by decide)).trans k29, by rw [c100, a2.2 15 (by decide), b3 30 (by decide) (by decide)]; exact k30, by omega, by rw [c100]; exact a2.1, b4.2, fun i hi => ?_⟩ ?_⟩
    · rw [c 102 (by omega) (by omega) (by omega) (by omega), c 365 (by omega) (by omega) (by omega) (by omega)]
      exact t1
    · rw [c 365 (by omega) (by omega) (by omega) (by omega)]
      exact t2
    · rw [c 101 (by omega) (by omega) (by omega) (by omega)]
      exact t4
    · rw [b3 2 (by decide) (by decide)]
      exact t5
    · rw [c 101 (by omega) (by omega) (by omega) (by omega), b3 8 (by decide) (by decide)]
      exact t6
    · exact kpR_q (fun e h1 h2 => c e (by omega) (by omega) (by omega) (by omega)) (c 376 (by omega) (by omega) (by omega) (by omega)) (c 378 (by omega) (by omega) (by omega) (by omega)) kK
    · by_cases hil : i = h0
      · subst hil
        refine ⟨k, kpR_q (m := m9) (fun e h1 h2 => by rw [b1 e (by omega) (by omega), a3 e (by omega)]) rfl rfl (kpR_cp (G := m 376) (P := m 378) v3 v4 v5 (fun j hj => ?_) (fun j hj => ?_) kK), ?_⟩
        · show m2 390 (817 * i + j) = m 376 j
          rw [b2, u4 j hj, wr_o _ _ _ _ (by decide), a1 376 (by decide) (by omega)]
        · show m2 390 (817 * i + 48 + j) = m 378 j
          rw [b2, u5 j hj, wr_o _ _ _ _ (by decide), a1 378 (by decide) (by omega)]
        · rw [b2, u6, wr_b _ _ _ _ (by decide), e363]
          exact k29
      · obtain ⟨e9, e1, e2⟩ := kI i (by omega)
        have e390 : ∀ j, j < 817 * h0 → m2 390 j = m 390 j := by
          intro j hj
          rw [b2, u3 j hj, wr_o _ _ _ _ (by decide), a1 390 (by decide) (by omega)]
        obtain ⟨x1, x2, x3, x4⟩ := e1
        have hc : ∀ e, 200 + 53 * i ≤ e → e ≤ 200 + 53 * i + 52 → m2 e = m e := fun e h1 h2 => c e (by omega) (by omega) (by omega) (by omega)
        refine ⟨e9, ⟨?_, by rw [hc _ (by omega) (by omega)]; exact x2, x3, fun l hl => ?_⟩, by rw [e390 _ (by omega)]; exact e2⟩
        · rw [hc _ (by omega) (by omega), hc _ (by omega) (by omega), hc _ (by omega) (by omega)]
          exact fnR_congr (fun _ _ => rfl) (fun _ _ => rfl) (fun _ _ => rfl) (fun j hj => e390 _ (by omega)) x1
        · rw [hc (200 + 53 * i + 5 + 3 * l) (by omega) (by omega), hc (200 + 53 * i + 6 + 3 * l) (by omega) (by omega), hc (200 + 53 * i + 7 + 3 * l) (by omega) (by omega)]
          exact fnR_congr (fun _ _ => rfl) (fun _ _ => rfl) (fun _ _ => rfl) (fun j hj => e390 _ (by omega)) (x4 l hl)
    · unfold gS fB at *
      rw [c (161 + 2) (by omega) (by omega) (by omega) (by omega), c 161 (by omega) (by omega) (by omega) (by omega)]
      exact hS
  · obtain rfl : h0 = 3 := by omega
    refine ⟨-1, m, q, wr m 363 0 0, ?_, ?_, wr_s _ _ _ _, RR_0 hR⟩
    · rw [e_155 (by omega) _ rfl, b_155_0, k14, if_neg (by rw [iI_lt (by omega) (by omega)]; omega)]
    · rw [e_270 (by omega) _ rfl, b_270_0, wr_b _ _ _ _ (by decide), k52, if_pos (show iI ((3 : Nat) : Int) = iI 3 from rfl)]
end S
