/-! ===== the calls feed, fault, status, count, undo ===== -/
section Q
variable {m m1 : Nat → Nat → Int} {q : Nat → Nat → Option Nat}
theorem RR_T {z : Nat} (hR : RR m q) (h : ∀ a, a ≠ 101 → a ≠ 102 → a ≠ 363 → a ≠ 365 → m1 a = m a) (h3 : ∀ j, j ≠ 0 → j ≠ 2 → m1 363 j = m 363 j) (hT : gT m1 z) : RR m1 q := by
  obtain ⟨-, ⟨n, r, k, e, ⟨k1, k2⟩, k3, k4, k5, k6, k7, k8, k9⟩, ⟨y, y', l1, l2, l3, l4, l5, lz, l6, l7⟩, ⟨p0, p1, p2, p3, p4, p5, p6, p7, p8, p9, pa, pb, ⟨z0, pc⟩, ⟨z1, pd⟩⟩, ⟨b, b', b1, b2, b3, b4, b5, bz, b6, b7, b8, b9⟩, hC, hS⟩ := hR
  have hy := law_rng l3
  have hp0 := pic_three p6
  have hp1 := pic_three p7
  have hb := book_two b3
  have c : ∀ a, (a = 100 ∨ (107 ≤ a ∧ a ≤ 362) ∨ a = 364 ∨ 366 ≤ a) → m1 a = m a := fun a ha => h a (by omega) (by omega) (by omega) (by omega)
  refine ⟨⟨z, hT⟩, ⟨n, r, k, e, ⟨(h3 15 (by decide) (by decide)).trans k1, (h3 16 (by decide) (by decide)).trans k2⟩, ?_, (h3 29 (by decide) (by decide)).trans k4, by rw [c 100 (by omega), h3 30 (by decide) (by decide)]; exact k5, k6, by rw [c 100 (by omega)]; exact k7, (h3 52 (by decide) (by decide)).trans k8, fun i hi => ?_⟩, ⟨y, y', l1, l2, l3, l4, l5, lz, by rw [c y (by omega)]; exact l6, by rw [c (y + 1) (by omega), c 370 (by omega), c 371 (by omega), h3 24 (by decide) (by decide)]; exact l7⟩, ⟨p0, p1, p2, p3, p4, p5, p6, p7, p8, p9, pa, pb, ⟨z0, ?_⟩, ⟨z1, ?_⟩⟩, ⟨b, b', b1, b2, b3, b4, b5, bz, b6, by rw [c b (by omega)]; exact b7, by rw [h3 42 (by decide) (by decide)]; exact b8, by rw [c (b + 1) (by omega), c (b + 2) (by omega), c (b + 3) (by omega), c 383 (by omega)]; exact b9⟩, ?_, ?_⟩
  · exact kpR_q (fun a a1 a2 => c a (by omega)) (c 376 (by omega)) (c 378 (by omega)) k3
  · obtain ⟨e9, e1, e2⟩ := k9 i hi
    rw [c 390 (by omega)]
    exact ⟨e9, kpR_q (fun a a1 a2 => c a (by omega)) rfl rfl e1, e2⟩
  · unfold gP1 at *
    rw [c p0 (by omega), c (p0 + 1) (by omega), c 380 (by omega), c 381 (by omega)]
    exact pc
  · unfold gP1 at *
    rw [c p1 (by omega), c (p1 + 1) (by omega), c 380 (by omega), c 381 (by omega)]
    exact pd
  · unfold gC at *
    rw [c 100 (by omega), c 364 (by omega)]
    exact hC
  · unfold gS fB at *
    rw [c (161 + 2) (by omega), c 161 (by omega)]
    exact hS
theorem RR_0 (hR : RR m q) : RR (wr m 363 0 0) q := by
  obtain ⟨z, hT⟩ := hR.1
  refine RR_T (z := z) hR (fun a _ _ h _ => wr_o _ _ _ _ h) (fun j h _ => wr_b _ _ _ _ h) ?_
  unfold gT at *
  rw [wr_o _ _ _ _ (show 102 ≠ 363 by decide), wr_o _ _ _ _ (show 365 ≠ 363 by decide), wr_o _ _ _ _ (show 101 ≠ 363 by decide), wr_b _ _ _ _ (show 2 ≠ 0 by decide), wr_b _ _ _ _ (show 8 ≠ 0 by decide)]
  exact hT
theorem wr_self {x j : Nat} {v : Int} (h : m x j = v) : wr m x j v = m := by
  funext a b
  unfold wr row
  by_cases h1 : a = x
  · by_cases h2 : b = j
    · simp [h1, h2, h]
    · simp [h1, h2]
  · simp [h1]
end Q
section S
variable {d n : Nat} {m : Nat → Nat → Int} {q : Nat → Nat → Option Nat} {w : Option (Nat → Int64)}
theorem K_fault : cOK 122 180 [] := by
  intro m q w hR d hd
  obtain ⟨z, ⟨t1, t2⟩, ⟨t3, t4, t5⟩, t6⟩ := hR.1
  refine ⟨m 101 5, m, q, wr m 363 0 0, ?_, ?_, wr_s _ _ _ _, RR_0 hR⟩
  · rw [e_122 (by omega) _ rfl, b_122_0]
  · rw [e_180 (by omega) _ rfl, b_180_0, wr_b _ _ _ _ (by decide), t6]
theorem K_feed {a b c e f : Int} : cOK 115 166 [.int (iI a), .int (iI b), .int (iI c), .int (iI e), .int (iI f)] := by
  intro m q w hR d hd
  obtain ⟨z, ⟨t1, t2⟩, ⟨t3, t4, t5⟩, t6⟩ := hR.1
  have hc : cT m (m 102) z = m := by
    unfold cT
    rw [row_self, wr_self t4]
  have hT := T_115 (m := m) (T := m 102) (z := z) (q := q) (w := w) (d := d) (by omega) (a := a) (b := b) (c := c) (e := e) (f := f) t3
  rw [hc] at hT
  by_cases h : z ≤ 580
  · rw [if_pos h] at hT
    obtain ⟨m1, em1⟩ : ∃ m1, m1 = cT m (pt20 (m 102) z a b c e f) (z + 20) := ⟨_, rfl⟩
    rw [← em1] at hT
    have a1 : ∀ x, x ≠ 101 → x ≠ 102 → m1 x = m x := by
      intro x h1 h2
      rw [em1]
      unfold cT
      rw [wr_o _ _ _ _ h1, row_o _ _ _ h2]
    have a2 : m1 101 1 = ((z + 20 : Nat) : Int) ∧ m1 101 5 = m 101 5 ∧ m1 102 = pt20 (m 102) z a b c e f := by
      rw [em1]
      unfold cT
      refine ⟨wr_s _ _ _ _, ?_, ?_⟩
      · rw [wr_b _ _ _ _ (by decide), row_o _ _ _ (by decide)]
      · rw [wr_o _ _ _ _ (by decide), row_s]
    clear em1
    have hx : xT m1 (m1 365) z = m1 := by
      unfold xT
      rw [row_self, wr_self (by rw [a1 363 (by decide) (by decide)]; exact t5)]
    have hV := V_166 (m := m1) (T := m1 365) (z := z) (q := q) (w := w) (d := d) (by omega) (a := a) (b := b) (c := c) (e := e) (f := f) t3
    rw [hx, if_pos h] at hV
    have e365 : m1 365 = m 102 := by rw [a1 365 (by decide) (by decide), t1]
    refine ⟨_, m1, q, _, hT, hV, ?_, RR_T (z := z + 20) hR (fun x h1 h2 h3 h4 => ?_) (fun j h1 h2 => ?_) ⟨⟨?_, ?_⟩, ⟨by omega, ?_, xT_2⟩, ?_⟩⟩
    · unfold xT
      rw [wr_b _ _ _ _ (by decide), row_o _ _ _ (by decide), wr_s]
    · unfold xT
      rw [wr_o _ _ _ _ h3, row_o _ _ _ h4, wr_o _ _ _ _ h3, a1 x h1 h2]
    · unfold xT
      rw [wr_b _ _ _ _ h2, row_o _ _ _ (by decide), wr_b _ _ _ _ h1, a1 363 (by decide) (by decide)]
    · unfold xT
      rw [wr_o _ _ _ _ (by decide), row_o _ _ _ (by decide), wr_o _ _ _ _ (by decide), wr_o _ _ _ _ (by decide), row_s, a2.2.2, e365]
    · unfold xT
      rw [wr_o _ _ _ _ (by decide), row_s]
      exact pt20_T (by rw [e365, t1]; exact t2)
    · unfold xT
      rw [wr_o _ _ _ _ (by decide), row_o _ _ _ (by decide), wr_o _ _ _ _ (by decide)]
      exact a2.1
    · unfold xT
      rw [wr_o _ _ _ _ (by decide), row_o _ _ _ (by decide), wr_o _ _ _ _ (by decide), a2.2.1, wr_b _ _ _ _ (by decide), row_o _ _ _ (by decide), wr_b _ _ _ _ (by decide), a1 363 (by decide) (by decide), t6]
  · rw [if_neg h] at hT
    have hx : xT m (m 365) z = m := by
      unfold xT
      rw [row_self, wr_self t5]
    have hx0 : xT (wr m 363 0 0) (m 365) z = wr m 363 0 0 := by
      unfold xT
      rw [show row (wr m 363 0 0) 365 (m 365) = wr m 363 0 0 from by rw [← wr_o m 363 0 0 (show 365 ≠ 363 by decide), row_self], wr_self (by rw [wr_b _ _ _ _ (by decide)]; exact t5)]
    have hV := V_166 (m := m) (T := m 365) (z := z) (q := q) (w := w) (d := d) (by omega) (a := a) (b := b) (c := c) (e := e) (f := f) t3
    rw [hx, if_neg h, hx0] at hV
    exact ⟨-1, m, q, _, hT, hV, wr_s _ _ _ _, RR_0 hR⟩
theorem K_status {a : Int} (ha : i32 a) : cOK 157 272 [.int (iI a)] := by
  intro m q w hR d hd
  have hC : gC m := hR.2.2.2.2.2.1
  have hC2 : ev d 157 [.ref 100, .int (iI a)] (mk m q w) = vI (if a = 0 then m 100 16 else if a = 1 then m 100 17 else -1) (mk m q w) := by
    rw [e_157 (by omega) _ rfl rfl, b_157_0]
    simp only [iI_eq ha (by omega : i32 0), iI_eq ha (by omega : i32 1), b_157_24]
    by_cases h0 : a = 0
    · rw [if_pos h0, if_pos h0]
    · rw [if_neg h0, if_neg h0]
      by_cases h1 : a = 1
      · rw [if_pos h1, if_pos h1]
      · rw [if_neg h1, if_neg h1]
  refine ⟨_, m, q, wr m 363 0 0, hC2, ?_, wr_s _ _ _ _, RR_0 hR⟩
  rw [e_272 (by omega) _ rfl rfl, b_272_0, V_161 (by omega) ha (by omega) (by omega)]
  simp only [rBd_v, Option.toList_some, Option.toList_none, List.cons_append, List.nil_append, List.append_nil]
  rw [b_272_11]
  simp only [zb_0]
  by_cases h : 0 ≤ a ∧ a ≤ 1
  · rw [if_neg (not_not_intro h), b_272_14 (by omega) (by omega), b_272_24, wr_o _ _ _ _ (by decide)]
    rcases (show a = 0 ∨ a = 1 by omega) with rfl | rfl
    · rw [if_pos rfl, hC.1]
      rfl
    · rw [if_neg (by decide), if_pos rfl, hC.2]
      rfl
  · rw [if_pos h, b_272_24, if_neg (by omega), if_neg (by omega)]
theorem K_count {a : Int} (ha : i32 a) : cOK 158 273 [.int (iI a)] := by
  intro m q w hR d hd
  obtain ⟨⟨z, -, ⟨t3, t4, t5⟩, -⟩, ⟨n0, r0, k, h0, -, ⟨-, k7, -, -⟩, k29, -, -, k14, k52, -⟩, -⟩ := id hR
  have hC2 : ev d 158 [.ref 100, .int (iI a)] (mk m q w) = vI (if a = 0 then m 100 14 else if a = 1 then m 101 1 else if a = 2 then m 107 2 else -1) (mk m q w) := by
    rw [e_158 (by omega) _ rfl rfl, b_158_0]
    by_cases h0 : a = 0
    · subst h0
      rw [b_158_1_0, b_158_28]
      rfl
    · rw [if_neg h0]
      by_cases h1 : a = 1
      · subst h1
        rw [b_158_1_1, b_158_33]
        rfl
      · rw [if_neg h1]
        by_cases h2 : a = 2
        · subst h2
          rw [b_158_1_2, b_158_41]
          rfl
        · rw [if_neg h2, b_158_1_d ha (by omega), b_158_49]
  refine ⟨_, m, q, wr m 363 0 0, hC2, ?_, wr_s _ _ _ _, RR_0 hR⟩
  rw [e_273 (by omega) _ rfl rfl, b_273_0]
  simp only [iI_eq ha (by omega : i32 0), iI_eq ha (by omega : i32 1), iI_eq ha (by omega : i32 2), b_273_41, wr_b m 363 0 _ (show 52 ≠ 0 by decide), wr_b m 363 0 _ (show 2 ≠ 0 by decide), wr_b m 363 0 _ (show 29 ≠ 0 by decide)]
  rw [k52, t5, k29, k14, t4, k7]
  by_cases h0 : a = 0
  · rw [if_pos h0, if_pos h0]
  · rw [if_neg h0, if_neg h0]
    by_cases h1 : a = 1
    · rw [if_pos h1, if_pos h1]
    · rw [if_neg h1, if_neg h1]
      by_cases h2 : a = 2
      · rw [if_pos h2, if_pos h2]
      · rw [if_neg h2, if_neg h2]
end S
