/-! ===== the law's cases ===== -/
section G
variable {d n : Nat} {xs : Nat → Int} {G : lG} {K N : Nat} {i : Int} {u5 u6 : Option Value} {m : Nat → Nat → Int} {q : Nat → Nat → Option Nat} {w : Nat → Int64}
theorem cs_0 (hG : lCl d n xs G) (hd : 201 ≤ d) (hxs : ∀ j, i32 (xs j)) (hi : 0 ≤ i ∧ i + 8 ≤ n) (hR : RR m q) (hnext : ∀ (m' : Nat → Nat → Int) (q' : Nat → Nat → Option Nat) (w' : Nat → Int64) (v5 v6 : Option Value), RR m' q' → G 2315 (lLp i v5 v6) [] (mk m' q' (some w')) K N) : G 204 (lLp i u5 u6) [] (mk m q (some w)) (K + 1) (N + 6) := by
  obtain ⟨v, m1, q1, m2, h1, h2, h3, h4⟩ := (K_feed (a := xs (i + 1).toNat) (b := xs (i + 2).toNat) (c := xs (i + 3).toNat) (e := xs (i + 4).toNat) (f := xs (i + 5).toNat)) m q (some w) hR d (by omega)
  refine hG.2.2.2 _ _ _ _ K N _ _ (by omega) (by omega) ?_
  refine l_a1 hG (z_1 rfl) ?_
  refine l_ar hG (z_1 rfl) (z_1 rfl) (z_1 rfl) (z_1 rfl) (z_1 rfl) (by omega) ?_
  refine l_ar hG (z_1 rfl) (z_1 rfl) (z_1 rfl) (z_1 rfl) (z_1 rfl) (by omega) ?_
  refine l_ar hG (z_1 rfl) (z_1 rfl) (z_1 rfl) (z_1 rfl) (z_1 rfl) (by omega) ?_
  refine l_ar hG (z_1 rfl) (z_1 rfl) (z_1 rfl) (z_1 rfl) (z_1 rfl) (by omega) ?_
  refine l_ar hG (z_1 rfl) (z_1 rfl) (z_1 rfl) (z_1 rfl) (z_1 rfl) (by omega) ?_
  refine l_call (dk := 0) (dn := 0) hG (z_1 rfl) rfl (by decide) q_115 (rArg_v (As := [.int (iI (xs (i + 1).toNat)), .int (iI (xs (i + 2).toNat)), .int (iI (xs (i + 3).toNat)), .int (iI (xs (i + 4).toNat)), .int (iI (xs (i + 5).toNat))]) (rest := []) rfl rfl (by decide) s_100 rfl) h1 ?_
  refine l_a2 hG (z_1 rfl) ?_
  refine l_ar hG (z_1 rfl) (z_1 rfl) (z_1 rfl) (z_1 rfl) (z_1 rfl) (by omega) ?_
  refine l_ar hG (z_1 rfl) (z_1 rfl) (z_1 rfl) (z_1 rfl) (z_1 rfl) (by omega) ?_
  refine l_ar hG (z_1 rfl) (z_1 rfl) (z_1 rfl) (z_1 rfl) (z_1 rfl) (by omega) ?_
  refine l_ar hG (z_1 rfl) (z_1 rfl) (z_1 rfl) (z_1 rfl) (z_1 rfl) (by omega) ?_
  refine l_ar hG (z_1 rfl) (z_1 rfl) (z_1 rfl) (z_1 rfl) (z_1 rfl) (by omega) ?_
  refine l_call (dk := 0) (dn := 0) hG (z_1 rfl) rfl (by decide) q_166 (rArg_v (As := [.int (iI (xs (i + 1).toNat)), .int (iI (xs (i + 2).toNat)), .int (iI (xs (i + 3).toNat)), .int (iI (xs (i + 4).toNat)), .int (iI (xs (i + 5).toNat))]) (rest := [.int (iI v)]) rfl rfl (by show 1 ≤ 8; decide) s_363 rfl) h2 ?_
  refine l_eqt hG (z_1 rfl) rfl rfl ?_
  exact hnext _ _ _ _ _ h4
theorem cs_1 (hG : lCl d n xs G) (hd : 201 ≤ d) (hxs : ∀ j, i32 (xs j)) (hi : 0 ≤ i ∧ i + 8 ≤ n) (hR : RR m q) (hnext : ∀ (m' : Nat → Nat → Int) (q' : Nat → Nat → Option Nat) (w' : Nat → Int64) (v5 v6 : Option Value), RR m' q' → G 2315 (lLp i v5 v6) [] (mk m' q' (some w')) K N) : G 277 (lLp i u5 u6) [] (mk m q (some w)) (K + 1) (N + 6) := by
  obtain ⟨k, v, m1, q1, w1, m2, dk, dn, k2, d1, d2, h1, h2, h3, h4, h5⟩ := P_274 (hxs (i + 1).toNat) m q w hR d hd
  refine hG.2.2.2 _ _ _ _ (K + dk) (N + dn) _ _ (by omega) (by omega) ?_
  refine l_a1 hG (z_2 rfl) ?_
  refine l_ar hG (z_2 rfl) (z_2 rfl) (z_2 rfl) (z_2 rfl) (z_2 rfl) (by omega) ?_
  refine l_a3 hG (z_2 rfl) ?_
  refine l_call hG (z_2 rfl) rfl (by decide) q_274 (rArg_s (As := [.ref 100, .int (iI (xs (i + 1).toNat)), .ref 391]) (rest := []) (by decide) rfl rfl (by decide)) h1 ?_
  refine l_s5 hG (z_2 rfl) ?_
  refine l_a2 hG (z_2 rfl) ?_
  refine l_ar hG (z_2 rfl) (z_2 rfl) (z_2 rfl) (z_2 rfl) (z_2 rfl) (by omega) ?_
  refine l_call (dk := 0) (dn := 0) hG (z_2 rfl) rfl (by decide) q_183 (rArg_v (As := [.int (iI (xs (i + 1).toNat))]) (rest := []) rfl rfl (by decide) s_363 rfl) h2 ?_
  refine l_s6 hG (z_2 rfl) ?_
  refine l_a2 hG (z_2 rfl) ?_
  refine l_call (dk := 0) (dn := 0) hG (z_2 rfl) rfl (by decide) q_159 (rArg_v (As := []) (rest := []) rfl rfl (by decide) s_363 rfl) (thr_159 (by omega)) ?_
  refine l_i5 hG (z_2 rfl) ?_
  refine l_eqt hG (z_2 rfl) rfl h3 ?_
  refine l_i5 hG (z_2 rfl) ?_
  by_cases hk : k = 0
  · have hw := h5 hk
    subst hk
    refine l_nz_f hG (z_2 rfl) rfl ?_
    refine l_a3 hG (z_2 rfl) ?_
    refine l_con hG (z_2 rfl) ?_
    refine l_lald hG (z_2 rfl) ?_
    refine l_i6 hG (z_2 rfl) ?_
    refine l_i2l hG (z_2 rfl) ?_
    rw [hw]
    refine l_lcm (x := (iI v).toInt64) hG (z_2 rfl) ?_
    refine l_z_t hG (z_2 rfl) rfl rfl ?_
    refine l_go hG (z_2 rfl) rfl ?_
    exact hnext _ _ _ _ _ h4
  · refine l_nz_t hG (z_2 rfl) rfl (fun e => hk (by rw [iI_eq (by omega) (by omega)] at e; omega)) ?_
    refine l_go hG (z_2 rfl) rfl ?_
    exact hnext _ _ _ _ _ h4
theorem cs_2 (hG : lCl d n xs G) (hd : 201 ≤ d) (hxs : ∀ j, i32 (xs j)) (hi : 0 ≤ i ∧ i + 8 ≤ n) (hR : RR m q) (hnext : ∀ (m' : Nat → Nat → Int) (q' : Nat → Nat → Option Nat) (w' : Nat → Int64) (v5 v6 : Option Value), RR m' q' → G 2315 (lLp i v5 v6) [] (mk m' q' (some w')) K N) : G 333 (lLp i u5 u6) [] (mk m q (some w)) (K + 1) (N + 6) := by
  obtain ⟨k, v, m1, q1, w1, m2, dk, dn, k2, d1, d2, h1, h2, h3, h4, h5⟩ := P_275 (hxs (i + 1).toNat) m q w hR d hd
  refine hG.2.2.2 _ _ _ _ (K + dk) (N + dn) _ _ (by omega) (by omega) ?_
  refine l_a1 hG (z_3 rfl) ?_
  refine l_ar hG (z_3 rfl) (z_3 rfl) (z_3 rfl) (z_3 rfl) (z_3 rfl) (by omega) ?_
  refine l_a3 hG (z_3 rfl) ?_
  refine l_call hG (z_3 rfl) rfl (by decide) q_275 (rArg_s (As := [.ref 100, .int (iI (xs (i + 1).toNat)), .ref 391]) (rest := []) (by decide) rfl rfl (by decide)) h1 ?_
  refine l_s5 hG (z_3 rfl) ?_
  refine l_a2 hG (z_3 rfl) ?_
  refine l_ar hG (z_3 rfl) (z_3 rfl) (z_3 rfl) (z_3 rfl) (z_3 rfl) (by omega) ?_
  refine l_call (dk := 0) (dn := 0) hG (z_3 rfl) rfl (by decide) q_191 (rArg_v (As := [.int (iI (xs (i + 1).toNat))]) (rest := []) rfl rfl (by decide) s_363 rfl) h2 ?_
  refine l_s6 hG (z_3 rfl) ?_
  refine l_a2 hG (z_3 rfl) ?_
  refine l_call (dk := 0) (dn := 0) hG (z_3 rfl) rfl (by decide) q_159 (rArg_v (As := []) (rest := []) rfl rfl (by decide) s_363 rfl) (thr_159 (by omega)) ?_
  refine l_i5 hG (z_3 rfl) ?_
  refine l_eqt hG (z_3 rfl) rfl h3 ?_
  refine l_i5 hG (z_3 rfl) ?_
  by_cases hk : k = 0
  · have hw := h5 hk
    subst hk
    refine l_nz_f hG (z_3 rfl) rfl ?_
    refine l_a3 hG (z_3 rfl) ?_
    refine l_con hG (z_3 rfl) ?_
    refine l_lald hG (z_3 rfl) ?_
    refine l_i6 hG (z_3 rfl) ?_
    refine l_i2l hG (z_3 rfl) ?_
    rw [hw]
    refine l_lcm (x := (iI v).toInt64) hG (z_3 rfl) ?_
    refine l_z_t hG (z_3 rfl) rfl rfl ?_
    refine l_go hG (z_3 rfl) rfl ?_
    exact hnext _ _ _ _ _ h4
  · refine l_nz_t hG (z_3 rfl) rfl (fun e => hk (by rw [iI_eq (by omega) (by omega)] at e; omega)) ?_
    refine l_go hG (z_3 rfl) rfl ?_
    exact hnext _ _ _ _ _ h4
theorem cs_3 (hG : lCl d n xs G) (hd : 201 ≤ d) (hxs : ∀ j, i32 (xs j)) (hi : 0 ≤ i ∧ i + 8 ≤ n) (hR : RR m q) (hnext : ∀ (m' : Nat → Nat → Int) (q' : Nat → Nat → Option Nat) (w' : Nat → Int64) (v5 v6 : Option Value), RR m' q' → G 2315 (lLp i v5 v6) [] (mk m' q' (some w')) K N) : G 389 (lLp i u5 u6) [] (mk m q (some w)) (K + 1) (N + 6) := by
  obtain ⟨k, v, m1, q1, w1, m2, dk, dn, k2, d1, d2, h1, h2, h3, h4, h5⟩ := P_276 (hxs (i + 1).toNat) m q w hR d hd
  refine hG.2.2.2 _ _ _ _ (K + dk) (N + dn) _ _ (by omega) (by omega) ?_
  refine l_a1 hG (z_4 rfl) ?_
  refine l_ar hG (z_4 rfl) (z_4 rfl) (z_4 rfl) (z_4 rfl) (z_4 rfl) (by omega) ?_
  refine l_a3 hG (z_4 rfl) ?_
  refine l_call hG (z_4 rfl) rfl (by decide) q_276 (rArg_s (As := [.ref 100, .int (iI (xs (i + 1).toNat)), .ref 391]) (rest := []) (by decide) rfl rfl (by decide)) h1 ?_
  refine l_s5 hG (z_4 rfl) ?_
  refine l_a2 hG (z_4 rfl) ?_
  refine l_ar hG (z_4 rfl) (z_4 rfl) (z_4 rfl) (z_4 rfl) (z_4 rfl) (by omega) ?_
  refine l_call (dk := 0) (dn := 0) hG (z_4 rfl) rfl (by decide) q_215 (rArg_v (As := [.int (iI (xs (i + 1).toNat))]) (rest := []) rfl rfl (by decide) s_363 rfl) h2 ?_
  refine l_s6 hG (z_4 rfl) ?_
  refine l_a2 hG (z_4 rfl) ?_
  refine l_call (dk := 0) (dn := 0) hG (z_4 rfl) rfl (by decide) q_159 (rArg_v (As := []) (rest := []) rfl rfl (by decide) s_363 rfl) (thr_159 (by omega)) ?_
  refine l_i5 hG (z_4 rfl) ?_
  refine l_eqt hG (z_4 rfl) rfl h3 ?_
  refine l_i5 hG (z_4 rfl) ?_
  by_cases hk : k = 0
  · have hw := h5 hk
    subst hk
    refine l_nz_f hG (z_4 rfl) rfl ?_
    refine l_a3 hG (z_4 rfl) ?_
    refine l_con hG (z_4 rfl) ?_
    refine l_lald hG (z_4 rfl) ?_
    refine l_i6 hG (z_4 rfl) ?_
    refine l_i2l hG (z_4 rfl) ?_
    rw [hw]
    refine l_lcm (x := (iI v).toInt64) hG (z_4 rfl) ?_
    refine l_z_t hG (z_4 rfl) rfl rfl ?_
    refine l_go hG (z_4 rfl) rfl ?_
    exact hnext _ _ _ _ _ h4
  · refine l_nz_t hG (z_4 rfl) rfl (fun e => hk (by rw [iI_eq (by omega) (by omega)] at e; omega)) ?_
    refine l_go hG (z_4 rfl) rfl ?_
    exact hnext _ _ _ _ _ h4
theorem cs_4 (hG : lCl d n xs G) (hd : 201 ≤ d) (hxs : ∀ j, i32 (xs j)) (hi : 0 ≤ i ∧ i + 8 ≤ n) (hR : RR m q) (hnext : ∀ (m' : Nat → Nat → Int) (q' : Nat → Nat → Option Nat) (w' : Nat → Int64) (v5 v6 : Option Value), RR m' q' → G 2315 (lLp i v5 v6) [] (mk m' q' (some w')) K N) : G 445 (lLp i u5 u6) [] (mk m q (some w)) (K + 1) (N + 6) := by
  obtain ⟨k, v, m1, q1, w1, m2, dk, dn, k2, d1, d2, h1, h2, h3, h4, h5⟩ := P_277 (hxs (i + 1).toNat) (hxs (i + 2).toNat) m q w hR d hd
  refine hG.2.2.2 _ _ _ _ (K + dk) (N + dn) _ _ (by omega) (by omega) ?_
  refine l_a1 hG (z_5 rfl) ?_
  refine l_ar hG (z_5 rfl) (z_5 rfl) (z_5 rfl) (z_5 rfl) (z_5 rfl) (by omega) ?_
  refine l_ar hG (z_5 rfl) (z_5 rfl) (z_5 rfl) (z_5 rfl) (z_5 rfl) (by omega) ?_
  refine l_a3 hG (z_5 rfl) ?_
  refine l_call hG (z_5 rfl) rfl (by decide) q_277 (rArg_s (As := [.ref 100, .int (iI (xs (i + 1).toNat)), .int (iI (xs (i + 2).toNat)), .ref 391]) (rest := []) (by decide) rfl rfl (by decide)) h1 ?_
  refine l_s5 hG (z_5 rfl) ?_
  refine l_a2 hG (z_5 rfl) ?_
  refine l_ar hG (z_5 rfl) (z_5 rfl) (z_5 rfl) (z_5 rfl) (z_5 rfl) (by omega) ?_
  refine l_ar hG (z_5 rfl) (z_5 rfl) (z_5 rfl) (z_5 rfl) (z_5 rfl) (by omega) ?_
  refine l_call (dk := 0) (dn := 0) hG (z_5 rfl) rfl (by decide) q_218 (rArg_v (As := [.int (iI (xs (i + 1).toNat)), .int (iI (xs (i + 2).toNat))]) (rest := []) rfl rfl (by decide) s_363 rfl) h2 ?_
  refine l_s6 hG (z_5 rfl) ?_
  refine l_a2 hG (z_5 rfl) ?_
  refine l_call (dk := 0) (dn := 0) hG (z_5 rfl) rfl (by decide) q_159 (rArg_v (As := []) (rest := []) rfl rfl (by decide) s_363 rfl) (thr_159 (by omega)) ?_
  refine l_i5 hG (z_5 rfl) ?_
  refine l_eqt hG (z_5 rfl) rfl h3 ?_
  refine l_i5 hG (z_5 rfl) ?_
  by_cases hk : k = 0
  · have hw := h5 hk
    subst hk
    refine l_nz_f hG (z_5 rfl) rfl ?_
    refine l_a3 hG (z_5 rfl) ?_
    refine l_con hG (z_5 rfl) ?_
    refine l_lald hG (z_5 rfl) ?_
    refine l_i6 hG (z_5 rfl) ?_
    refine l_i2l hG (z_5 rfl) ?_
    rw [hw]
    refine l_lcm (x := (iI v).toInt64) hG (z_5 rfl) ?_
    refine l_z_t hG (z_5 rfl) rfl rfl ?_
    refine l_go hG (z_5 rfl) rfl ?_
    exact hnext _ _ _ _ _ h4
  · refine l_nz_t hG (z_5 rfl) rfl (fun e => hk (by rw [iI_eq (by omega) (by omega)] at e; omega)) ?_
    refine l_go hG (z_5 rfl) rfl ?_
    exact hnext _ _ _ _ _ h4
theorem cs_5 (hG : lCl d n xs G) (hd : 201 ≤ d) (hxs : ∀ j, i32 (xs j)) (hi : 0 ≤ i ∧ i + 8 ≤ n) (hR : RR m q) (hnext : ∀ (m' : Nat → Nat → Int) (q' : Nat → Nat → Option Nat) (w' : Nat → Int64) (v5 v6 : Option Value), RR m' q' → G 2315 (lLp i v5 v6) [] (mk m' q' (some w')) K N) : G 513 (lLp i u5 u6) [] (mk m q (some w)) (K + 1) (N + 6) := by
  obtain ⟨k, v, m1, q1, w1, m2, dk, dn, k2, d1, d2, h1, h2, h3, h4, h5⟩ := P_278 (hxs (i + 1).toNat) m q w hR d hd
  refine hG.2.2.2 _ _ _ _ (K + dk) (N + dn) _ _ (by omega) (by omega) ?_
  refine l_a1 hG (z_6 rfl) ?_
  refine l_ar hG (z_6 rfl) (z_6 rfl) (z_6 rfl) (z_6 rfl) (z_6 rfl) (by omega) ?_
  refine l_a3 hG (z_6 rfl) ?_
  refine l_call hG (z_6 rfl) rfl (by decide) q_278 (rArg_s (As := [.ref 100, .int (iI (xs (i + 1).toNat)), .ref 391]) (rest := []) (by decide) rfl rfl (by decide)) h1 ?_
  refine l_s5 hG (z_6 rfl) ?_
  refine l_a2 hG (z_6 rfl) ?_
  refine l_ar hG (z_6 rfl) (z_6 rfl) (z_6 rfl) (z_6 rfl) (z_6 rfl) (by omega) ?_
  refine l_call (dk := 0) (dn := 0) hG (z_6 rfl) rfl (by decide) q_219 (rArg_v (As := [.int (iI (xs (i + 1).toNat))]) (rest := []) rfl rfl (by decide) s_363 rfl) h2 ?_
  refine l_s6 hG (z_6 rfl) ?_
  refine l_a2 hG (z_6 rfl) ?_
  refine l_call (dk := 0) (dn := 0) hG (z_6 rfl) rfl (by decide) q_159 (rArg_v (As := []) (rest := []) rfl rfl (by decide) s_363 rfl) (thr_159 (by omega)) ?_
  refine l_i5 hG (z_6 rfl) ?_
  refine l_eqt hG (z_6 rfl) rfl h3 ?_
  refine l_i5 hG (z_6 rfl) ?_
  by_cases hk : k = 0
  · have hw := h5 hk
    subst hk
    refine l_nz_f hG (z_6 rfl) rfl ?_
    refine l_a3 hG (z_6 rfl) ?_
    refine l_con hG (z_6 rfl) ?_
    refine l_lald hG (z_6 rfl) ?_
    refine l_i6 hG (z_6 rfl) ?_
    refine l_i2l hG (z_6 rfl) ?_
    rw [hw]
    refine l_lcm (x := (iI v).toInt64) hG (z_6 rfl) ?_
    refine l_z_t hG (z_6 rfl) rfl rfl ?_
    refine l_go hG (z_6 rfl) rfl ?_
    exact hnext _ _ _ _ _ h4
  · refine l_nz_t hG (z_6 rfl) rfl (fun e => hk (by rw [iI_eq (by omega) (by omega)] at e; omega)) ?_
    refine l_go hG (z_6 rfl) rfl ?_
    exact hnext _ _ _ _ _ h4
theorem cs_6 (hG : lCl d n xs G) (hd : 201 ≤ d) (hxs : ∀ j, i32 (xs j)) (hi : 0 ≤ i ∧ i + 8 ≤ n) (hR : RR m q) (hnext : ∀ (m' : Nat → Nat → Int) (q' : Nat → Nat → Option Nat) (w' : Nat → Int64) (v5 v6 : Option Value), RR m' q' → G 2315 (lLp i v5 v6) [] (mk m' q' (some w')) K N) : G 569 (lLp i u5 u6) [] (mk m q (some w)) (K + 1) (N + 6) := by
  obtain ⟨v, m1, q1, m2, h1, h2, h3, h4⟩ := K_fault m q (some w) hR d (by omega)
  refine hG.2.2.2 _ _ _ _ K N _ _ (by omega) (by omega) ?_
  refine l_a1 hG (z_7 rfl) ?_
  refine l_call (dk := 0) (dn := 0) hG (z_7 rfl) rfl (by decide) q_122 (rArg_v (As := []) (rest := []) rfl rfl (by decide) s_100 rfl) h1 ?_
  refine l_a2 hG (z_7 rfl) ?_
  refine l_call (dk := 0) (dn := 0) hG (z_7 rfl) rfl (by decide) q_180 (rArg_v (As := []) (rest := [.int (iI v)]) rfl rfl (by show 1 ≤ 8; decide) s_363 rfl) h2 ?_
  refine l_eqt hG (z_7 rfl) rfl rfl ?_
  exact hnext _ _ _ _ _ h4
theorem cs_7 (hG : lCl d n xs G) (hd : 201 ≤ d) (hxs : ∀ j, i32 (xs j)) (hi : 0 ≤ i ∧ i + 8 ≤ n) (hR : RR m q) (hnext : ∀ (m' : Nat → Nat → Int) (q' : Nat → Nat → Option Nat) (w' : Nat → Int64) (v5 v6 : Option Value), RR m' q' → G 2315 (lLp i v5 v6) [] (mk m' q' (some w')) K N) : G 582 (lLp i u5 u6) [] (mk m q (some w)) (K + 1) (N + 6) := by
  obtain ⟨v, m1, q1, m2, h1, h2, h3, h4⟩ := K_undo m q (some w) hR d (by omega)
  refine hG.2.2.2 _ _ _ _ K N _ _ (by omega) (by omega) ?_
  refine l_a1 hG (z_8 rfl) ?_
  refine l_call (dk := 0) (dn := 0) hG (z_8 rfl) rfl (by decide) q_123 (rArg_v (As := []) (rest := []) rfl rfl (by decide) s_100 rfl) h1 ?_
  refine l_a2 hG (z_8 rfl) ?_
  refine l_call (dk := 0) (dn := 0) hG (z_8 rfl) rfl (by decide) q_220 (rArg_v (As := []) (rest := [.int (iI v)]) rfl rfl (by show 1 ≤ 8; decide) s_363 rfl) h2 ?_
  refine l_eqt hG (z_8 rfl) rfl rfl ?_
  exact hnext _ _ _ _ _ h4
theorem cs_8 (hG : lCl d n xs G) (hd : 201 ≤ d) (hxs : ∀ j, i32 (xs j)) (hi : 0 ≤ i ∧ i + 8 ≤ n) (hR : RR m q) (hnext : ∀ (m' : Nat → Nat → Int) (q' : Nat → Nat → Option Nat) (w' : Nat → Int64) (v5 v6 : Option Value), RR m' q' → G 2315 (lLp i v5 v6) [] (mk m' q' (some w')) K N) : G 595 (lLp i u5 u6) [] (mk m q (some w)) (K + 1) (N + 6) := by
  obtain ⟨k, v, m1, q1, w1, m2, dk, dn, k2, d1, d2, h1, h2, h3, h4, h5⟩ := P_279 (hxs (i + 1).toNat) m q w hR d hd
  refine hG.2.2.2 _ _ _ _ (K + dk) (N + dn) _ _ (by omega) (by omega) ?_
  refine l_a1 hG (z_9 rfl) ?_
  refine l_ar hG (z_9 rfl) (z_9 rfl) (z_9 rfl) (z_9 rfl) (z_9 rfl) (by omega) ?_
  refine l_a3 hG (z_9 rfl) ?_
  refine l_call hG (z_9 rfl) rfl (by decide) q_279 (rArg_s (As := [.ref 100, .int (iI (xs (i + 1).toNat)), .ref 391]) (rest := []) (by decide) rfl rfl (by decide)) h1 ?_
  refine l_s5 hG (z_9 rfl) ?_
  refine l_a2 hG (z_9 rfl) ?_
  refine l_ar hG (z_9 rfl) (z_9 rfl) (z_9 rfl) (z_9 rfl) (z_9 rfl) (by omega) ?_
  refine l_call (dk := 0) (dn := 0) hG (z_9 rfl) rfl (by decide) q_222 (rArg_v (As := [.int (iI (xs (i + 1).toNat))]) (rest := []) rfl rfl (by decide) s_363 rfl) h2 ?_
  refine l_s6 hG (z_9 rfl) ?_
  refine l_a2 hG (z_9 rfl) ?_
  refine l_call (dk := 0) (dn := 0) hG (z_9 rfl) rfl (by decide) q_159 (rArg_v (As := []) (rest := []) rfl rfl (by decide) s_363 rfl) (thr_159 (by omega)) ?_
  refine l_i5 hG (z_9 rfl) ?_
  refine l_eqt hG (z_9 rfl) rfl h3 ?_
  refine l_i5 hG (z_9 rfl) ?_
  by_cases hk : k = 0
  · have hw := h5 hk
    subst hk
    refine l_nz_f hG (z_9 rfl) rfl ?_
    refine l_a3 hG (z_9 rfl) ?_
    refine l_con hG (z_9 rfl) ?_
    refine l_lald hG (z_9 rfl) ?_
    refine l_i6 hG (z_9 rfl) ?_
    refine l_i2l hG (z_9 rfl) ?_
    rw [hw]
    refine l_lcm (x := (iI v).toInt64) hG (z_9 rfl) ?_
    refine l_z_t hG (z_9 rfl) rfl rfl ?_
    refine l_go hG (z_9 rfl) rfl ?_
    exact hnext _ _ _ _ _ h4
  · refine l_nz_t hG (z_9 rfl) rfl (fun e => hk (by rw [iI_eq (by omega) (by omega)] at e; omega)) ?_
    refine l_go hG (z_9 rfl) rfl ?_
    exact hnext _ _ _ _ _ h4
theorem cs_9 (hG : lCl d n xs G) (hd : 201 ≤ d) (hxs : ∀ j, i32 (xs j)) (hi : 0 ≤ i ∧ i + 8 ≤ n) (hR : RR m q) (hnext : ∀ (m' : Nat → Nat → Int) (q' : Nat → Nat → Option Nat) (w' : Nat → Int64) (v5 v6 : Option Value), RR m' q' → G 2315 (lLp i v5 v6) [] (mk m' q' (some w')) K N) : G 651 (lLp i u5 u6) [] (mk m q (some w)) (K + 1) (N + 6) := by
  obtain ⟨k, v, m1, q1, w1, m2, dk, dn, k2, d1, d2, h1, h2, h3, h4, h5⟩ := P_280 (hxs (i + 1).toNat) (hxs (i + 2).toNat) m q w hR d hd
  refine hG.2.2.2 _ _ _ _ (K + dk) (N + dn) _ _ (by omega) (by omega) ?_
  refine l_a1 hG (z_10 rfl) ?_
  refine l_ar hG (z_10 rfl) (z_10 rfl) (z_10 rfl) (z_10 rfl) (z_10 rfl) (by omega) ?_
  refine l_ar hG (z_10 rfl) (z_10 rfl) (z_10 rfl) (z_10 rfl) (z_10 rfl) (by omega) ?_
  refine l_a3 hG (z_10 rfl) ?_
  refine l_call hG (z_10 rfl) rfl (by decide) q_280 (rArg_s (As := [.ref 100, .int (iI (xs (i + 1).toNat)), .int (iI (xs (i + 2).toNat)), .ref 391]) (rest := []) (by decide) rfl rfl (by decide)) h1 ?_
  refine l_s5 hG (z_10 rfl) ?_
  refine l_a2 hG (z_10 rfl) ?_
  refine l_ar hG (z_10 rfl) (z_10 rfl) (z_10 rfl) (z_10 rfl) (z_10 rfl) (by omega) ?_
  refine l_ar hG (z_10 rfl) (z_10 rfl) (z_10 rfl) (z_10 rfl) (z_10 rfl) (by omega) ?_
  refine l_call (dk := 0) (dn := 0) hG (z_10 rfl) rfl (by decide) q_226 (rArg_v (As := [.int (iI (xs (i + 1).toNat)), .int (iI (xs (i + 2).toNat))]) (rest := []) rfl rfl (by decide) s_363 rfl) h2 ?_
  refine l_s6 hG (z_10 rfl) ?_
  refine l_a2 hG (z_10 rfl) ?_
  refine l_call (dk := 0) (dn := 0) hG (z_10 rfl) rfl (by decide) q_159 (rArg_v (As := []) (rest := []) rfl rfl (by decide) s_363 rfl) (thr_159 (by omega)) ?_
  refine l_i5 hG (z_10 rfl) ?_
  refine l_eqt hG (z_10 rfl) rfl h3 ?_
  refine l_i5 hG (z_10 rfl) ?_
  by_cases hk : k = 0
  · have hw := h5 hk
    subst hk
    refine l_nz_f hG (z_10 rfl) rfl ?_
    refine l_a3 hG (z_10 rfl) ?_
    refine l_con hG (z_10 rfl) ?_
    refine l_lald hG (z_10 rfl) ?_
    refine l_i6 hG (z_10 rfl) ?_
    refine l_i2l hG (z_10 rfl) ?_
    rw [hw]
    refine l_lcm (x := (iI v).toInt64) hG (z_10 rfl) ?_
    refine l_z_t hG (z_10 rfl) rfl rfl ?_
    refine l_go hG (z_10 rfl) rfl ?_
    exact hnext _ _ _ _ _ h4
  · refine l_nz_t hG (z_10 rfl) rfl (fun e => hk (by rw [iI_eq (by omega) (by omega)] at e; omega)) ?_
    refine l_go hG (z_10 rfl) rfl ?_
    exact hnext _ _ _ _ _ h4
end G
