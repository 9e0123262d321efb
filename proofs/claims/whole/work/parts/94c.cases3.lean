/-! ===== the law's cases ===== -/
section G
variable {d n : Nat} {xs : Nat → Int} {G : lG} {K N : Nat} {i : Int} {u5 u6 : Option Value} {m : Nat → Nat → Int} {q : Nat → Nat → Option Nat} {w : Nat → Int64}
theorem cs_19 (hG : lCl d n xs G) (hd : 201 ≤ d) (hxs : ∀ j, i32 (xs j)) (hi : 0 ≤ i ∧ i + 8 ≤ n) (hR : RR m q) (hnext : ∀ (m' : Nat → Nat → Int) (q' : Nat → Nat → Option Nat) (w' : Nat → Int64) (v5 v6 : Option Value), RR m' q' → G 2315 (lLp i v5 v6) [] (mk m' q' (some w')) K N) : G 1342 (lLp i u5 u6) [] (mk m q (some w)) (K + 1) (N + 6) := by
  obtain ⟨k, v, m1, q1, w1, m2, dk, dn, k2, d1, d2, h1, h2, h3, h4, h5⟩ := P_290 (hxs (i + 1).toNat) (hxs (i + 2).toNat) m q w hR d hd
  refine hG.2.2.2 _ _ _ _ (K + dk) (N + dn) _ _ (by omega) (by omega) ?_
  refine l_a1 hG (z_20 rfl) ?_
  refine l_ar hG (z_20 rfl) (z_20 rfl) (z_20 rfl) (z_20 rfl) (z_20 rfl) (by omega) ?_
  refine l_ar hG (z_20 rfl) (z_20 rfl) (z_20 rfl) (z_20 rfl) (z_20 rfl) (by omega) ?_
  refine l_a3 hG (z_20 rfl) ?_
  refine l_call hG (z_20 rfl) rfl (by decide) q_290 (rArg_s (As := [.ref 100, .int (iI (xs (i + 1).toNat)), .int (iI (xs (i + 2).toNat)), .ref 391]) (rest := []) (by decide) rfl rfl (by decide)) h1 ?_
  refine l_s5 hG (z_20 rfl) ?_
  refine l_a2 hG (z_20 rfl) ?_
  refine l_ar hG (z_20 rfl) (z_20 rfl) (z_20 rfl) (z_20 rfl) (z_20 rfl) (by omega) ?_
  refine l_ar hG (z_20 rfl) (z_20 rfl) (z_20 rfl) (z_20 rfl) (z_20 rfl) (by omega) ?_
  refine l_call (dk := 0) (dn := 0) hG (z_20 rfl) rfl (by decide) q_242 (rArg_v (As := [.int (iI (xs (i + 1).toNat)), .int (iI (xs (i + 2).toNat))]) (rest := []) rfl rfl (by decide) s_363 rfl) h2 ?_
  refine l_s6 hG (z_20 rfl) ?_
  refine l_a2 hG (z_20 rfl) ?_
  refine l_call (dk := 0) (dn := 0) hG (z_20 rfl) rfl (by decide) q_159 (rArg_v (As := []) (rest := []) rfl rfl (by decide) s_363 rfl) (thr_159 (by omega)) ?_
  refine l_i5 hG (z_20 rfl) ?_
  refine l_eqt hG (z_20 rfl) rfl h3 ?_
  refine l_i5 hG (z_20 rfl) ?_
  by_cases hk : k = 0
  · have hw := h5 hk
    subst hk
    refine l_nz_f hG (z_20 rfl) rfl ?_
    refine l_a3 hG (z_20 rfl) ?_
    refine l_con hG (z_20 rfl) ?_
    refine l_lald hG (z_20 rfl) ?_
    refine l_i6 hG (z_20 rfl) ?_
    refine l_i2l hG (z_20 rfl) ?_
    rw [hw]
    refine l_lcm (x := (iI v).toInt64) hG (z_20 rfl) ?_
    refine l_z_t hG (z_20 rfl) rfl rfl ?_
    refine l_go hG (z_20 rfl) rfl ?_
    exact hnext _ _ _ _ _ h4
  · refine l_nz_t hG (z_20 rfl) rfl (fun e => hk (by rw [iI_eq (by omega) (by omega)] at e; omega)) ?_
    refine l_go hG (z_20 rfl) rfl ?_
    exact hnext _ _ _ _ _ h4
theorem cs_20 (hG : lCl d n xs G) (hd : 201 ≤ d) (hxs : ∀ j, i32 (xs j)) (hi : 0 ≤ i ∧ i + 8 ≤ n) (hR : RR m q) (hnext : ∀ (m' : Nat → Nat → Int) (q' : Nat → Nat → Option Nat) (w' : Nat → Int64) (v5 v6 : Option Value), RR m' q' → G 2315 (lLp i v5 v6) [] (mk m' q' (some w')) K N) : G 1410 (lLp i u5 u6) [] (mk m q (some w)) (K + 1) (N + 6) := by
  obtain ⟨k, v, m1, q1, w1, m2, dk, dn, k2, d1, d2, h1, h2, h3, h4, h5⟩ := P_291 (hxs (i + 1).toNat) m q w hR d hd
  refine hG.2.2.2 _ _ _ _ (K + dk) (N + dn) _ _ (by omega) (by omega) ?_
  refine l_a1 hG (z_21 rfl) ?_
  refine l_ar hG (z_21 rfl) (z_21 rfl) (z_21 rfl) (z_21 rfl) (z_21 rfl) (by omega) ?_
  refine l_a3 hG (z_21 rfl) ?_
  refine l_call hG (z_21 rfl) rfl (by decide) q_291 (rArg_s (As := [.ref 100, .int (iI (xs (i + 1).toNat)), .ref 391]) (rest := []) (by decide) rfl rfl (by decide)) h1 ?_
  refine l_s5 hG (z_21 rfl) ?_
  refine l_a2 hG (z_21 rfl) ?_
  refine l_ar hG (z_21 rfl) (z_21 rfl) (z_21 rfl) (z_21 rfl) (z_21 rfl) (by omega) ?_
  refine l_call (dk := 0) (dn := 0) hG (z_21 rfl) rfl (by decide) q_243 (rArg_v (As := [.int (iI (xs (i + 1).toNat))]) (rest := []) rfl rfl (by decide) s_363 rfl) h2 ?_
  refine l_s6 hG (z_21 rfl) ?_
  refine l_a2 hG (z_21 rfl) ?_
  refine l_call (dk := 0) (dn := 0) hG (z_21 rfl) rfl (by decide) q_159 (rArg_v (As := []) (rest := []) rfl rfl (by decide) s_363 rfl) (thr_159 (by omega)) ?_
  refine l_i5 hG (z_21 rfl) ?_
  refine l_eqt hG (z_21 rfl) rfl h3 ?_
  refine l_i5 hG (z_21 rfl) ?_
  by_cases hk : k = 0
  · have hw := h5 hk
    subst hk
    refine l_nz_f hG (z_21 rfl) rfl ?_
    refine l_a3 hG (z_21 rfl) ?_
    refine l_con hG (z_21 rfl) ?_
    refine l_lald hG (z_21 rfl) ?_
    refine l_i6 hG (z_21 rfl) ?_
    refine l_i2l hG (z_21 rfl) ?_
    rw [hw]
    refine l_lcm (x := (iI v).toInt64) hG (z_21 rfl) ?_
    refine l_z_t hG (z_21 rfl) rfl rfl ?_
    refine l_go hG (z_21 rfl) rfl ?_
    exact hnext _ _ _ _ _ h4
  · refine l_nz_t hG (z_21 rfl) rfl (fun e => hk (by rw [iI_eq (by omega) (by omega)] at e; omega)) ?_
    refine l_go hG (z_21 rfl) rfl ?_
    exact hnext _ _ _ _ _ h4
theorem cs_21 (hG : lCl d n xs G) (hd : 201 ≤ d) (hxs : ∀ j, i32 (xs j)) (hi : 0 ≤ i ∧ i + 8 ≤ n) (hR : RR m q) (hnext : ∀ (m' : Nat → Nat → Int) (q' : Nat → Nat → Option Nat) (w' : Nat → Int64) (v5 v6 : Option Value), RR m' q' → G 2315 (lLp i v5 v6) [] (mk m' q' (some w')) K N) : G 1466 (lLp i u5 u6) [] (mk m q (some w)) (K + 1) (N + 6) := by
  obtain ⟨k, v, m1, q1, w1, m2, dk, dn, k2, d1, d2, h1, h2, h3, h4, h5⟩ := P_292 (hxs (i + 1).toNat) m q w hR d hd
  refine hG.2.2.2 _ _ _ _ (K + dk) (N + dn) _ _ (by omega) (by omega) ?_
  refine l_a1 hG (z_22 rfl) ?_
  refine l_ar hG (z_22 rfl) (z_22 rfl) (z_22 rfl) (z_22 rfl) (z_22 rfl) (by omega) ?_
  refine l_a3 hG (z_22 rfl) ?_
  refine l_call hG (z_22 rfl) rfl (by decide) q_292 (rArg_s (As := [.ref 100, .int (iI (xs (i + 1).toNat)), .ref 391]) (rest := []) (by decide) rfl rfl (by decide)) h1 ?_
  refine l_s5 hG (z_22 rfl) ?_
  refine l_a2 hG (z_22 rfl) ?_
  refine l_ar hG (z_22 rfl) (z_22 rfl) (z_22 rfl) (z_22 rfl) (z_22 rfl) (by omega) ?_
  refine l_call (dk := 0) (dn := 0) hG (z_22 rfl) rfl (by decide) q_246 (rArg_v (As := [.int (iI (xs (i + 1).toNat))]) (rest := []) rfl rfl (by decide) s_363 rfl) h2 ?_
  refine l_s6 hG (z_22 rfl) ?_
  refine l_a2 hG (z_22 rfl) ?_
  refine l_call (dk := 0) (dn := 0) hG (z_22 rfl) rfl (by decide) q_159 (rArg_v (As := []) (rest := []) rfl rfl (by decide) s_363 rfl) (thr_159 (by omega)) ?_
  refine l_i5 hG (z_22 rfl) ?_
  refine l_eqt hG (z_22 rfl) rfl h3 ?_
  refine l_i5 hG (z_22 rfl) ?_
  by_cases hk : k = 0
  · have hw := h5 hk
    subst hk
    refine l_nz_f hG (z_22 rfl) rfl ?_
    refine l_a3 hG (z_22 rfl) ?_
    refine l_con hG (z_22 rfl) ?_
    refine l_lald hG (z_22 rfl) ?_
    refine l_i6 hG (z_22 rfl) ?_
    refine l_i2l hG (z_22 rfl) ?_
    rw [hw]
    refine l_lcm (x := (iI v).toInt64) hG (z_22 rfl) ?_
    refine l_z_t hG (z_22 rfl) rfl rfl ?_
    refine l_go hG (z_22 rfl) rfl ?_
    exact hnext _ _ _ _ _ h4
  · refine l_nz_t hG (z_22 rfl) rfl (fun e => hk (by rw [iI_eq (by omega) (by omega)] at e; omega)) ?_
    refine l_go hG (z_22 rfl) rfl ?_
    exact hnext _ _ _ _ _ h4
theorem cs_22 (hG : lCl d n xs G) (hd : 201 ≤ d) (hxs : ∀ j, i32 (xs j)) (hi : 0 ≤ i ∧ i + 8 ≤ n) (hR : RR m q) (hnext : ∀ (m' : Nat → Nat → Int) (q' : Nat → Nat → Option Nat) (w' : Nat → Int64) (v5 v6 : Option Value), RR m' q' → G 2315 (lLp i v5 v6) [] (mk m' q' (some w')) K N) : G 1522 (lLp i u5 u6) [] (mk m q (some w)) (K + 1) (N + 6) := by
  obtain ⟨k, v, m1, q1, w1, m2, dk, dn, k2, d1, d2, h1, h2, h3, h4, h5⟩ := P_293 (hxs (i + 1).toNat) (hxs (i + 2).toNat) m q w hR d hd
  refine hG.2.2.2 _ _ _ _ (K + dk) (N + dn) _ _ (by omega) (by omega) ?_
  refine l_a1 hG (z_23 rfl) ?_
  refine l_ar hG (z_23 rfl) (z_23 rfl) (z_23 rfl) (z_23 rfl) (z_23 rfl) (by omega) ?_
  refine l_ar hG (z_23 rfl) (z_23 rfl) (z_23 rfl) (z_23 rfl) (z_23 rfl) (by omega) ?_
  refine l_a3 hG (z_23 rfl) ?_
  refine l_call hG (z_23 rfl) rfl (by decide) q_293 (rArg_s (As := [.ref 100, .int (iI (xs (i + 1).toNat)), .int (iI (xs (i + 2).toNat)), .ref 391]) (rest := []) (by decide) rfl rfl (by decide)) h1 ?_
  refine l_s5 hG (z_23 rfl) ?_
  refine l_a2 hG (z_23 rfl) ?_
  refine l_ar hG (z_23 rfl) (z_23 rfl) (z_23 rfl) (z_23 rfl) (z_23 rfl) (by omega) ?_
  refine l_ar hG (z_23 rfl) (z_23 rfl) (z_23 rfl) (z_23 rfl) (z_23 rfl) (by omega) ?_
  refine l_call (dk := 0) (dn := 0) hG (z_23 rfl) rfl (by decide) q_247 (rArg_v (As := [.int (iI (xs (i + 1).toNat)), .int (iI (xs (i + 2).toNat))]) (rest := []) rfl rfl (by decide) s_363 rfl) h2 ?_
  refine l_s6 hG (z_23 rfl) ?_
  refine l_a2 hG (z_23 rfl) ?_
  refine l_call (dk := 0) (dn := 0) hG (z_23 rfl) rfl (by decide) q_159 (rArg_v (As := []) (rest := []) rfl rfl (by decide) s_363 rfl) (thr_159 (by omega)) ?_
  refine l_i5 hG (z_23 rfl) ?_
  refine l_eqt hG (z_23 rfl) rfl h3 ?_
  refine l_i5 hG (z_23 rfl) ?_
  by_cases hk : k = 0
  · have hw := h5 hk
    subst hk
    refine l_nz_f hG (z_23 rfl) rfl ?_
    refine l_a3 hG (z_23 rfl) ?_
    refine l_con hG (z_23 rfl) ?_
    refine l_lald hG (z_23 rfl) ?_
    refine l_i6 hG (z_23 rfl) ?_
    refine l_i2l hG (z_23 rfl) ?_
    rw [hw]
    refine l_lcm (x := (iI v).toInt64) hG (z_23 rfl) ?_
    refine l_z_t hG (z_23 rfl) rfl rfl ?_
    refine l_go hG (z_23 rfl) rfl ?_
    exact hnext _ _ _ _ _ h4
  · refine l_nz_t hG (z_23 rfl) rfl (fun e => hk (by rw [iI_eq (by omega) (by omega)] at e; omega)) ?_
    refine l_go hG (z_23 rfl) rfl ?_
    exact hnext _ _ _ _ _ h4
theorem cs_23 (hG : lCl d n xs G) (hd : 201 ≤ d) (hxs : ∀ j, i32 (xs j)) (hi : 0 ≤ i ∧ i + 8 ≤ n) (hR : RR m q) (hnext : ∀ (m' : Nat → Nat → Int) (q' : Nat → Nat → Option Nat) (w' : Nat → Int64) (v5 v6 : Option Value), RR m' q' → G 2315 (lLp i v5 v6) [] (mk m' q' (some w')) K N) : G 1590 (lLp i u5 u6) [] (mk m q (some w)) (K + 1) (N + 6) := by
  obtain ⟨k, v, m1, q1, w1, m2, dk, dn, k2, d1, d2, h1, h2, h3, h4, h5⟩ := P_294 (hxs (i + 1).toNat) m q w hR d hd
  refine hG.2.2.2 _ _ _ _ (K + dk) (N + dn) _ _ (by omega) (by omega) ?_
  refine l_a1 hG (z_24 rfl) ?_
  refine l_ar hG (z_24 rfl) (z_24 rfl) (z_24 rfl) (z_24 rfl) (z_24 rfl) (by omega) ?_
  refine l_a3 hG (z_24 rfl) ?_
  refine l_call hG (z_24 rfl) rfl (by decide) q_294 (rArg_s (As := [.ref 100, .int (iI (xs (i + 1).toNat)), .ref 391]) (rest := []) (by decide) rfl rfl (by decide)) h1 ?_
  refine l_s5 hG (z_24 rfl) ?_
  refine l_a2 hG (z_24 rfl) ?_
  refine l_ar hG (z_24 rfl) (z_24 rfl) (z_24 rfl) (z_24 rfl) (z_24 rfl) (by omega) ?_
  refine l_call (dk := 0) (dn := 0) hG (z_24 rfl) rfl (by decide) q_248 (rArg_v (As := [.int (iI (xs (i + 1).toNat))]) (rest := []) rfl rfl (by decide) s_363 rfl) h2 ?_
  refine l_s6 hG (z_24 rfl) ?_
  refine l_a2 hG (z_24 rfl) ?_
  refine l_call (dk := 0) (dn := 0) hG (z_24 rfl) rfl (by decide) q_159 (rArg_v (As := []) (rest := []) rfl rfl (by decide) s_363 rfl) (thr_159 (by omega)) ?_
  refine l_i5 hG (z_24 rfl) ?_
  refine l_eqt hG (z_24 rfl) rfl h3 ?_
  refine l_i5 hG (z_24 rfl) ?_
  by_cases hk : k = 0
  · have hw := h5 hk
    subst hk
    refine l_nz_f hG (z_24 rfl) rfl ?_
    refine l_a3 hG (z_24 rfl) ?_
    refine l_con hG (z_24 rfl) ?_
    refine l_lald hG (z_24 rfl) ?_
    refine l_i6 hG (z_24 rfl) ?_
    refine l_i2l hG (z_24 rfl) ?_
    rw [hw]
    refine l_lcm (x := (iI v).toInt64) hG (z_24 rfl) ?_
    refine l_z_t hG (z_24 rfl) rfl rfl ?_
    refine l_go hG (z_24 rfl) rfl ?_
    exact hnext _ _ _ _ _ h4
  · refine l_nz_t hG (z_24 rfl) rfl (fun e => hk (by rw [iI_eq (by omega) (by omega)] at e; omega)) ?_
    refine l_go hG (z_24 rfl) rfl ?_
    exact hnext _ _ _ _ _ h4
theorem cs_24 (hG : lCl d n xs G) (hd : 201 ≤ d) (hxs : ∀ j, i32 (xs j)) (hi : 0 ≤ i ∧ i + 8 ≤ n) (hR : RR m q) (hnext : ∀ (m' : Nat → Nat → Int) (q' : Nat → Nat → Option Nat) (w' : Nat → Int64) (v5 v6 : Option Value), RR m' q' → G 2315 (lLp i v5 v6) [] (mk m' q' (some w')) K N) : G 1646 (lLp i u5 u6) [] (mk m q (some w)) (K + 1) (N + 6) := by
  obtain ⟨k, v, m1, q1, w1, m2, dk, dn, k2, d1, d2, h1, h2, h3, h4, h5⟩ := P_295 (hxs (i + 1).toNat) (hxs (i + 2).toNat) m q w hR d hd
  refine hG.2.2.2 _ _ _ _ (K + dk) (N + dn) _ _ (by omega) (by omega) ?_
  refine l_a1 hG (z_25 rfl) ?_
  refine l_ar hG (z_25 rfl) (z_25 rfl) (z_25 rfl) (z_25 rfl) (z_25 rfl) (by omega) ?_
  refine l_ar hG (z_25 rfl) (z_25 rfl) (z_25 rfl) (z_25 rfl) (z_25 rfl) (by omega) ?_
  refine l_a3 hG (z_25 rfl) ?_
  refine l_call hG (z_25 rfl) rfl (by decide) q_295 (rArg_s (As := [.ref 100, .int (iI (xs (i + 1).toNat)), .int (iI (xs (i + 2).toNat)), .ref 391]) (rest := []) (by decide) rfl rfl (by decide)) h1 ?_
  refine l_s5 hG (z_25 rfl) ?_
  refine l_a2 hG (z_25 rfl) ?_
  refine l_ar hG (z_25 rfl) (z_25 rfl) (z_25 rfl) (z_25 rfl) (z_25 rfl) (by omega) ?_
  refine l_ar hG (z_25 rfl) (z_25 rfl) (z_25 rfl) (z_25 rfl) (z_25 rfl) (by omega) ?_
  refine l_call (dk := 0) (dn := 0) hG (z_25 rfl) rfl (by decide) q_249 (rArg_v (As := [.int (iI (xs (i + 1).toNat)), .int (iI (xs (i + 2).toNat))]) (rest := []) rfl rfl (by decide) s_363 rfl) h2 ?_
  refine l_s6 hG (z_25 rfl) ?_
  refine l_a2 hG (z_25 rfl) ?_
  refine l_call (dk := 0) (dn := 0) hG (z_25 rfl) rfl (by decide) q_159 (rArg_v (As := []) (rest := []) rfl rfl (by decide) s_363 rfl) (thr_159 (by omega)) ?_
  refine l_i5 hG (z_25 rfl) ?_
  refine l_eqt hG (z_25 rfl) rfl h3 ?_
  refine l_i5 hG (z_25 rfl) ?_
  by_cases hk : k = 0
  · have hw := h5 hk
    subst hk
    refine l_nz_f hG (z_25 rfl) rfl ?_
    refine l_a3 hG (z_25 rfl) ?_
    refine l_con hG (z_25 rfl) ?_
    refine l_lald hG (z_25 rfl) ?_
    refine l_i6 hG (z_25 rfl) ?_
    refine l_i2l hG (z_25 rfl) ?_
    rw [hw]
    refine l_lcm (x := (iI v).toInt64) hG (z_25 rfl) ?_
    refine l_z_t hG (z_25 rfl) rfl rfl ?_
    refine l_go hG (z_25 rfl) rfl ?_
    exact hnext _ _ _ _ _ h4
  · refine l_nz_t hG (z_25 rfl) rfl (fun e => hk (by rw [iI_eq (by omega) (by omega)] at e; omega)) ?_
    refine l_go hG (z_25 rfl) rfl ?_
    exact hnext _ _ _ _ _ h4
theorem cs_25 (hG : lCl d n xs G) (hd : 201 ≤ d) (hxs : ∀ j, i32 (xs j)) (hi : 0 ≤ i ∧ i + 8 ≤ n) (hR : RR m q) (hnext : ∀ (m' : Nat → Nat → Int) (q' : Nat → Nat → Option Nat) (w' : Nat → Int64) (v5 v6 : Option Value), RR m' q' → G 2315 (lLp i v5 v6) [] (mk m' q' (some w')) K N) : G 1714 (lLp i u5 u6) [] (mk m q (some w)) (K + 1) (N + 6) := by
  obtain ⟨v, m1, q1, m2, h1, h2, h3, h4⟩ := K_even m q (some w) hR d (by omega)
  refine hG.2.2.2 _ _ _ _ K N _ _ (by omega) (by omega) ?_
  refine l_a1 hG (z_26 rfl) ?_
  refine l_call (dk := 0) (dn := 0) hG (z_26 rfl) rfl (by decide) q_145 (rArg_v (As := []) (rest := []) rfl rfl (by decide) s_100 rfl) h1 ?_
  refine l_a2 hG (z_26 rfl) ?_
  refine l_call (dk := 0) (dn := 0) hG (z_26 rfl) rfl (by decide) q_250 (rArg_v (As := []) (rest := [.int (iI v)]) rfl rfl (by show 1 ≤ 8; decide) s_363 rfl) h2 ?_
  refine l_eqt hG (z_26 rfl) rfl rfl ?_
  exact hnext _ _ _ _ _ h4
theorem cs_26 (hG : lCl d n xs G) (hd : 201 ≤ d) (hxs : ∀ j, i32 (xs j)) (hi : 0 ≤ i ∧ i + 8 ≤ n) (hR : RR m q) (hnext : ∀ (m' : Nat → Nat → Int) (q' : Nat → Nat → Option Nat) (w' : Nat → Int64) (v5 v6 : Option Value), RR m' q' → G 2315 (lLp i v5 v6) [] (mk m' q' (some w')) K N) : G 1727 (lLp i u5 u6) [] (mk m q (some w)) (K + 1) (N + 6) := by
  obtain ⟨k, v, m1, q1, w1, m2, dk, dn, k2, d1, d2, h1, h2, h3, h4, h5⟩ := P_296 (hxs (i + 1).toNat) m q w hR d hd
  refine hG.2.2.2 _ _ _ _ (K + dk) (N + dn) _ _ (by omega) (by omega) ?_
  refine l_a1 hG (z_27 rfl) ?_
  refine l_ar hG (z_27 rfl) (z_27 rfl) (z_27 rfl) (z_27 rfl) (z_27 rfl) (by omega) ?_
  refine l_a3 hG (z_27 rfl) ?_
  refine l_call hG (z_27 rfl) rfl (by decide) q_296 (rArg_s (As := [.ref 100, .int (iI (xs (i + 1).toNat)), .ref 391]) (rest := []) (by decide) rfl rfl (by decide)) h1 ?_
  refine l_s5 hG (z_27 rfl) ?_
  refine l_a2 hG (z_27 rfl) ?_
  refine l_ar hG (z_27 rfl) (z_27 rfl) (z_27 rfl) (z_27 rfl) (z_27 rfl) (by omega) ?_
  refine l_call (dk := 0) (dn := 0) hG (z_27 rfl) rfl (by decide) q_254 (rArg_v (As := [.int (iI (xs (i + 1).toNat))]) (rest := []) rfl rfl (by decide) s_363 rfl) h2 ?_
  refine l_s6 hG (z_27 rfl) ?_
  refine l_a2 hG (z_27 rfl) ?_
  refine l_call (dk := 0) (dn := 0) hG (z_27 rfl) rfl (by decide) q_159 (rArg_v (As := []) (rest := []) rfl rfl (by decide) s_363 rfl) (thr_159 (by omega)) ?_
  refine l_i5 hG (z_27 rfl) ?_
  refine l_eqt hG (z_27 rfl) rfl h3 ?_
  refine l_i5 hG (z_27 rfl) ?_
  by_cases hk : k = 0
  · have hw := h5 hk
    subst hk
    refine l_nz_f hG (z_27 rfl) rfl ?_
    refine l_a3 hG (z_27 rfl) ?_
    refine l_con hG (z_27 rfl) ?_
    refine l_lald hG (z_27 rfl) ?_
    refine l_i6 hG (z_27 rfl) ?_
    refine l_i2l hG (z_27 rfl) ?_
    rw [hw]
    refine l_lcm (x := (iI v).toInt64) hG (z_27 rfl) ?_
    refine l_z_t hG (z_27 rfl) rfl rfl ?_
    refine l_go hG (z_27 rfl) rfl ?_
    exact hnext _ _ _ _ _ h4
  · refine l_nz_t hG (z_27 rfl) rfl (fun e => hk (by rw [iI_eq (by omega) (by omega)] at e; omega)) ?_
    refine l_go hG (z_27 rfl) rfl ?_
    exact hnext _ _ _ _ _ h4
theorem cs_27 (hG : lCl d n xs G) (hd : 201 ≤ d) (hxs : ∀ j, i32 (xs j)) (hi : 0 ≤ i ∧ i + 8 ≤ n) (hR : RR m q) (hnext : ∀ (m' : Nat → Nat → Int) (q' : Nat → Nat → Option Nat) (w' : Nat → Int64) (v5 v6 : Option Value), RR m' q' → G 2315 (lLp i v5 v6) [] (mk m' q' (some w')) K N) : G 1783 (lLp i u5 u6) [] (mk m q (some w)) (K + 1) (N + 6) := by
  obtain ⟨k, v, m1, q1, w1, m2, dk, dn, k2, d1, d2, h1, h2, h3, h4, h5⟩ := P_297 (hxs (i + 1).toNat) m q w hR d hd
  refine hG.2.2.2 _ _ _ _ (K + dk) (N + dn) _ _ (by omega) (by omega) ?_
  refine l_a1 hG (z_28 rfl) ?_
  refine l_ar hG (z_28 rfl) (z_28 rfl) (z_28 rfl) (z_28 rfl) (z_28 rfl) (by omega) ?_
  refine l_a3 hG (z_28 rfl) ?_
  refine l_call hG (z_28 rfl) rfl (by decide) q_297 (rArg_s (As := [.ref 100, .int (iI (xs (i + 1).toNat)), .ref 391]) (rest := []) (by decide) rfl rfl (by decide)) h1 ?_
  refine l_s5 hG (z_28 rfl) ?_
  refine l_a2 hG (z_28 rfl) ?_
  refine l_ar hG (z_28 rfl) (z_28 rfl) (z_28 rfl) (z_28 rfl) (z_28 rfl) (by omega) ?_
  refine l_call (dk := 0) (dn := 0) hG (z_28 rfl) rfl (by decide) q_257 (rArg_v (As := [.int (iI (xs (i + 1).toNat))]) (rest := []) rfl rfl (by decide) s_363 rfl) h2 ?_
  refine l_s6 hG (z_28 rfl) ?_
  refine l_a2 hG (z_28 rfl) ?_
  refine l_call (dk := 0) (dn := 0) hG (z_28 rfl) rfl (by decide) q_159 (rArg_v (As := []) (rest := []) rfl rfl (by decide) s_363 rfl) (thr_159 (by omega)) ?_
  refine l_i5 hG (z_28 rfl) ?_
  refine l_eqt hG (z_28 rfl) rfl h3 ?_
  refine l_i5 hG (z_28 rfl) ?_
  by_cases hk : k = 0
  · have hw := h5 hk
    subst hk
    refine l_nz_f hG (z_28 rfl) rfl ?_
    refine l_a3 hG (z_28 rfl) ?_
    refine l_con hG (z_28 rfl) ?_
    refine l_lald hG (z_28 rfl) ?_
    refine l_i6 hG (z_28 rfl) ?_
    refine l_i2l hG (z_28 rfl) ?_
    rw [hw]
    refine l_lcm (x := (iI v).toInt64) hG (z_28 rfl) ?_
    refine l_z_t hG (z_28 rfl) rfl rfl ?_
    refine l_go hG (z_28 rfl) rfl ?_
    exact hnext _ _ _ _ _ h4
  · refine l_nz_t hG (z_28 rfl) rfl (fun e => hk (by rw [iI_eq (by omega) (by omega)] at e; omega)) ?_
    refine l_go hG (z_28 rfl) rfl ?_
    exact hnext _ _ _ _ _ h4
end G
