/-! ===== the law's cases ===== -/
section G
variable {d n : Nat} {xs : Nat → Int} {G : lG} {K N : Nat} {i : Int} {u5 u6 : Option Value} {m : Nat → Nat → Int} {q : Nat → Nat → Option Nat} {w : Nat → Int64}
theorem cs_28 (hG : lCl d n xs G) (hd : 201 ≤ d) (hxs : ∀ j, i32 (xs j)) (hi : 0 ≤ i ∧ i + 8 ≤ n) (hR : RR m q) (hnext : ∀ (m' : Nat → Nat → Int) (q' : Nat → Nat → Option Nat) (w' : Nat → Int64) (v5 v6 : Option Value), RR m' q' → G 2315 (lLp i v5 v6) [] (mk m' q' (some w')) K N) : G 1839 (lLp i u5 u6) [] (mk m q (some w)) (K + 1) (N + 6) := by
  obtain ⟨k, v, m1, q1, w1, m2, dk, dn, k2, d1, d2, h1, h2, h3, h4, h5⟩ := P_298 (hxs (i + 1).toNat) (hxs (i + 2).toNat) m q w hR d hd
  refine hG.2.2.2 _ _ _ _ (K + dk) (N + dn) _ _ (by omega) (by omega) ?_
  refine l_a1 hG (z_29 rfl) ?_
  refine l_ar hG (z_29 rfl) (z_29 rfl) (z_29 rfl) (z_29 rfl) (z_29 rfl) (by omega) ?_
  refine l_ar hG (z_29 rfl) (z_29 rfl) (z_29 rfl) (z_29 rfl) (z_29 rfl) (by omega) ?_
  refine l_a3 hG (z_29 rfl) ?_
  refine l_call hG (z_29 rfl) rfl (by decide) q_298 (rArg_s (As := [.ref 100, .int (iI (xs (i + 1).toNat)), .int (iI (xs (i + 2).toNat)), .ref 391]) (rest := []) (by decide) rfl rfl (by decide)) h1 ?_
  refine l_s5 hG (z_29 rfl) ?_
  refine l_a2 hG (z_29 rfl) ?_
  refine l_ar hG (z_29 rfl) (z_29 rfl) (z_29 rfl) (z_29 rfl) (z_29 rfl) (by omega) ?_
  refine l_ar hG (z_29 rfl) (z_29 rfl) (z_29 rfl) (z_29 rfl) (z_29 rfl) (by omega) ?_
  refine l_call (dk := 0) (dn := 0) hG (z_29 rfl) rfl (by decide) q_258 (rArg_v (As := [.int (iI (xs (i + 1).toNat)), .int (iI (xs (i + 2).toNat))]) (rest := []) rfl rfl (by decide) s_363 rfl) h2 ?_
  refine l_s6 hG (z_29 rfl) ?_
  refine l_a2 hG (z_29 rfl) ?_
  refine l_call (dk := 0) (dn := 0) hG (z_29 rfl) rfl (by decide) q_159 (rArg_v (As := []) (rest := []) rfl rfl (by decide) s_363 rfl) (thr_159 (by omega)) ?_
  refine l_i5 hG (z_29 rfl) ?_
  refine l_eqt hG (z_29 rfl) rfl h3 ?_
  refine l_i5 hG (z_29 rfl) ?_
  by_cases hk : k = 0
  · have hw := h5 hk
    subst hk
    refine l_nz_f hG (z_29 rfl) rfl ?_
    refine l_a3 hG (z_29 rfl) ?_
    refine l_con hG (z_29 rfl) ?_
    refine l_lald hG (z_29 rfl) ?_
    refine l_i6 hG (z_29 rfl) ?_
    refine l_i2l hG (z_29 rfl) ?_
    rw [hw]
    refine l_lcm (x := (iI v).toInt64) hG (z_29 rfl) ?_
    refine l_z_t hG (z_29 rfl) rfl rfl ?_
    refine l_go hG (z_29 rfl) rfl ?_
    exact hnext _ _ _ _ _ h4
  · refine l_nz_t hG (z_29 rfl) rfl (fun e => hk (by rw [iI_eq (by omega) (by omega)] at e; omega)) ?_
    refine l_go hG (z_29 rfl) rfl ?_
    exact hnext _ _ _ _ _ h4
theorem cs_29 (hG : lCl d n xs G) (hd : 201 ≤ d) (hxs : ∀ j, i32 (xs j)) (hi : 0 ≤ i ∧ i + 8 ≤ n) (hR : RR m q) (hnext : ∀ (m' : Nat → Nat → Int) (q' : Nat → Nat → Option Nat) (w' : Nat → Int64) (v5 v6 : Option Value), RR m' q' → G 2315 (lLp i v5 v6) [] (mk m' q' (some w')) K N) : G 1907 (lLp i u5 u6) [] (mk m q (some w)) (K + 1) (N + 6) := by
  obtain ⟨k, v, m1, q1, w1, m2, dk, dn, k2, d1, d2, h1, h2, h3, h4, h5⟩ := P_299 (hxs (i + 1).toNat) m q w hR d hd
  refine hG.2.2.2 _ _ _ _ (K + dk) (N + dn) _ _ (by omega) (by omega) ?_
  refine l_a1 hG (z_30 rfl) ?_
  refine l_ar hG (z_30 rfl) (z_30 rfl) (z_30 rfl) (z_30 rfl) (z_30 rfl) (by omega) ?_
  refine l_a3 hG (z_30 rfl) ?_
  refine l_call hG (z_30 rfl) rfl (by decide) q_299 (rArg_s (As := [.ref 100, .int (iI (xs (i + 1).toNat)), .ref 391]) (rest := []) (by decide) rfl rfl (by decide)) h1 ?_
  refine l_s5 hG (z_30 rfl) ?_
  refine l_a2 hG (z_30 rfl) ?_
  refine l_ar hG (z_30 rfl) (z_30 rfl) (z_30 rfl) (z_30 rfl) (z_30 rfl) (by omega) ?_
  refine l_call (dk := 0) (dn := 0) hG (z_30 rfl) rfl (by decide) q_259 (rArg_v (As := [.int (iI (xs (i + 1).toNat))]) (rest := []) rfl rfl (by decide) s_363 rfl) h2 ?_
  refine l_s6 hG (z_30 rfl) ?_
  refine l_a2 hG (z_30 rfl) ?_
  refine l_call (dk := 0) (dn := 0) hG (z_30 rfl) rfl (by decide) q_159 (rArg_v (As := []) (rest := []) rfl rfl (by decide) s_363 rfl) (thr_159 (by omega)) ?_
  refine l_i5 hG (z_30 rfl) ?_
  refine l_eqt hG (z_30 rfl) rfl h3 ?_
  refine l_i5 hG (z_30 rfl) ?_
  by_cases hk : k = 0
  · have hw := h5 hk
    subst hk
    refine l_nz_f hG (z_30 rfl) rfl ?_
    refine l_a3 hG (z_30 rfl) ?_
    refine l_con hG (z_30 rfl) ?_
    refine l_lald hG (z_30 rfl) ?_
    refine l_i6 hG (z_30 rfl) ?_
    refine l_i2l hG (z_30 rfl) ?_
    rw [hw]
    refine l_lcm (x := (iI v).toInt64) hG (z_30 rfl) ?_
    refine l_z_t hG (z_30 rfl) rfl rfl ?_
    refine l_go hG (z_30 rfl) rfl ?_
    exact hnext _ _ _ _ _ h4
  · refine l_nz_t hG (z_30 rfl) rfl (fun e => hk (by rw [iI_eq (by omega) (by omega)] at e; omega)) ?_
    refine l_go hG (z_30 rfl) rfl ?_
    exact hnext _ _ _ _ _ h4
theorem cs_30 (hG : lCl d n xs G) (hd : 201 ≤ d) (hxs : ∀ j, i32 (xs j)) (hi : 0 ≤ i ∧ i + 8 ≤ n) (hR : RR m q) (hnext : ∀ (m' : Nat → Nat → Int) (q' : Nat → Nat → Option Nat) (w' : Nat → Int64) (v5 v6 : Option Value), RR m' q' → G 2315 (lLp i v5 v6) [] (mk m' q' (some w')) K N) : G 1963 (lLp i u5 u6) [] (mk m q (some w)) (K + 1) (N + 6) := by
  obtain ⟨k, v, m1, q1, w1, m2, dk, dn, k2, d1, d2, h1, h2, h3, h4, h5⟩ := P_300 (hxs (i + 1).toNat) (hxs (i + 2).toNat) (hxs (i + 3).toNat) m q w hR d hd
  refine hG.2.2.2 _ _ _ _ (K + dk) (N + dn) _ _ (by omega) (by omega) ?_
  refine l_a1 hG (z_31 rfl) ?_
  refine l_ar hG (z_31 rfl) (z_31 rfl) (z_31 rfl) (z_31 rfl) (z_31 rfl) (by omega) ?_
  refine l_ar hG (z_31 rfl) (z_31 rfl) (z_31 rfl) (z_31 rfl) (z_31 rfl) (by omega) ?_
  refine l_ar hG (z_31 rfl) (z_31 rfl) (z_31 rfl) (z_31 rfl) (z_31 rfl) (by omega) ?_
  refine l_a3 hG (z_31 rfl) ?_
  refine l_call hG (z_31 rfl) rfl (by decide) q_300 (rArg_s (As := [.ref 100, .int (iI (xs (i + 1).toNat)), .int (iI (xs (i + 2).toNat)), .int (iI (xs (i + 3).toNat)), .ref 391]) (rest := []) (by decide) rfl rfl (by decide)) h1 ?_
  refine l_s5 hG (z_31 rfl) ?_
  refine l_a2 hG (z_31 rfl) ?_
  refine l_ar hG (z_31 rfl) (z_31 rfl) (z_31 rfl) (z_31 rfl) (z_31 rfl) (by omega) ?_
  refine l_ar hG (z_31 rfl) (z_31 rfl) (z_31 rfl) (z_31 rfl) (z_31 rfl) (by omega) ?_
  refine l_ar hG (z_31 rfl) (z_31 rfl) (z_31 rfl) (z_31 rfl) (z_31 rfl) (by omega) ?_
  refine l_call (dk := 0) (dn := 0) hG (z_31 rfl) rfl (by decide) q_261 (rArg_v (As := [.int (iI (xs (i + 1).toNat)), .int (iI (xs (i + 2).toNat)), .int (iI (xs (i + 3).toNat))]) (rest := []) rfl rfl (by decide) s_363 rfl) h2 ?_
  refine l_s6 hG (z_31 rfl) ?_
  refine l_a2 hG (z_31 rfl) ?_
  refine l_call (dk := 0) (dn := 0) hG (z_31 rfl) rfl (by decide) q_159 (rArg_v (As := []) (rest := []) rfl rfl (by decide) s_363 rfl) (thr_159 (by omega)) ?_
  refine l_i5 hG (z_31 rfl) ?_
  refine l_eqt hG (z_31 rfl) rfl h3 ?_
  refine l_i5 hG (z_31 rfl) ?_
  by_cases hk : k = 0
  · have hw := h5 hk
    subst hk
    refine l_nz_f hG (z_31 rfl) rfl ?_
    refine l_a3 hG (z_31 rfl) ?_
    refine l_con hG (z_31 rfl) ?_
    refine l_lald hG (z_31 rfl) ?_
    refine l_i6 hG (z_31 rfl) ?_
    refine l_i2l hG (z_31 rfl) ?_
    rw [hw]
    refine l_lcm (x := (iI v).toInt64) hG (z_31 rfl) ?_
    refine l_z_t hG (z_31 rfl) rfl rfl ?_
    refine l_go hG (z_31 rfl) rfl ?_
    exact hnext _ _ _ _ _ h4
  · refine l_nz_t hG (z_31 rfl) rfl (fun e => hk (by rw [iI_eq (by omega) (by omega)] at e; omega)) ?_
    refine l_go hG (z_31 rfl) rfl ?_
    exact hnext _ _ _ _ _ h4
theorem cs_31 (hG : lCl d n xs G) (hd : 201 ≤ d) (hxs : ∀ j, i32 (xs j)) (hi : 0 ≤ i ∧ i + 8 ≤ n) (hR : RR m q) (hnext : ∀ (m' : Nat → Nat → Int) (q' : Nat → Nat → Option Nat) (w' : Nat → Int64) (v5 v6 : Option Value), RR m' q' → G 2315 (lLp i v5 v6) [] (mk m' q' (some w')) K N) : G 2043 (lLp i u5 u6) [] (mk m q (some w)) (K + 1) (N + 6) := by
  obtain ⟨k, v, m1, q1, w1, m2, dk, dn, k2, d1, d2, h1, h2, h3, h4, h5⟩ := P_301 (hxs (i + 1).toNat) (hxs (i + 2).toNat) (hxs (i + 3).toNat) (hxs (i + 4).toNat) m q w hR d hd
  refine hG.2.2.2 _ _ _ _ (K + dk) (N + dn) _ _ (by omega) (by omega) ?_
  refine l_a1 hG (z_32 rfl) ?_
  refine l_ar hG (z_32 rfl) (z_32 rfl) (z_32 rfl) (z_32 rfl) (z_32 rfl) (by omega) ?_
  refine l_ar hG (z_32 rfl) (z_32 rfl) (z_32 rfl) (z_32 rfl) (z_32 rfl) (by omega) ?_
  refine l_ar hG (z_32 rfl) (z_32 rfl) (z_32 rfl) (z_32 rfl) (z_32 rfl) (by omega) ?_
  refine l_ar hG (z_32 rfl) (z_32 rfl) (z_32 rfl) (z_32 rfl) (z_32 rfl) (by omega) ?_
  refine l_a3 hG (z_32 rfl) ?_
  refine l_call hG (z_32 rfl) rfl (by decide) q_301 (rArg_s (As := [.ref 100, .int (iI (xs (i + 1).toNat)), .int (iI (xs (i + 2).toNat)), .int (iI (xs (i + 3).toNat)), .int (iI (xs (i + 4).toNat)), .ref 391]) (rest := []) (by decide) rfl rfl (by decide)) h1 ?_
  refine l_s5 hG (z_32 rfl) ?_
  refine l_a2 hG (z_32 rfl) ?_
  refine l_ar hG (z_32 rfl) (z_32 rfl) (z_32 rfl) (z_32 rfl) (z_32 rfl) (by omega) ?_
  refine l_ar hG (z_32 rfl) (z_32 rfl) (z_32 rfl) (z_32 rfl) (z_32 rfl) (by omega) ?_
  refine l_ar hG (z_32 rfl) (z_32 rfl) (z_32 rfl) (z_32 rfl) (z_32 rfl) (by omega) ?_
  refine l_ar hG (z_32 rfl) (z_32 rfl) (z_32 rfl) (z_32 rfl) (z_32 rfl) (by omega) ?_
  refine l_call (dk := 0) (dn := 0) hG (z_32 rfl) rfl (by decide) q_266 (rArg_v (As := [.int (iI (xs (i + 1).toNat)), .int (iI (xs (i + 2).toNat)), .int (iI (xs (i + 3).toNat)), .int (iI (xs (i + 4).toNat))]) (rest := []) rfl rfl (by decide) s_363 rfl) h2 ?_
  refine l_s6 hG (z_32 rfl) ?_
  refine l_a2 hG (z_32 rfl) ?_
  refine l_call (dk := 0) (dn := 0) hG (z_32 rfl) rfl (by decide) q_159 (rArg_v (As := []) (rest := []) rfl rfl (by decide) s_363 rfl) (thr_159 (by omega)) ?_
  refine l_i5 hG (z_32 rfl) ?_
  refine l_eqt hG (z_32 rfl) rfl h3 ?_
  refine l_i5 hG (z_32 rfl) ?_
  by_cases hk : k = 0
  · have hw := h5 hk
    subst hk
    refine l_nz_f hG (z_32 rfl) rfl ?_
    refine l_a3 hG (z_32 rfl) ?_
    refine l_con hG (z_32 rfl) ?_
    refine l_lald hG (z_32 rfl) ?_
    refine l_i6 hG (z_32 rfl) ?_
    refine l_i2l hG (z_32 rfl) ?_
    rw [hw]
    refine l_lcm (x := (iI v).toInt64) hG (z_32 rfl) ?_
    refine l_z_t hG (z_32 rfl) rfl rfl ?_
    refine l_go hG (z_32 rfl) rfl ?_
    exact hnext _ _ _ _ _ h4
  · refine l_nz_t hG (z_32 rfl) rfl (fun e => hk (by rw [iI_eq (by omega) (by omega)] at e; omega)) ?_
    refine l_go hG (z_32 rfl) rfl ?_
    exact hnext _ _ _ _ _ h4
theorem cs_32 (hG : lCl d n xs G) (hd : 201 ≤ d) (hxs : ∀ j, i32 (xs j)) (hi : 0 ≤ i ∧ i + 8 ≤ n) (hR : RR m q) (hnext : ∀ (m' : Nat → Nat → Int) (q' : Nat → Nat → Option Nat) (w' : Nat → Int64) (v5 v6 : Option Value), RR m' q' → G 2315 (lLp i v5 v6) [] (mk m' q' (some w')) K N) : G 2135 (lLp i u5 u6) [] (mk m q (some w)) (K + 1) (N + 6) := by
  obtain ⟨k, v, m1, q1, w1, m2, dk, dn, k2, d1, d2, h1, h2, h3, h4, h5⟩ := P_302 (hxs (i + 1).toNat) (hxs (i + 2).toNat) (hxs (i + 3).toNat) (hxs (i + 4).toNat) (hxs (i + 5).toNat) m q w hR d hd
  refine hG.2.2.2 _ _ _ _ (K + dk) (N + dn) _ _ (by omega) (by omega) ?_
  refine l_a1 hG (z_33 rfl) ?_
  refine l_ar hG (z_33 rfl) (z_33 rfl) (z_33 rfl) (z_33 rfl) (z_33 rfl) (by omega) ?_
  refine l_ar hG (z_33 rfl) (z_33 rfl) (z_33 rfl) (z_33 rfl) (z_33 rfl) (by omega) ?_
  refine l_ar hG (z_33 rfl) (z_33 rfl) (z_33 rfl) (z_33 rfl) (z_33 rfl) (by omega) ?_
  refine l_ar hG (z_33 rfl) (z_33 rfl) (z_33 rfl) (z_33 rfl) (z_33 rfl) (by omega) ?_
  refine l_ar hG (z_33 rfl) (z_33 rfl) (z_33 rfl) (z_33 rfl) (z_33 rfl) (by omega) ?_
  refine l_a3 hG (z_33 rfl) ?_
  refine l_call hG (z_33 rfl) rfl (by decide) q_302 (rArg_s (As := [.ref 100, .int (iI (xs (i + 1).toNat)), .int (iI (xs (i + 2).toNat)), .int (iI (xs (i + 3).toNat)), .int (iI (xs (i + 4).toNat)), .int (iI (xs (i + 5).toNat)), .ref 391]) (rest := []) (by decide) rfl rfl (by decide)) h1 ?_
  refine l_s5 hG (z_33 rfl) ?_
  refine l_a2 hG (z_33 rfl) ?_
  refine l_ar hG (z_33 rfl) (z_33 rfl) (z_33 rfl) (z_33 rfl) (z_33 rfl) (by omega) ?_
  refine l_ar hG (z_33 rfl) (z_33 rfl) (z_33 rfl) (z_33 rfl) (z_33 rfl) (by omega) ?_
  refine l_ar hG (z_33 rfl) (z_33 rfl) (z_33 rfl) (z_33 rfl) (z_33 rfl) (by omega) ?_
  refine l_ar hG (z_33 rfl) (z_33 rfl) (z_33 rfl) (z_33 rfl) (z_33 rfl) (by omega) ?_
  refine l_ar hG (z_33 rfl) (z_33 rfl) (z_33 rfl) (z_33 rfl) (z_33 rfl) (by omega) ?_
  refine l_call (dk := 0) (dn := 0) hG (z_33 rfl) rfl (by decide) q_267 (rArg_v (As := [.int (iI (xs (i + 1).toNat)), .int (iI (xs (i + 2).toNat)), .int (iI (xs (i + 3).toNat)), .int (iI (xs (i + 4).toNat)), .int (iI (xs (i + 5).toNat))]) (rest := []) rfl rfl (by decide) s_363 rfl) h2 ?_
  refine l_s6 hG (z_33 rfl) ?_
  refine l_a2 hG (z_33 rfl) ?_
  refine l_call (dk := 0) (dn := 0) hG (z_33 rfl) rfl (by decide) q_159 (rArg_v (As := []) (rest := []) rfl rfl (by decide) s_363 rfl) (thr_159 (by omega)) ?_
  refine l_i5 hG (z_33 rfl) ?_
  refine l_eqt hG (z_33 rfl) rfl h3 ?_
  refine l_i5 hG (z_33 rfl) ?_
  by_cases hk : k = 0
  · have hw := h5 hk
    subst hk
    refine l_nz_f hG (z_33 rfl) rfl ?_
    refine l_a3 hG (z_33 rfl) ?_
    refine l_con hG (z_33 rfl) ?_
    refine l_lald hG (z_33 rfl) ?_
    refine l_i6 hG (z_33 rfl) ?_
    refine l_i2l hG (z_33 rfl) ?_
    rw [hw]
    refine l_lcm (x := (iI v).toInt64) hG (z_33 rfl) ?_
    refine l_z_t hG (z_33 rfl) rfl rfl ?_
    refine l_go hG (z_33 rfl) rfl ?_
    exact hnext _ _ _ _ _ h4
  · refine l_nz_t hG (z_33 rfl) rfl (fun e => hk (by rw [iI_eq (by omega) (by omega)] at e; omega)) ?_
    refine l_go hG (z_33 rfl) rfl ?_
    exact hnext _ _ _ _ _ h4
theorem cs_33 (hG : lCl d n xs G) (hd : 201 ≤ d) (hxs : ∀ j, i32 (xs j)) (hi : 0 ≤ i ∧ i + 8 ≤ n) (hR : RR m q) (hnext : ∀ (m' : Nat → Nat → Int) (q' : Nat → Nat → Option Nat) (w' : Nat → Int64) (v5 v6 : Option Value), RR m' q' → G 2315 (lLp i v5 v6) [] (mk m' q' (some w')) K N) : G 2239 (lLp i u5 u6) [] (mk m q (some w)) (K + 1) (N + 6) := by
  obtain ⟨v, m1, q1, m2, h1, h2, h3, h4⟩ := K_image m q (some w) hR d (by omega)
  refine hG.2.2.2 _ _ _ _ K N _ _ (by omega) (by omega) ?_
  refine l_a1 hG (z_34 rfl) ?_
  refine l_call (dk := 0) (dn := 0) hG (z_34 rfl) rfl (by decide) q_155 (rArg_v (As := []) (rest := []) rfl rfl (by decide) s_100 rfl) h1 ?_
  refine l_a2 hG (z_34 rfl) ?_
  refine l_call (dk := 0) (dn := 0) hG (z_34 rfl) rfl (by decide) q_270 (rArg_v (As := []) (rest := [.int (iI v)]) rfl rfl (by show 1 ≤ 8; decide) s_363 rfl) h2 ?_
  refine l_eqt hG (z_34 rfl) rfl rfl ?_
  exact hnext _ _ _ _ _ h4
theorem cs_34 (hG : lCl d n xs G) (hd : 201 ≤ d) (hxs : ∀ j, i32 (xs j)) (hi : 0 ≤ i ∧ i + 8 ≤ n) (hR : RR m q) (hnext : ∀ (m' : Nat → Nat → Int) (q' : Nat → Nat → Option Nat) (w' : Nat → Int64) (v5 v6 : Option Value), RR m' q' → G 2315 (lLp i v5 v6) [] (mk m' q' (some w')) K N) : G 2252 (lLp i u5 u6) [] (mk m q (some w)) (K + 1) (N + 6) := by
  obtain ⟨v, m1, q1, m2, h1, h2, h3, h4⟩ := K_restore m q (some w) hR d (by omega)
  refine hG.2.2.2 _ _ _ _ K N _ _ (by omega) (by omega) ?_
  refine l_a1 hG (z_35 rfl) ?_
  refine l_call (dk := 0) (dn := 0) hG (z_35 rfl) rfl (by decide) q_156 (rArg_v (As := []) (rest := []) rfl rfl (by decide) s_100 rfl) h1 ?_
  refine l_a2 hG (z_35 rfl) ?_
  refine l_call (dk := 0) (dn := 0) hG (z_35 rfl) rfl (by decide) q_271 (rArg_v (As := []) (rest := [.int (iI v)]) rfl rfl (by show 1 ≤ 8; decide) s_363 rfl) h2 ?_
  refine l_eqt hG (z_35 rfl) rfl rfl ?_
  exact hnext _ _ _ _ _ h4
theorem cs_35 (hG : lCl d n xs G) (hd : 201 ≤ d) (hxs : ∀ j, i32 (xs j)) (hi : 0 ≤ i ∧ i + 8 ≤ n) (hR : RR m q) (hnext : ∀ (m' : Nat → Nat → Int) (q' : Nat → Nat → Option Nat) (w' : Nat → Int64) (v5 v6 : Option Value), RR m' q' → G 2315 (lLp i v5 v6) [] (mk m' q' (some w')) K N) : G 2265 (lLp i u5 u6) [] (mk m q (some w)) (K + 1) (N + 6) := by
  obtain ⟨v, m1, q1, m2, h1, h2, h3, h4⟩ := (K_status (a := xs (i + 1).toNat) (hxs _)) m q (some w) hR d (by omega)
  refine hG.2.2.2 _ _ _ _ K N _ _ (by omega) (by omega) ?_
  refine l_a1 hG (z_36 rfl) ?_
  refine l_ar hG (z_36 rfl) (z_36 rfl) (z_36 rfl) (z_36 rfl) (z_36 rfl) (by omega) ?_
  refine l_call (dk := 0) (dn := 0) hG (z_36 rfl) rfl (by decide) q_157 (rArg_v (As := [.int (iI (xs (i + 1).toNat))]) (rest := []) rfl rfl (by decide) s_100 rfl) h1 ?_
  refine l_a2 hG (z_36 rfl) ?_
  refine l_ar hG (z_36 rfl) (z_36 rfl) (z_36 rfl) (z_36 rfl) (z_36 rfl) (by omega) ?_
  refine l_call (dk := 0) (dn := 0) hG (z_36 rfl) rfl (by decide) q_272 (rArg_v (As := [.int (iI (xs (i + 1).toNat))]) (rest := [.int (iI v)]) rfl rfl (by show 1 ≤ 8; decide) s_363 rfl) h2 ?_
  refine l_eqt hG (z_36 rfl) rfl rfl ?_
  exact hnext _ _ _ _ _ h4
theorem cs_36 (hG : lCl d n xs G) (hd : 201 ≤ d) (hxs : ∀ j, i32 (xs j)) (hi : 0 ≤ i ∧ i + 8 ≤ n) (hR : RR m q) (hnext : ∀ (m' : Nat → Nat → Int) (q' : Nat → Nat → Option Nat) (w' : Nat → Int64) (v5 v6 : Option Value), RR m' q' → G 2315 (lLp i v5 v6) [] (mk m' q' (some w')) K N) : G 2290 (lLp i u5 u6) [] (mk m q (some w)) (K + 1) (N + 6) := by
  obtain ⟨v, m1, q1, m2, h1, h2, h3, h4⟩ := (K_count (a := xs (i + 1).toNat) (hxs _)) m q (some w) hR d (by omega)
  refine hG.2.2.2 _ _ _ _ K N _ _ (by omega) (by omega) ?_
  refine l_a1 hG (z_37 rfl) ?_
  refine l_ar hG (z_37 rfl) (z_37 rfl) (z_37 rfl) (z_37 rfl) (z_37 rfl) (by omega) ?_
  refine l_call (dk := 0) (dn := 0) hG (z_37 rfl) rfl (by decide) q_158 (rArg_v (As := [.int (iI (xs (i + 1).toNat))]) (rest := []) rfl rfl (by decide) s_100 rfl) h1 ?_
  refine l_a2 hG (z_37 rfl) ?_
  refine l_ar hG (z_37 rfl) (z_37 rfl) (z_37 rfl) (z_37 rfl) (z_37 rfl) (by omega) ?_
  refine l_call (dk := 0) (dn := 0) hG (z_37 rfl) rfl (by decide) q_273 (rArg_v (As := [.int (iI (xs (i + 1).toNat))]) (rest := [.int (iI v)]) rfl rfl (by show 1 ≤ 8; decide) s_363 rfl) h2 ?_
  refine l_eqt hG (z_37 rfl) rfl rfl ?_
  exact hnext _ _ _ _ _ h4
end G
