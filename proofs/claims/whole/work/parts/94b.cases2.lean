/-! ===== the law's cases ===== -/
section G
variable {d n : Nat} {xs : Nat → Int} {G : lG} {K N : Nat} {i : Int} {u5 u6 : Option Value} {m : Nat → Nat → Int} {q : Nat → Nat → Option Nat} {w : Nat → Int64}
theorem cs_10 (hG : lCl d n xs G) (hd : 201 ≤ d) (hxs : ∀ j, i32 (xs j)) (hi : 0 ≤ i ∧ i + 8 ≤ n) (hR : RR m q) (hnext : ∀ (m' : Nat → Nat → Int) (q' : Nat → Nat → Option Nat) (w' : Nat → Int64) (v5 v6 : Option Value), RR m' q' → G 2315 (lLp i v5 v6) [] (mk m' q' (some w')) K N) : G 719 (lLp i u5 u6) [] (mk m q (some w)) (K + 1) (N + 6) := by
  obtain ⟨k, v, m1, q1, w1, m2, dk, dn, k2, d1, d2, h1, h2, h3, h4, h5⟩ := P_281 (hxs (i + 1).toNat) m q w hR d hd
  refine hG.2.2.2 _ _ _ _ (K + dk) (N + dn) _ _ (by omega) (by omega) ?_
  refine l_a1 hG (z_11 rfl) ?_
  refine l_ar hG (z_11 rfl) (z_11 rfl) (z_11 rfl) (z_11 rfl) (z_11 rfl) (by omega) ?_
  refine l_a3 hG (z_11 rfl) ?_
  refine l_call hG (z_11 rfl) rfl (by decide) q_281 (rArg_s (As := [.ref 100, .int (iI (xs (i + 1).toNat)), .ref 391]) (rest := []) (by decide) rfl rfl (by decide)) h1 ?_
  refine l_s5 hG (z_11 rfl) ?_
  refine l_a2 hG (z_11 rfl) ?_
  refine l_ar hG (z_11 rfl) (z_11 rfl) (z_11 rfl) (z_11 rfl) (z_11 rfl) (by omega) ?_
  refine l_call (dk := 0) (dn := 0) hG (z_11 rfl) rfl (by decide) q_227 (rArg_v (As := [.int (iI (xs (i + 1).toNat))]) (rest := []) rfl rfl (by decide) s_363 rfl) h2 ?_
  refine l_s6 hG (z_11 rfl) ?_
  refine l_a2 hG (z_11 rfl) ?_
  refine l_call (dk := 0) (dn := 0) hG (z_11 rfl) rfl (by decide) q_159 (rArg_v (As := []) (rest := []) rfl rfl (by decide) s_363 rfl) (thr_159 (by omega)) ?_
  refine l_i5 hG (z_11 rfl) ?_
  refine l_eqt hG (z_11 rfl) rfl h3 ?_
  refine l_i5 hG (z_11 rfl) ?_
  by_cases hk : k = 0
  · have hw := h5 hk
    subst hk
    refine l_nz_f hG (z_11 rfl) rfl ?_
    refine l_a3 hG (z_11 rfl) ?_
    refine l_con hG (z_11 rfl) ?_
    refine l_lald hG (z_11 rfl) ?_
    refine l_i6 hG (z_11 rfl) ?_
    refine l_i2l hG (z_11 rfl) ?_
    rw [hw]
    refine l_lcm (x := (iI v).toInt64) hG (z_11 rfl) ?_
    refine l_z_t hG (z_11 rfl) rfl rfl ?_
    refine l_go hG (z_11 rfl) rfl ?_
    exact hnext _ _ _ _ _ h4
  · refine l_nz_t hG (z_11 rfl) rfl (fun e => hk (by rw [iI_eq (by omega) (by omega)] at e; omega)) ?_
    refine l_go hG (z_11 rfl) rfl ?_
    exact hnext _ _ _ _ _ h4
theorem cs_11 (hG : lCl d n xs G) (hd : 201 ≤ d) (hxs : ∀ j, i32 (xs j)) (hi : 0 ≤ i ∧ i + 8 ≤ n) (hR : RR m q) (hnext : ∀ (m' : Nat → Nat → Int) (q' : Nat → Nat → Option Nat) (w' : Nat → Int64) (v5 v6 : Option Value), RR m' q' → G 2315 (lLp i v5 v6) [] (mk m' q' (some w')) K N) : G 775 (lLp i u5 u6) [] (mk m q (some w)) (K + 1) (N + 6) := by
  obtain ⟨k, v, m1, q1, w1, m2, dk, dn, k2, d1, d2, h1, h2, h3, h4, h5⟩ := P_282 (hxs (i + 1).toNat) (hxs (i + 2).toNat) m q w hR d hd
  refine hG.2.2.2 _ _ _ _ (K + dk) (N + dn) _ _ (by omega) (by omega) ?_
  refine l_a1 hG (z_12 rfl) ?_
  refine l_ar hG (z_12 rfl) (z_12 rfl) (z_12 rfl) (z_12 rfl) (z_12 rfl) (by omega) ?_
  refine l_ar hG (z_12 rfl) (z_12 rfl) (z_12 rfl) (z_12 rfl) (z_12 rfl) (by omega) ?_
  refine l_a3 hG (z_12 rfl) ?_
  refine l_call hG (z_12 rfl) rfl (by decide) q_282 (rArg_s (As := [.ref 100, .int (iI (xs (i + 1).toNat)), .int (iI (xs (i + 2).toNat)), .ref 391]) (rest := []) (by decide) rfl rfl (by decide)) h1 ?_
  refine l_s5 hG (z_12 rfl) ?_
  refine l_a2 hG (z_12 rfl) ?_
  refine l_ar hG (z_12 rfl) (z_12 rfl) (z_12 rfl) (z_12 rfl) (z_12 rfl) (by omega) ?_
  refine l_ar hG (z_12 rfl) (z_12 rfl) (z_12 rfl) (z_12 rfl) (z_12 rfl) (by omega) ?_
  refine l_call (dk := 0) (dn := 0) hG (z_12 rfl) rfl (by decide) q_228 (rArg_v (As := [.int (iI (xs (i + 1).toNat)), .int (iI (xs (i + 2).toNat))]) (rest := []) rfl rfl (by decide) s_363 rfl) h2 ?_
  refine l_s6 hG (z_12 rfl) ?_
  refine l_a2 hG (z_12 rfl) ?_
  refine l_call (dk := 0) (dn := 0) hG (z_12 rfl) rfl (by decide) q_159 (rArg_v (As := []) (rest := []) rfl rfl (by decide) s_363 rfl) (thr_159 (by omega)) ?_
  refine l_i5 hG (z_12 rfl) ?_
  refine l_eqt hG (z_12 rfl) rfl h3 ?_
  refine l_i5 hG (z_12 rfl) ?_
  by_cases hk : k = 0
  · have hw := h5 hk
    subst hk
    refine l_nz_f hG (z_12 rfl) rfl ?_
    refine l_a3 hG (z_12 rfl) ?_
    refine l_con hG (z_12 rfl) ?_
    refine l_lald hG (z_12 rfl) ?_
    refine l_i6 hG (z_12 rfl) ?_
    refine l_i2l hG (z_12 rfl) ?_
    rw [hw]
    refine l_lcm (x := (iI v).toInt64) hG (z_12 rfl) ?_
    refine l_z_t hG (z_12 rfl) rfl rfl ?_
    refine l_go hG (z_12 rfl) rfl ?_
    exact hnext _ _ _ _ _ h4
  · refine l_nz_t hG (z_12 rfl) rfl (fun e => hk (by rw [iI_eq (by omega) (by omega)] at e; omega)) ?_
    refine l_go hG (z_12 rfl) rfl ?_
    exact hnext _ _ _ _ _ h4
theorem cs_12 (hG : lCl d n xs G) (hd : 201 ≤ d) (hxs : ∀ j, i32 (xs j)) (hi : 0 ≤ i ∧ i + 8 ≤ n) (hR : RR m q) (hnext : ∀ (m' : Nat → Nat → Int) (q' : Nat → Nat → Option Nat) (w' : Nat → Int64) (v5 v6 : Option Value), RR m' q' → G 2315 (lLp i v5 v6) [] (mk m' q' (some w')) K N) : G 843 (lLp i u5 u6) [] (mk m q (some w)) (K + 1) (N + 6) := by
  obtain ⟨k, v, m1, q1, w1, m2, dk, dn, k2, d1, d2, h1, h2, h3, h4, h5⟩ := P_283 (hxs (i + 1).toNat) (hxs (i + 2).toNat) (hxs (i + 3).toNat) (hxs (i + 4).toNat) (hxs (i + 5).toNat) (hxs (i + 6).toNat) (hxs (i + 7).toNat) m q w hR d hd
  refine hG.2.2.2 _ _ _ _ (K + dk) (N + dn) _ _ (by omega) (by omega) ?_
  refine l_a1 hG (z_13 rfl) ?_
  refine l_ar hG (z_13 rfl) (z_13 rfl) (z_13 rfl) (z_13 rfl) (z_13 rfl) (by omega) ?_
  refine l_ar hG (z_13 rfl) (z_13 rfl) (z_13 rfl) (z_13 rfl) (z_13 rfl) (by omega) ?_
  refine l_ar hG (z_13 rfl) (z_13 rfl) (z_13 rfl) (z_13 rfl) (z_13 rfl) (by omega) ?_
  refine l_ar hG (z_13 rfl) (z_13 rfl) (z_13 rfl) (z_13 rfl) (z_13 rfl) (by omega) ?_
  refine l_ar hG (z_13 rfl) (z_13 rfl) (z_13 rfl) (z_13 rfl) (z_13 rfl) (by omega) ?_
  refine l_ab hG (z_13 rfl) (z_13 rfl) (z_13 rfl) (z_13 rfl) (z_13 rfl) (by decide) (by omega) ?_
  refine l_ab hG (z_13 rfl) (z_13 rfl) (z_13 rfl) (z_13 rfl) (z_13 rfl) (by decide) (by omega) ?_
  refine l_a3 hG (z_13 rfl) ?_
  refine l_call hG (z_13 rfl) rfl (by decide) q_283 (rArg_s (As := [.ref 100, .int (iI (xs (i + 1).toNat)), .int (iI (xs (i + 2).toNat)), .int (iI (xs (i + 3).toNat)), .int (iI (xs (i + 4).toNat)), .int (iI (xs (i + 5).toNat)), .int (iI (xs (i + 6).toNat)), .int (iI (xs (i + 7).toNat)), .ref 391]) (rest := []) (by decide) rfl rfl (by decide)) h1 ?_
  refine l_s5 hG (z_13 rfl) ?_
  refine l_a2 hG (z_13 rfl) ?_
  refine l_ar hG (z_13 rfl) (z_13 rfl) (z_13 rfl) (z_13 rfl) (z_13 rfl) (by omega) ?_
  refine l_ar hG (z_13 rfl) (z_13 rfl) (z_13 rfl) (z_13 rfl) (z_13 rfl) (by omega) ?_
  refine l_ar hG (z_13 rfl) (z_13 rfl) (z_13 rfl) (z_13 rfl) (z_13 rfl) (by omega) ?_
  refine l_ar hG (z_13 rfl) (z_13 rfl) (z_13 rfl) (z_13 rfl) (z_13 rfl) (by omega) ?_
  refine l_ar hG (z_13 rfl) (z_13 rfl) (z_13 rfl) (z_13 rfl) (z_13 rfl) (by omega) ?_
  refine l_ab hG (z_13 rfl) (z_13 rfl) (z_13 rfl) (z_13 rfl) (z_13 rfl) (by decide) (by omega) ?_
  refine l_ab hG (z_13 rfl) (z_13 rfl) (z_13 rfl) (z_13 rfl) (z_13 rfl) (by decide) (by omega) ?_
  refine l_call (dk := 0) (dn := 0) hG (z_13 rfl) rfl (by decide) q_229 (rArg_v (As := [.int (iI (xs (i + 1).toNat)), .int (iI (xs (i + 2).toNat)), .int (iI (xs (i + 3).toNat)), .int (iI (xs (i + 4).toNat)), .int (iI (xs (i + 5).toNat)), .int (iI (xs (i + 6).toNat)), .int (iI (xs (i + 7).toNat))]) (rest := []) rfl rfl (by decide) s_363 rfl) h2 ?_
  refine l_s6 hG (z_13 rfl) ?_
  refine l_a2 hG (z_13 rfl) ?_
  refine l_call (dk := 0) (dn := 0) hG (z_13 rfl) rfl (by decide) q_159 (rArg_v (As := []) (rest := []) rfl rfl (by decide) s_363 rfl) (thr_159 (by omega)) ?_
  refine l_i5 hG (z_13 rfl) ?_
  refine l_eqt hG (z_13 rfl) rfl h3 ?_
  refine l_i5 hG (z_13 rfl) ?_
  by_cases hk : k = 0
  · have hw := h5 hk
    subst hk
    refine l_nz_f hG (z_13 rfl) rfl ?_
    refine l_a3 hG (z_13 rfl) ?_
    refine l_con hG (z_13 rfl) ?_
    refine l_lald hG (z_13 rfl) ?_
    refine l_i6 hG (z_13 rfl) ?_
    refine l_i2l hG (z_13 rfl) ?_
    rw [hw]
    refine l_lcm (x := (iI v).toInt64) hG (z_13 rfl) ?_
    refine l_z_t hG (z_13 rfl) rfl rfl ?_
    refine l_go hG (z_13 rfl) rfl ?_
    exact hnext _ _ _ _ _ h4
  · refine l_nz_t hG (z_13 rfl) rfl (fun e => hk (by rw [iI_eq (by omega) (by omega)] at e; omega)) ?_
    refine l_go hG (z_13 rfl) rfl ?_
    exact hnext _ _ _ _ _ h4
theorem cs_13 (hG : lCl d n xs G) (hd : 201 ≤ d) (hxs : ∀ j, i32 (xs j)) (hi : 0 ≤ i ∧ i + 8 ≤ n) (hR : RR m q) (hnext : ∀ (m' : Nat → Nat → Int) (q' : Nat → Nat → Option Nat) (w' : Nat → Int64) (v5 v6 : Option Value), RR m' q' → G 2315 (lLp i v5 v6) [] (mk m' q' (some w')) K N) : G 975 (lLp i u5 u6) [] (mk m q (some w)) (K + 1) (N + 6) := by
  obtain ⟨k, v, m1, q1, w1, m2, dk, dn, k2, d1, d2, h1, h2, h3, h4, h5⟩ := P_284 (hxs (i + 1).toNat) (hxs (i + 2).toNat) m q w hR d hd
  refine hG.2.2.2 _ _ _ _ (K + dk) (N + dn) _ _ (by omega) (by omega) ?_
  refine l_a1 hG (z_14 rfl) ?_
  refine l_ar hG (z_14 rfl) (z_14 rfl) (z_14 rfl) (z_14 rfl) (z_14 rfl) (by omega) ?_
  refine l_ar hG (z_14 rfl) (z_14 rfl) (z_14 rfl) (z_14 rfl) (z_14 rfl) (by omega) ?_
  refine l_a3 hG (z_14 rfl) ?_
  refine l_call hG (z_14 rfl) rfl (by decide) q_284 (rArg_s (As := [.ref 100, .int (iI (xs (i + 1).toNat)), .int (iI (xs (i + 2).toNat)), .ref 391]) (rest := []) (by decide) rfl rfl (by decide)) h1 ?_
  refine l_s5 hG (z_14 rfl) ?_
  refine l_a2 hG (z_14 rfl) ?_
  refine l_ar hG (z_14 rfl) (z_14 rfl) (z_14 rfl) (z_14 rfl) (z_14 rfl) (by omega) ?_
  refine l_ar hG (z_14 rfl) (z_14 rfl) (z_14 rfl) (z_14 rfl) (z_14 rfl) (by omega) ?_
  refine l_call (dk := 0) (dn := 0) hG (z_14 rfl) rfl (by decide) q_230 (rArg_v (As := [.int (iI (xs (i + 1).toNat)), .int (iI (xs (i + 2).toNat))]) (rest := []) rfl rfl (by decide) s_363 rfl) h2 ?_
  refine l_s6 hG (z_14 rfl) ?_
  refine l_a2 hG (z_14 rfl) ?_
  refine l_call (dk := 0) (dn := 0) hG (z_14 rfl) rfl (by decide) q_159 (rArg_v (As := []) (rest := []) rfl rfl (by decide) s_363 rfl) (thr_159 (by omega)) ?_
  refine l_i5 hG (z_14 rfl) ?_
  refine l_eqt hG (z_14 rfl) rfl h3 ?_
  refine l_i5 hG (z_14 rfl) ?_
  by_cases hk : k = 0
  · have hw := h5 hk
    subst hk
    refine l_nz_f hG (z_14 rfl) rfl ?_
    refine l_a3 hG (z_14 rfl) ?_
    refine l_con hG (z_14 rfl) ?_
    refine l_lald hG (z_14 rfl) ?_
    refine l_i6 hG (z_14 rfl) ?_
    refine l_i2l hG (z_14 rfl) ?_
    rw [hw]
    refine l_lcm (x := (iI v).toInt64) hG (z_14 rfl) ?_
    refine l_z_t hG (z_14 rfl) rfl rfl ?_
    refine l_go hG (z_14 rfl) rfl ?_
    exact hnext _ _ _ _ _ h4
  · refine l_nz_t hG (z_14 rfl) rfl (fun e => hk (by rw [iI_eq (by omega) (by omega)] at e; omega)) ?_
    refine l_go hG (z_14 rfl) rfl ?_
    exact hnext _ _ _ _ _ h4
theorem cs_14 (hG : lCl d n xs G) (hd : 201 ≤ d) (hxs : ∀ j, i32 (xs j)) (hi : 0 ≤ i ∧ i + 8 ≤ n) (hR : RR m q) (hnext : ∀ (m' : Nat → Nat → Int) (q' : Nat → Nat → Option Nat) (w' : Nat → Int64) (v5 v6 : Option Value), RR m' q' → G 2315 (lLp i v5 v6) [] (mk m' q' (some w')) K N) : G 1043 (lLp i u5 u6) [] (mk m q (some w)) (K + 1) (N + 6) := by
  obtain ⟨k, v, m1, q1, w1, m2, dk, dn, k2, d1, d2, h1, h2, h3, h4, h5⟩ := P_285 (hxs (i + 1).toNat) m q w hR d hd
  refine hG.2.2.2 _ _ _ _ (K + dk) (N + dn) _ _ (by omega) (by omega) ?_
  refine l_a1 hG (z_15 rfl) ?_
  refine l_ar hG (z_15 rfl) (z_15 rfl) (z_15 rfl) (z_15 rfl) (z_15 rfl) (by omega) ?_
  refine l_a3 hG (z_15 rfl) ?_
  refine l_call hG (z_15 rfl) rfl (by decide) q_285 (rArg_s (As := [.ref 100, .int (iI (xs (i + 1).toNat)), .ref 391]) (rest := []) (by decide) rfl rfl (by decide)) h1 ?_
  refine l_s5 hG (z_15 rfl) ?_
  refine l_a2 hG (z_15 rfl) ?_
  refine l_ar hG (z_15 rfl) (z_15 rfl) (z_15 rfl) (z_15 rfl) (z_15 rfl) (by omega) ?_
  refine l_call (dk := 0) (dn := 0) hG (z_15 rfl) rfl (by decide) q_231 (rArg_v (As := [.int (iI (xs (i + 1).toNat))]) (rest := []) rfl rfl (by decide) s_363 rfl) h2 ?_
  refine l_s6 hG (z_15 rfl) ?_
  refine l_a2 hG (z_15 rfl) ?_
  refine l_call (dk := 0) (dn := 0) hG (z_15 rfl) rfl (by decide) q_159 (rArg_v (As := []) (rest := []) rfl rfl (by decide) s_363 rfl) (thr_159 (by omega)) ?_
  refine l_i5 hG (z_15 rfl) ?_
  refine l_eqt hG (z_15 rfl) rfl h3 ?_
  refine l_i5 hG (z_15 rfl) ?_
  by_cases hk : k = 0
  · have hw := h5 hk
    subst hk
    refine l_nz_f hG (z_15 rfl) rfl ?_
    refine l_a3 hG (z_15 rfl) ?_
    refine l_con hG (z_15 rfl) ?_
    refine l_lald hG (z_15 rfl) ?_
    refine l_i6 hG (z_15 rfl) ?_
    refine l_i2l hG (z_15 rfl) ?_
    rw [hw]
    refine l_lcm (x := (iI v).toInt64) hG (z_15 rfl) ?_
    refine l_z_t hG (z_15 rfl) rfl rfl ?_
    refine l_go hG (z_15 rfl) rfl ?_
    exact hnext _ _ _ _ _ h4
  · refine l_nz_t hG (z_15 rfl) rfl (fun e => hk (by rw [iI_eq (by omega) (by omega)] at e; omega)) ?_
    refine l_go hG (z_15 rfl) rfl ?_
    exact hnext _ _ _ _ _ h4
theorem cs_15 (hG : lCl d n xs G) (hd : 201 ≤ d) (hxs : ∀ j, i32 (xs j)) (hi : 0 ≤ i ∧ i + 8 ≤ n) (hR : RR m q) (hnext : ∀ (m' : Nat → Nat → Int) (q' : Nat → Nat → Option Nat) (w' : Nat → Int64) (v5 v6 : Option Value), RR m' q' → G 2315 (lLp i v5 v6) [] (mk m' q' (some w')) K N) : G 1099 (lLp i u5 u6) [] (mk m q (some w)) (K + 1) (N + 6) := by
  obtain ⟨k, v, m1, q1, w1, m2, dk, dn, k2, d1, d2, h1, h2, h3, h4, h5⟩ := P_286 (hxs (i + 1).toNat) m q w hR d hd
  refine hG.2.2.2 _ _ _ _ (K + dk) (N + dn) _ _ (by omega) (by omega) ?_
  refine l_a1 hG (z_16 rfl) ?_
  refine l_ar hG (z_16 rfl) (z_16 rfl) (z_16 rfl) (z_16 rfl) (z_16 rfl) (by omega) ?_
  refine l_a3 hG (z_16 rfl) ?_
  refine l_call hG (z_16 rfl) rfl (by decide) q_286 (rArg_s (As := [.ref 100, .int (iI (xs (i + 1).toNat)), .ref 391]) (rest := []) (by decide) rfl rfl (by decide)) h1 ?_
  refine l_s5 hG (z_16 rfl) ?_
  refine l_a2 hG (z_16 rfl) ?_
  refine l_ar hG (z_16 rfl) (z_16 rfl) (z_16 rfl) (z_16 rfl) (z_16 rfl) (by omega) ?_
  refine l_call (dk := 0) (dn := 0) hG (z_16 rfl) rfl (by decide) q_232 (rArg_v (As := [.int (iI (xs (i + 1).toNat))]) (rest := []) rfl rfl (by decide) s_363 rfl) h2 ?_
  refine l_s6 hG (z_16 rfl) ?_
  refine l_a2 hG (z_16 rfl) ?_
  refine l_call (dk := 0) (dn := 0) hG (z_16 rfl) rfl (by decide) q_159 (rArg_v (As := []) (rest := []) rfl rfl (by decide) s_363 rfl) (thr_159 (by omega)) ?_
  refine l_i5 hG (z_16 rfl) ?_
  refine l_eqt hG (z_16 rfl) rfl h3 ?_
  refine l_i5 hG (z_16 rfl) ?_
  by_cases hk : k = 0
  · have hw := h5 hk
    subst hk
    refine l_nz_f hG (z_16 rfl) rfl ?_
    refine l_a3 hG (z_16 rfl) ?_
    refine l_con hG (z_16 rfl) ?_
    refine l_lald hG (z_16 rfl) ?_
    refine l_i6 hG (z_16 rfl) ?_
    refine l_i2l hG (z_16 rfl) ?_
    rw [hw]
    refine l_lcm (x := (iI v).toInt64) hG (z_16 rfl) ?_
    refine l_z_t hG (z_16 rfl) rfl rfl ?_
    refine l_go hG (z_16 rfl) rfl ?_
    exact hnext _ _ _ _ _ h4
  · refine l_nz_t hG (z_16 rfl) rfl (fun e => hk (by rw [iI_eq (by omega) (by omega)] at e; omega)) ?_
    refine l_go hG (z_16 rfl) rfl ?_
    exact hnext _ _ _ _ _ h4
theorem cs_16 (hG : lCl d n xs G) (hd : 201 ≤ d) (hxs : ∀ j, i32 (xs j)) (hi : 0 ≤ i ∧ i + 8 ≤ n) (hR : RR m q) (hnext : ∀ (m' : Nat → Nat → Int) (q' : Nat → Nat → Option Nat) (w' : Nat → Int64) (v5 v6 : Option Value), RR m' q' → G 2315 (lLp i v5 v6) [] (mk m' q' (some w')) K N) : G 1155 (lLp i u5 u6) [] (mk m q (some w)) (K + 1) (N + 6) := by
  obtain ⟨k, v, m1, q1, w1, m2, dk, dn, k2, d1, d2, h1, h2, h3, h4, h5⟩ := P_287 (hxs (i + 1).toNat) m q w hR d hd
  refine hG.2.2.2 _ _ _ _ (K + dk) (N + dn) _ _ (by omega) (by omega) ?_
  refine l_a1 hG (z_17 rfl) ?_
  refine l_ar hG (z_17 rfl) (z_17 rfl) (z_17 rfl) (z_17 rfl) (z_17 rfl) (by omega) ?_
  refine l_a3 hG (z_17 rfl) ?_
  refine l_call hG (z_17 rfl) rfl (by decide) q_287 (rArg_s (As := [.ref 100, .int (iI (xs (i + 1).toNat)), .ref 391]) (rest := []) (by decide) rfl rfl (by decide)) h1 ?_
  refine l_s5 hG (z_17 rfl) ?_
  refine l_a2 hG (z_17 rfl) ?_
  refine l_ar hG (z_17 rfl) (z_17 rfl) (z_17 rfl) (z_17 rfl) (z_17 rfl) (by omega) ?_
  refine l_call (dk := 0) (dn := 0) hG (z_17 rfl) rfl (by decide) q_236 (rArg_v (As := [.int (iI (xs (i + 1).toNat))]) (rest := []) rfl rfl (by decide) s_363 rfl) h2 ?_
  refine l_s6 hG (z_17 rfl) ?_
  refine l_a2 hG (z_17 rfl) ?_
  refine l_call (dk := 0) (dn := 0) hG (z_17 rfl) rfl (by decide) q_159 (rArg_v (As := []) (rest := []) rfl rfl (by decide) s_363 rfl) (thr_159 (by omega)) ?_
  refine l_i5 hG (z_17 rfl) ?_
  refine l_eqt hG (z_17 rfl) rfl h3 ?_
  refine l_i5 hG (z_17 rfl) ?_
  by_cases hk : k = 0
  · have hw := h5 hk
    subst hk
    refine l_nz_f hG (z_17 rfl) rfl ?_
    refine l_a3 hG (z_17 rfl) ?_
    refine l_con hG (z_17 rfl) ?_
    refine l_lald hG (z_17 rfl) ?_
    refine l_i6 hG (z_17 rfl) ?_
    rw [hw]
    unfold fZ
    by_cases hz : iI v = iI 0
    · rw [if_pos hz]
      refine l_z_t hG (z_17 rfl) rfl hz ?_
      refine l_lcon hG (z_17 rfl) ?_
      refine l_lcm hG (z_17 rfl) ?_
      refine l_z_t hG (z_17 rfl) rfl rfl ?_
      refine l_go hG (z_17 rfl) rfl ?_
      exact hnext _ _ _ _ _ h4
    · rw [if_neg hz]
      refine l_z_f hG (z_17 rfl) hz ?_
      refine l_lcon hG (z_17 rfl) ?_
      refine l_go hG (z_17 rfl) rfl ?_
      refine l_lcm hG (z_17 rfl) ?_
      refine l_z_t hG (z_17 rfl) rfl rfl ?_
      refine l_go hG (z_17 rfl) rfl ?_
      exact hnext _ _ _ _ _ h4
  · refine l_nz_t hG (z_17 rfl) rfl (fun e => hk (by rw [iI_eq (by omega) (by omega)] at e; omega)) ?_
    refine l_go hG (z_17 rfl) rfl ?_
    exact hnext _ _ _ _ _ h4
theorem cs_17 (hG : lCl d n xs G) (hd : 201 ≤ d) (hxs : ∀ j, i32 (xs j)) (hi : 0 ≤ i ∧ i + 8 ≤ n) (hR : RR m q) (hnext : ∀ (m' : Nat → Nat → Int) (q' : Nat → Nat → Option Nat) (w' : Nat → Int64) (v5 v6 : Option Value), RR m' q' → G 2315 (lLp i v5 v6) [] (mk m' q' (some w')) K N) : G 1218 (lLp i u5 u6) [] (mk m q (some w)) (K + 1) (N + 6) := by
  obtain ⟨k, v, m1, q1, w1, m2, dk, dn, k2, d1, d2, h1, h2, h3, h4, h5⟩ := P_288 (hxs (i + 1).toNat) m q w hR d hd
  refine hG.2.2.2 _ _ _ _ (K + dk) (N + dn) _ _ (by omega) (by omega) ?_
  refine l_a1 hG (z_18 rfl) ?_
  refine l_ar hG (z_18 rfl) (z_18 rfl) (z_18 rfl) (z_18 rfl) (z_18 rfl) (by omega) ?_
  refine l_a3 hG (z_18 rfl) ?_
  refine l_call hG (z_18 rfl) rfl (by decide) q_288 (rArg_s (As := [.ref 100, .int (iI (xs (i + 1).toNat)), .ref 391]) (rest := []) (by decide) rfl rfl (by decide)) h1 ?_
  refine l_s5 hG (z_18 rfl) ?_
  refine l_a2 hG (z_18 rfl) ?_
  refine l_ar hG (z_18 rfl) (z_18 rfl) (z_18 rfl) (z_18 rfl) (z_18 rfl) (by omega) ?_
  refine l_call (dk := 0) (dn := 0) hG (z_18 rfl) rfl (by decide) q_240 (rArg_v (As := [.int (iI (xs (i + 1).toNat))]) (rest := []) rfl rfl (by decide) s_363 rfl) h2 ?_
  refine l_s6 hG (z_18 rfl) ?_
  refine l_a2 hG (z_18 rfl) ?_
  refine l_call (dk := 0) (dn := 0) hG (z_18 rfl) rfl (by decide) q_159 (rArg_v (As := []) (rest := []) rfl rfl (by decide) s_363 rfl) (thr_159 (by omega)) ?_
  refine l_i5 hG (z_18 rfl) ?_
  refine l_eqt hG (z_18 rfl) rfl h3 ?_
  refine l_i5 hG (z_18 rfl) ?_
  by_cases hk : k = 0
  · have hw := h5 hk
    subst hk
    refine l_nz_f hG (z_18 rfl) rfl ?_
    refine l_a3 hG (z_18 rfl) ?_
    refine l_con hG (z_18 rfl) ?_
    refine l_lald hG (z_18 rfl) ?_
    refine l_i6 hG (z_18 rfl) ?_
    refine l_i2l hG (z_18 rfl) ?_
    rw [hw]
    refine l_lcm (x := (iI v).toInt64) hG (z_18 rfl) ?_
    refine l_z_t hG (z_18 rfl) rfl rfl ?_
    refine l_go hG (z_18 rfl) rfl ?_
    exact hnext _ _ _ _ _ h4
  · refine l_nz_t hG (z_18 rfl) rfl (fun e => hk (by rw [iI_eq (by omega) (by omega)] at e; omega)) ?_
    refine l_go hG (z_18 rfl) rfl ?_
    exact hnext _ _ _ _ _ h4
theorem cs_18 (hG : lCl d n xs G) (hd : 201 ≤ d) (hxs : ∀ j, i32 (xs j)) (hi : 0 ≤ i ∧ i + 8 ≤ n) (hR : RR m q) (hnext : ∀ (m' : Nat → Nat → Int) (q' : Nat → Nat → Option Nat) (w' : Nat → Int64) (v5 v6 : Option Value), RR m' q' → G 2315 (lLp i v5 v6) [] (mk m' q' (some w')) K N) : G 1274 (lLp i u5 u6) [] (mk m q (some w)) (K + 1) (N + 6) := by
  obtain ⟨k, v, m1, q1, w1, m2, dk, dn, k2, d1, d2, h1, h2, h3, h4, h5⟩ := P_289 (hxs (i + 1).toNat) (hxs (i + 2).toNat) m q w hR d hd
  refine hG.2.2.2 _ _ _ _ (K + dk) (N + dn) _ _ (by omega) (by omega) ?_
  refine l_a1 hG (z_19 rfl) ?_
  refine l_ar hG (z_19 rfl) (z_19 rfl) (z_19 rfl) (z_19 rfl) (z_19 rfl) (by omega) ?_
  refine l_ar hG (z_19 rfl) (z_19 rfl) (z_19 rfl) (z_19 rfl) (z_19 rfl) (by omega) ?_
  refine l_a3 hG (z_19 rfl) ?_
  refine l_call hG (z_19 rfl) rfl (by decide) q_289 (rArg_s (As := [.ref 100, .int (iI (xs (i + 1).toNat)), .int (iI (xs (i + 2).toNat)), .ref 391]) (rest := []) (by decide) rfl rfl (by decide)) h1 ?_
  refine l_s5 hG (z_19 rfl) ?_
  refine l_a2 hG (z_19 rfl) ?_
  refine l_ar hG (z_19 rfl) (z_19 rfl) (z_19 rfl) (z_19 rfl) (z_19 rfl) (by omega) ?_
  refine l_ar hG (z_19 rfl) (z_19 rfl) (z_19 rfl) (z_19 rfl) (z_19 rfl) (by omega) ?_
  refine l_call (dk := 0) (dn := 0) hG (z_19 rfl) rfl (by decide) q_241 (rArg_v (As := [.int (iI (xs (i + 1).toNat)), .int (iI (xs (i + 2).toNat))]) (rest := []) rfl rfl (by decide) s_363 rfl) h2 ?_
  refine l_s6 hG (z_19 rfl) ?_
  refine l_a2 hG (z_19 rfl) ?_
  refine l_call (dk := 0) (dn := 0) hG (z_19 rfl) rfl (by decide) q_159 (rArg_v (As := []) (rest := []) rfl rfl (by decide) s_363 rfl) (thr_159 (by omega)) ?_
  refine l_i5 hG (z_19 rfl) ?_
  refine l_eqt hG (z_19 rfl) rfl h3 ?_
  refine l_i5 hG (z_19 rfl) ?_
  by_cases hk : k = 0
  · have hw := h5 hk
    subst hk
    refine l_nz_f hG (z_19 rfl) rfl ?_
    refine l_a3 hG (z_19 rfl) ?_
    refine l_con hG (z_19 rfl) ?_
    refine l_lald hG (z_19 rfl) ?_
    refine l_i6 hG (z_19 rfl) ?_
    refine l_i2l hG (z_19 rfl) ?_
    rw [hw]
    refine l_lcm (x := (iI v).toInt64) hG (z_19 rfl) ?_
    refine l_z_t hG (z_19 rfl) rfl rfl ?_
    refine l_go hG (z_19 rfl) rfl ?_
    exact hnext _ _ _ _ _ h4
  · refine l_nz_t hG (z_19 rfl) rfl (fun e => hk (by rw [iI_eq (by omega) (by omega)] at e; omega)) ?_
    refine l_go hG (z_19 rfl) rfl ?_
    exact hnext _ _ _ _ _ h4
end G
