/-! ===== the law's loop ===== -/
section G
variable {d n : Nat} {xs : Nat → Int} {G : lG} {K N : Nat} {i : Int} {u5 u6 : Option Value} {m : Nat → Nat → Int} {q : Nat → Nat → Option Nat} {w : Nat → Int64}
theorem c_body (hG : lCl d n xs G) (hd : 201 ≤ d) (hxs : ∀ j, i32 (xs j)) (hi : 0 ≤ i ∧ i + 8 ≤ n) (hR : RR m q) (hnext : ∀ (m' : Nat → Nat → Int) (q' : Nat → Nat → Option Nat) (w' : Nat → Int64) (v5 v6 : Option Value), RR m' q' → G 2315 (lLp i v5 v6) [] (mk m' q' (some w')) K N) : G 33 (lLp i u5 u6) [] (mk m q (some w)) (K + 1) (N + 6) := by
  have h63 := z63 (xs i.toNat)
  refine l_a0 hG (z_0 rfl) ?_
  refine l_i4 hG (z_0 rfl) ?_
  refine hG.2.1 _ _ _ _ _ _ _ _ (z_0 rfl) (by omega) (by omega) ?_
  refine l_bip hG (z_0 rfl) (by decide) ?_
  refine l_and hG (z_0 rfl) ?_
  obtain ⟨z, hz⟩ : ∃ z, z = zAnd (xs i.toNat) 63 := ⟨_, rfl⟩
  rw [← hz] at h63 ⊢
  by_cases h37 : 36 < z
  · refine hG.2.2.2 _ _ _ _ K N _ _ (by omega) (by omega) ?_
    refine l_tsd hG (z_0 rfl) (by omega) (Or.inr h37) rfl ?_
    exact hnext _ _ _ _ _ hR
  · rcases (show z = 0 ∨ z = 1 ∨ z = 2 ∨ z = 3 ∨ z = 4 ∨ z = 5 ∨ z = 6 ∨ z = 7 ∨ z = 8 ∨ z = 9 ∨ z = 10 ∨ z = 11 ∨ z = 12 ∨ z = 13 ∨ z = 14 ∨ z = 15 ∨ z = 16 ∨ z = 17 ∨ z = 18 ∨ z = 19 ∨ z = 20 ∨ z = 21 ∨ z = 22 ∨ z = 23 ∨ z = 24 ∨ z = 25 ∨ z = 26 ∨ z = 27 ∨ z = 28 ∨ z = 29 ∨ z = 30 ∨ z = 31 ∨ z = 32 ∨ z = 33 ∨ z = 34 ∨ z = 35 ∨ z = 36 by omega) with h | h | h | h | h | h | h | h | h | h | h | h | h | h | h | h | h | h | h | h | h | h | h | h | h | h | h | h | h | h | h | h | h | h | h | h | h
    · rw [h]
      exact l_tsw hG (z_0 rfl) (by decide) (by decide) rfl rfl (cs_0 hG hd hxs hi hR hnext)
    · rw [h]
      exact l_tsw hG (z_0 rfl) (by decide) (by decide) rfl rfl (cs_1 hG hd hxs hi hR hnext)
    · rw [h]
      exact l_tsw hG (z_0 rfl) (by decide) (by decide) rfl rfl (cs_2 hG hd hxs hi hR hnext)
    · rw [h]
      exact l_tsw hG (z_0 rfl) (by decide) (by decide) rfl rfl (cs_3 hG hd hxs hi hR hnext)
    · rw [h]
      exact l_tsw hG (z_0 rfl) (by decide) (by decide) rfl rfl (cs_4 hG hd hxs hi hR hnext)
    · rw [h]
      exact l_tsw hG (z_0 rfl) (by decide) (by decide) rfl rfl (cs_5 hG hd hxs hi hR hnext)
    · rw [h]
      exact l_tsw hG (z_0 rfl) (by decide) (by decide) rfl rfl (cs_6 hG hd hxs hi hR hnext)
    · rw [h]
      exact l_tsw hG (z_0 rfl) (by decide) (by decide) rfl rfl (cs_7 hG hd hxs hi hR hnext)
    · rw [h]
      exact l_tsw hG (z_0 rfl) (by decide) (by decide) rfl rfl (cs_8 hG hd hxs hi hR hnext)
    · rw [h]
      exact l_tsw hG (z_0 rfl) (by decide) (by decide) rfl rfl (cs_9 hG hd hxs hi hR hnext)
    · rw [h]
      exact l_tsw hG (z_0 rfl) (by decide) (by decide) rfl rfl (cs_10 hG hd hxs hi hR hnext)
    · rw [h]
      exact l_tsw hG (z_0 rfl) (by decide) (by decide) rfl rfl (cs_11 hG hd hxs hi hR hnext)
    · rw [h]
      exact l_tsw hG (z_0 rfl) (by decide) (by decide) rfl rfl (cs_12 hG hd hxs hi hR hnext)
    · rw [h]
      exact l_tsw hG (z_0 rfl) (by decide) (by decide) rfl rfl (cs_13 hG hd hxs hi hR hnext)
    · rw [h]
      exact l_tsw hG (z_0 rfl) (by decide) (by decide) rfl rfl (cs_14 hG hd hxs hi hR hnext)
    · rw [h]
      exact l_tsw hG (z_0 rfl) (by decide) (by decide) rfl rfl (cs_15 hG hd hxs hi hR hnext)
    · rw [h]
      exact l_tsw hG (z_0 rfl) (by decide) (by decide) rfl rfl (cs_16 hG hd hxs hi hR hnext)
    · rw [h]
      exact l_tsw hG (z_0 rfl) (by decide) (by decide) rfl rfl (cs_17 hG hd hxs hi hR hnext)
    · rw [h]
      exact l_tsw hG (z_0 rfl) (by decide) (by decide) rfl rfl (cs_18 hG hd hxs hi hR hnext)
    · rw [h]
      exact l_tsw hG (z_0 rfl) (by decide) (by decide) rfl rfl (cs_19 hG hd hxs hi hR hnext)
    · rw [h]
      exact l_tsw hG (z_0 rfl) (by decide) (by decide) rfl rfl (cs_20 hG hd hxs hi hR hnext)
    · rw [h]
      exact l_tsw hG (z_0 rfl) (by decide) (by decide) rfl rfl (cs_21 hG hd hxs hi hR hnext)
    · rw [h]
      exact l_tsw hG (z_0 rfl) (by decide) (by decide) rfl rfl (cs_22 hG hd hxs hi hR hnext)
    · rw [h]
      exact l_tsw hG (z_0 rfl) (by decide) (by decide) rfl rfl (cs_23 hG hd hxs hi hR hnext)
    · rw [h]
      exact l_tsw hG (z_0 rfl) (by decide) (by decide) rfl rfl (cs_24 hG hd hxs hi hR hnext)
    · rw [h]
      exact l_tsw hG (z_0 rfl) (by decide) (by decide) rfl rfl (cs_25 hG hd hxs hi hR hnext)
    · rw [h]
      exact l_tsw hG (z_0 rfl) (by decide) (by decide) rfl rfl (cs_26 hG hd hxs hi hR hnext)
    · rw [h]
      exact l_tsw hG (z_0 rfl) (by decide) (by decide) rfl rfl (cs_27 hG hd hxs hi hR hnext)
    · rw [h]
      exact l_tsw hG (z_0 rfl) (by decide) (by decide) rfl rfl (cs_28 hG hd hxs hi hR hnext)
    · rw [h]
      exact l_tsw hG (z_0 rfl) (by decide) (by decide) rfl rfl (cs_29 hG hd hxs hi hR hnext)
    · rw [h]
      exact l_tsw hG (z_0 rfl) (by decide) (by decide) rfl rfl (cs_30 hG hd hxs hi hR hnext)
    · rw [h]
      exact l_tsw hG (z_0 rfl) (by decide) (by decide) rfl rfl (cs_31 hG hd hxs hi hR hnext)
    · rw [h]
      exact l_tsw hG (z_0 rfl) (by decide) (by decide) rfl rfl (cs_32 hG hd hxs hi hR hnext)
    · rw [h]
      exact l_tsw hG (z_0 rfl) (by decide) (by decide) rfl rfl (cs_33 hG hd hxs hi hR hnext)
    · rw [h]
      exact l_tsw hG (z_0 rfl) (by decide) (by decide) rfl rfl (cs_34 hG hd hxs hi hR hnext)
    · rw [h]
      exact l_tsw hG (z_0 rfl) (by decide) (by decide) rfl rfl (cs_35 hG hd hxs hi hR hnext)
    · rw [h]
      exact l_tsw hG (z_0 rfl) (by decide) (by decide) rfl rfl (cs_36 hG hd hxs hi hR hnext)
theorem c_loop (hG : lCl d n xs G) (hd : 201 ≤ d) (hn : n ≤ 4096) (hxs : ∀ j, i32 (xs j)) (hend : ∀ (m' : Nat → Nat → Int) (q' : Nat → Nat → Option Nat) (w' : Nat → Int64) (j : Int) (v5 v6 : Option Value), G 2321 (lLp j v5 v6) [] (mk m' q' (some w')) K N) : ∀ (g : Nat) (i : Int) (u5 u6 : Option Value) (m : Nat → Nat → Int) (q : Nat → Nat → Option Nat) (w : Nat → Int64), 0 ≤ i → i ≤ 5000 → (n : Int) < i + 8 * g + 8 → RR m q → G 23 (lLp i u5 u6) [] (mk m q (some w)) (K + g) (N + 6 * g) := by
  intro g
  induction g with
  | zero =>
    intro i u5 u6 m q w h0 h1 h2 hR
    refine l_i4 hG (z_0 rfl) ?_
    refine l_a0 hG (z_0 rfl) ?_
    refine hG.2.2.1 _ _ _ _ _ _ _ (z_0 rfl) ?_
    refine l_bip hG (z_0 rfl) (by decide) ?_
    refine l_sub hG (z_0 rfl) ?_
    refine l_gtt hG (z_0 rfl) rfl (by rw [iI_lt (by omega) (by omega)]; omega) ?_
    exact hend _ _ _ _ _ _
  | succ g ih =>
    intro i u5 u6 m q w h0 h1 h2 hR
    refine l_i4 hG (z_0 rfl) ?_
    refine l_a0 hG (z_0 rfl) ?_
    refine hG.2.2.1 _ _ _ _ _ _ _ (z_0 rfl) ?_
    refine l_bip hG (z_0 rfl) (by decide) ?_
    refine l_sub hG (z_0 rfl) ?_
    by_cases c : i + 8 ≤ n
    · refine l_gtf hG (z_0 rfl) (by rw [iI_lt (by omega) (by omega)]; omega) ?_
      have hb := c_body (K := K + g) (N := N + 6 * g) (u5 := u5) (u6 := u6) (w := w) hG hd hxs ⟨h0, c⟩ hR (fun m' q' w' v5 v6 hR' => ?_)
      · exact hG.2.2.2 _ _ _ _ _ _ _ _ (by omega) (by omega) hb
      · refine l_s hG (one_p (z_38 rfl) rfl rfl) ?_
        refine l_go (t := 23) hG (z_38 rfl) rfl ?_
        have hs : iI i + Int32.ofInt 8 = iI (i + 8) := iI_add i 8
        show G 23 [some (.ref 99), some (.ref 100), some (.ref 363), some (.ref 391), some (.int (iI i + Int32.ofInt 8)), v5, v6] [] _ _ _
        rw [hs]
        exact ih (i + 8) v5 v6 m' q' w' (by omega) (by omega) (by omega) hR'
    · refine hG.2.2.2 _ _ _ _ K N _ _ (by omega) (by omega) ?_
      refine l_gtt hG (z_0 rfl) rfl (by rw [iI_lt (by omega) (by omega)]; omega) ?_
      exact hend _ _ _ _ _ _
end G
