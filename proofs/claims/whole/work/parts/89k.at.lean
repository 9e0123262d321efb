/-! ===== the call at, alike ===== -/
section S
variable {d n : Nat} {m : Nat → Nat → Int} {q : Nat → Nat → Option Nat} {w : Option (Nat → Int64)}
theorem V_223 (hd : 2 ≤ d) {p : Int} {n : Nat} (hp : i32 p) (hn : n ≤ 7) (h15 : m 363 15 = n) : ev d 223 [.ref 363, .int (iI p)] (mk (wr m 363 0 0) q w) = if 0 ≤ p ∧ p < n then vI 1 (mk (wr m 363 0 0) q w) else vI 0 (mk (noX m 1 0) q w) := by
  have e15 : wr m 363 0 0 363 15 = n := by rw [wr_b _ _ _ _ (by decide)]; exact h15
  rw [e_223 (by omega) _ rfl rfl, b_223_0, e15, V_161 (by omega) hp (by omega) (by omega)]
  simp only [rBd_v, Option.toList_some, Option.toList_none, List.cons_append, List.nil_append, List.append_nil]
  rw [b_223_12, V_160 (by omega) (Or.inl rfl) (by omega) (by decide) (wr_s _ _ _ _)]
  by_cases h : 0 ≤ p ∧ p < n
  · rw [if_pos (by omega), if_pos h]
    simp only [rBd_v, Option.toList_some, Option.toList_none, List.cons_append, List.nil_append, List.append_nil]
    rw [b_223_17 (Or.inr rfl)]
  · rw [if_neg (by omega), if_neg h]
    simp only [rBd_v, Option.toList_some, Option.toList_none, List.cons_append, List.nil_append, List.append_nil]
    rw [b_223_17 (Or.inl rfl)]
    rfl
theorem K_at {p : Int} (hp : i32 p) : cTH 127 227 [.int (iI p)] 2 := by
  intro m q w hR d hd
  obtain ⟨-, ⟨n0, r0, k, h0, ⟨k1, k2⟩, ⟨kF, -, -, -⟩, -, -, -, -, -, -⟩, -⟩ := id hR
  have hn7 := kF.1.2.1
  have h8 : m 108 0 = n0 := kF.1.1
  have hC : ev d 127 [.ref 100, .int (iI p)] (mk m q w) = if 0 ≤ p ∧ p < n0 then vI (m 109 p.toNat) (mk m q w) else some (.inr 1, (mk (wr m 100 16 (m 100 16 + 1)) q w, (1, 6))) := by
    rw [e_127 (by omega) _ rfl rfl, b_127_0, T_13 (by omega) f108 hp (by rw [h8]; omega), h8]
    simp only [rBd_v, Option.toList_some, Option.toList_none, List.cons_append, List.nil_append, List.append_nil, b_127_12]
    rw [T_125 (by omega)]
    by_cases h : 0 ≤ p ∧ p < n0
    · rw [if_pos h, zb_t h, if_neg (by decide)]
      simp only [rBd_v, Option.toList_some, Option.toList_none, List.cons_append, List.nil_append, List.append_nil]
      rw [b_127_15 (by omega) (by omega)]
    · rw [if_neg h, zb_f h, if_pos rfl]
      rfl
  have hX : ∀ m1 : Nat → Nat → Int, m1 363 15 = n0 → ev d 227 [.ref 363, .int (iI p)] (mk m1 q w) = if 0 ≤ p ∧ p < n0 then vI (m1 376 (28 + p).toNat) (mk (wr m1 363 0 0) q w) else vI 0 (mk (noX m1 1 0) q w) := by
    intro m1 h1
    rw [e_227 (by omega) _ rfl rfl, b_227_0, V_223 (by omega) hp hn7 h1]
    by_cases h : 0 ≤ p ∧ p < n0
    · rw [if_pos h, if_pos h]
      simp only [rBd_v, Option.toList_some, Option.toList_none, List.cons_append, List.nil_append, List.append_nil]
      rw [b_227_10, if_neg (by decide), b_227_15 (by omega) (by omega), wr_o _ _ _ _ (by decide)]
    · rw [if_neg h, if_neg h]
      simp only [rBd_v, Option.toList_some, Option.toList_none, List.cons_append, List.nil_append, List.append_nil]
      rw [b_227_10, if_pos rfl]
  by_cases h : 0 ≤ p ∧ p < n0
  · rw [if_pos h] at hC
    have hX1 := hX m k1
    rw [if_pos h] at hX1
    have e := kF.2.2.2.2.2.2.2.1.1 p.toNat (by omega)
    refine Or.inl ⟨_, m, q, _, hC, ?_, wr_s _ _ _ _, RR_0 hR⟩
    rw [hX1, show (28 + p).toNat = 28 + p.toNat by omega, ← e]
  · rw [if_neg h] at hC
    have hX1 := hX (wr m 100 16 (m 100 16 + 1)) (by rw [wr_o _ _ _ _ (by decide)]; exact k1)
    rw [if_neg h] at hX1
    exact Or.inr ⟨1, 0, _, noX (wr m 100 16 (m 100 16 + 1)) 1 0, Or.inr ⟨rfl, rfl⟩, hC, hX1, noX_0, RR_no1 hR⟩
end S
