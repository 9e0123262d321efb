/-! ===== a fan of the class: paint ===== -/
section S
variable {d n : Nat} {m : Nat → Nat → Int} {q : Nat → Nat → Option Nat} {w : Option (Nat → Int64)} {o x y : Nat}
theorem T_47 (hd : 4 ≤ d) (hx : iFan x) (hk : fk (m x) n o) (hl : fl (m (x + 1)) n) (hC : ∀ i, i < 28 → i32 (m (x + 2) i)) (h3 : i32 (m x 3)) {p h : Nat} (hp : p < n) (hh : h < 4) {z : Int} (hz : i32 z) : ev d 47 [.ref x, .int (iI p), .int (iI h), .int (iI z)] (mk m q w) =
    if 0 < m x 3 ∧ lm (m (x + 2)) o (m (x + 1) p).toNat h ≠ z then vI 1 (mk (wr (wr m (x + 2) (4 * (m (x + 1) p).toNat + th o (m (x + 1) p).toNat h) z) x 3 (m x 3 - 1)) q w) else vI 0 (mk m q w) := by
  have hn := hk.2.1
  obtain ⟨b0, b1⟩ := hl p hp
  have hs : (m (x + 1) p).toNat < 7 := by omega
  have he : iI (m (x + 1) p) = iI ((m (x + 1) p).toNat : Nat) := by rw [Int.toNat_of_nonneg b0]
  rw [e_47 (by omega) _ rfl rfl rfl rfl]
  simp only [b_47_0 hx, iI_lt (by omega : i32 0) h3, b_47_15]
  by_cases h0 : 0 < m x 3
  · rw [if_pos h0, T_13 (m := m) (show 2 ≤ d - 1 by omega) hx (by omega : i32 (p : Int)) (by rw [hk.1]; omega)]
    simp only [rBd_v, Option.toList_some, Option.toList_none, List.cons_append, List.nil_append, List.append_nil, b_47_12 hx, zb_0, hk.1]
    rw [if_neg (not_not_intro (by omega)), b_47_17 hx (by omega) (by omega)]
    simp only [Int.toNat_natCast, he, T_18 (m := m) (show 3 ≤ d - 1 by omega) hx hk hs hh, rBd_v, Option.toList_some, Option.toList_none, List.cons_append, List.nil_append, List.append_nil, b_47_32 hx, iI_eq (lm_i (o := o) hC hs hh) hz]
    by_cases h1 : lm (m (x + 2)) o (m (x + 1) p).toNat h = z
    · rw [if_pos h1, if_neg (fun y => y.2 h1)]
    · rw [if_neg h1, if_pos ⟨h0, h1⟩]
      simp only [T_15 (m := m) (show 2 ≤ d - 1 by omega) hx hk hs hh, rBd_v, Option.toList_some, Option.toList_none, List.cons_append, List.nil_append, List.append_nil, b_47_48 hx, T_28 (m := m) (show 2 ≤ d - 1 by omega) hx hs (th_lt hh), b_47_52 hx, wr_o _ _ _ _ (show x ≠ x + 2 by omega)]
  · rw [if_neg h0, if_neg (fun y => h0 y.1)]
end S
