/-! ===== the reference reads a fan's row ===== -/
theorem xNum_gx {T : Nat → Int} {n : Nat} {s : rd} {lo hi : Int} (hn : n ≤ 600) (h : gx n s) : gx n (xNum T n lo hi s).2 := by
  have hk := skip_le T h.1
  unfold xNum
  by_cases h0 : s.2.1 = -1
  · rw [if_pos h0]
    obtain ⟨d1, d2, d3, d4⟩ := dgx_le T (n - skip T n s.1) (skip T n s.1) 0 (by omega) (by omega)
    split
    · split
      · exact ⟨by show (dgx _ _ _ _).2 ≤ n; omega, h.2⟩
      · exact ⟨by show (dgx _ _ _ _).2 ≤ n; omega, by show i32 ((skip T n s.1 : Nat) : Int); omega⟩
    · exact ⟨hk.2, by show i32 ((skip T n s.1 : Nat) : Int); omega⟩
  · rw [if_neg h0]
    exact h
theorem mr_wo {m : Nat → Nat → Int} {s : rd} {x j : Nat} {v : Int} (h : x ≠ 363) : wr (mr m s) x j v = mr (wr m x j v) s := by
  funext y i
  unfold mr mm wr row
  by_cases hy : y = 363
  · subst hy
    simp [Ne.symm h]
  · by_cases hx : y = x
    · simp [hx, h]
    · simp [hx, hy]
theorem mr_wi {m : Nat → Nat → Int} {s : rd} {j : Nat} {v : Int} (h4 : j ≠ 4) (h5 : j ≠ 5) (h6 : j ≠ 6) : wr (mr m s) 363 j v = mr (wr m 363 j v) s := by
  funext y i
  unfold mr mm wr row
  by_cases hy : y = 363
  · subst hy
    by_cases hj : i = j
    · subst hj
      simp [h4, h5, h6]
    · by_cases i6 : i = 6
      · simp [i6, Ne.symm h6]
      · by_cases i5 : i = 5
        · simp [i5, Ne.symm h5]
        · by_cases i4 : i = 4
          · simp [i4, Ne.symm h4]
          · simp [hj, i4, i5, i6]
  · simp [hy]
theorem onX_wr {m : Nat → Nat → Int} {T : Nat → Int} {n x j : Nat} {v : Int} (h : onX m T n) (h1 : x ≠ 363 ∨ j ≠ 3) (h2 : x ≠ 365) : onX (wr m x j v) T n := by
  unfold onX at *
  rw [wr_o _ _ _ _ (Ne.symm h2)]
  by_cases hx : x = 363
  · subst hx
    rw [wr_b _ _ _ _ (by omega)]
    exact h
  · rw [wr_o _ _ _ _ (Ne.symm hx)]
    exact h
theorem onX_row {m : Nat → Nat → Int} {T : Nat → Int} {n x : Nat} {f : Nat → Int} (h : onX m T n) (h1 : x ≠ 363) (h2 : x ≠ 365) : onX (row m x f) T n := by
  unfold onX at *
  rw [row_o _ _ _ (Ne.symm h1), row_o _ _ _ (Ne.symm h2)]
  exact h
def rxS (T : Nat → Int) (n st : Nat) : Nat → Nat → (Nat → Int) → rd → (Nat → Int) × rd
  | 0, _, C, s => (C, s)
  | g + 1, h, C, s => rxS T n st g (h + 1) (row C (4 * st + h) (xNum T n 0 15 s).1) (xNum T n 0 15 s).2
section S
variable {d n : Nat} {m : Nat → Nat → Int} {q : Nat → Nat → Option Nat} {w : Option (Nat → Int64)} {T : Nat → Int} {st : Nat}
theorem L_182 (hd : 2 ≤ d) (hst : st < 7) {u : Option Value} : ∀ (g h : Nat) (m : Nat → Nat → Int) (s : rd), h + g = 4 → onX m T n → gx n s → m 363 12 = st → gv d rR182 11 [some (.ref 363), u, some (.int (iI h))] [] (mk (mr m s) q w) =
    vV (mk (mr (wr (row m 366 (rxS T n st g h (m 366) s).1) 363 12 (st + 1)) (rxS T n st g h (m 366) s).2) q w) := by
  intro g
  induction g with
  | zero =>
    intro h m s hg hT hs hm
    simp only [b_182_11, iI_lt (by omega : i32 (h : Int)) (by omega : i32 4), b_182_90]
    rw [if_neg (by omega), mr_b m s (by decide) (by decide) (by decide), hm, mr_wi (by decide) (by decide) (by decide)]
    unfold rxS
    rw [row_self]
  | succ g ih =>
    intro h m s hg hT hs hm
    simp only [b_182_11, iI_lt (by omega : i32 (h : Int)) (by omega : i32 4), V_175 (m := m) (T := T) (n := n) hd hT hs (by omega : i32 0) (by omega : i32 15), rBd_v, Option.toList_some, Option.toList_none, List.cons_append, List.nil_append, List.append_nil]
    rw [if_pos (by omega), mr_b m s (by decide) (by decide) (by decide), hm, b_182_35 (by omega) (by omega), mr_wo (by decide), show (4 * (st : Int) + (h : Int)).toNat = 4 * st + h by omega, show (h : Int) + 1 = ((h + 1 : Nat) : Int) from rfl]
    rw [ih (h + 1) _ _ (by omega) (onX_wr hT (Or.inl (by decide)) (by decide)) (xNum_gx hT.2.2.1 hs) (by rw [wr_o _ _ _ _ (by decide)]; exact hm)]
    rw [wr_x]
    unfold wr
    rw [row_row]
    rfl
theorem V_182 (hd : 11 ≤ d) (hst : st < 7) {s : rd} {v : Int} (hv : i32 v) (hT : onX m T n) (hs : gx n s) (hm : m 363 12 = st) : ev d 182 [.ref 363, .int (iI v)] (mk (mr m s) q w) =
    if v = ofL 0 W25 then vV (mk (mr (wr (row m 366 (rxS T n st 4 0 (m 366) s).1) 363 12 (st + 1)) (rxS T n st 4 0 (m 366) s).2) q w)
    else if v = ofL 0 W22 then vV (mk (mr (wr m 363 13 (xNum T n 1 200 s).1) (xNum T n 1 200 s).2) q w)
    else vV (mk (mr (wr m 363 14 (xNum T n 0 99 s).1) (xNum T n 0 99 s).2) q w) := by
  rw [e_182 (by omega) _ rfl rfl]
  simp only [b_182_0, V_173 (show 10 ≤ d - 1 by omega) W25_t, V_173 (show 10 ≤ d - 1 by omega) W22_t, rBd_v, Option.toList_some, Option.toList_none, List.cons_append, List.nil_append, List.append_nil, b_182_6, b_182_61, iI_eq hv (ofL_i W25_l), iI_eq hv (ofL_i W22_l)]
  by_cases h1 : v = ofL 0 W25
  · rw [if_pos h1, if_pos h1]
    exact L_182 (show 2 ≤ d - 1 by omega) hst 4 0 m s (by omega) hT hs hm
  · rw [if_neg h1, if_neg h1]
    by_cases h2 : v = ofL 0 W22
    · rw [if_pos h2, if_pos h2, V_175 (by omega) hT hs (by omega) (by omega)]
      simp only [rBd_v, Option.toList_some, Option.toList_none, List.cons_append, List.nil_append, List.append_nil, b_182_73, b_182_90, mr_wi (m := m) (show 13 ≠ 4 by decide) (show 13 ≠ 5 by decide) (show 13 ≠ 6 by decide)]
    · rw [if_neg h2, if_neg h2, V_175 (by omega) hT hs (by omega) (by omega)]
      simp only [rBd_v, Option.toList_some, Option.toList_none, List.cons_append, List.nil_append, List.append_nil, b_182_87, b_182_90, mr_wi (m := m) (show 14 ≠ 4 by decide) (show 14 ≠ 5 by decide) (show 14 ≠ 6 by decide)]
end S
