/-! ===== a fan of the class is cleared, and read ===== -/
def cl (m : Nat → Nat → Int) (x : Nat) : Nat → Nat → Int := row (row m x (fun j => if j = 1 then 99 else if j = 3 then 20 else if j = 7 then -1 else if j = 8 then (if m x 7 = -1 then m x 8 else 0) else if j < 7 then 0 else m x j)) (x + 1) (fun j => if j < 7 then (j : Int) else m (x + 1) j)
section S
variable {d n : Nat} {m : Nat → Nat → Int} {q : Nat → Nat → Option Nat} {w : Option (Nat → Int64)} {T : Nat → Int} {x : Nat}
theorem L_25 (hx : iFan x) : ∀ (g k : Nat) (m : Nat → Nat → Int), k + g = 7 → gv d rR25 44 [some (.ref x), some (.int (iI k))] [] (mk m q w) = vV (mk (row m (x + 1) (fun j => if k ≤ j ∧ j < 7 then (j : Int) else m (x + 1) j)) q w) := by
  intro g
  induction g with
  | zero =>
    intro k m hg
    simp only [b_25_44 hx, iI_lt (by omega : i32 (k : Int)) (by omega : i32 ((7 : Nat) : Int))]
    rw [if_neg (by omega), show (fun j => if k ≤ j ∧ j < 7 then (j : Int) else m (x + 1) j) = m (x + 1) from funext fun j => if_neg (by omega), row_self]
  | succ g ih =>
    intro k m hg
    simp only [b_25_44 hx, iI_lt (by omega : i32 (k : Int)) (by omega : i32 ((7 : Nat) : Int))]
    rw [if_pos (by omega), b_25_53 hx (by omega) (by omega), show (k : Int) + 1 = ((k + 1 : Nat) : Int) from rfl, ih (k + 1) _ (by omega), Int.toNat_natCast, wr_x]
    unfold wr
    rw [row_row]
    congr 6
    funext j
    by_cases hj : j = k
    · subst hj
      rw [if_neg (by omega), row_s, if_pos (by omega)]
    · rw [row_o _ _ _ hj]
      by_cases h1 : k + 1 ≤ j ∧ j < 7
      · rw [if_pos h1, if_pos (by omega)]
      · rw [if_neg h1, if_neg (by omega)]
theorem T_25 (hd : 3 ≤ d) (hx : iFan x) (h7 : i32 (m x 7)) : ev d 25 [.ref x] (mk m q w) = vV (mk (cl m x) q w) := by
  rw [e_25 (by omega) _ rfl, b_25_0 hx]
  have e7 : (wr (wr (wr (wr (wr (wr (wr m x 0 0) x 1 99) x 2 0) x 3 20) x 4 0) x 5 0) x 6 0) x 7 = m x 7 := by
    simp [wr, row]
  rw [T_24 (by omega) hx (by rw [e7]; exact h7), e7]
  by_cases h : m x 7 = -1
  · rw [if_pos h]
    simp only [rBd_v, Option.toList_some, Option.toList_none, List.cons_append, List.nil_append, List.append_nil, b_25_41 hx]
    refine Eq.trans (L_25 hx 7 0 _ (by omega)) ?_
    unfold cl
    have hA : wr (wr (wr (wr (wr (wr (wr m x 0 0) x 1 99) x 2 0) x 3 20) x 4 0) x 5 0) x 6 0 = row m x (fun j => if j = 1 then 99 else if j = 3 then 20 else if j = 7 then -1 else if j = 8 then (if m x 7 = -1 then m x 8 else 0) else if j < 7 then 0 else m x j) := by
      funext y j
      by_cases hy : y = x
      · subst hy
        rw [row_s]
        have : j = 0 ∨ j = 1 ∨ j = 2 ∨ j = 3 ∨ j = 4 ∨ j = 5 ∨ j = 6 ∨ j = 7 ∨ j = 8 ∨ 9 ≤ j := by omega
        rcases this with rfl | rfl | rfl | rfl | rfl | rfl | rfl | rfl | rfl | hj
        all_goals first | (simp [wr, row, h]; done) | skip
        simp [wr, row, show j ≠ 0 by omega, show j ≠ 1 by omega, show j ≠ 2 by omega, show j ≠ 3 by omega, show j ≠ 4 by omega, show j ≠ 5 by omega, show j ≠ 6 by omega, show j ≠ 7 by omega, show j ≠ 8 by omega, show ¬ j < 7 by omega]
      · rw [row_o _ _ _ hy]
        simp only [wr_o _ _ _ _ hy]
    rw [hA, row_o _ _ _ (show x + 1 ≠ x by omega)]
    simp only [Nat.zero_le, true_and]
  · rw [if_neg h]
    simp only [rBd_v, Option.toList_some, Option.toList_none, List.cons_append, List.nil_append, List.append_nil, b_25_41 hx]
    refine Eq.trans (L_25 hx 7 0 _ (by omega)) ?_
    unfold cl
    have hA : wr (wr (wr (wr (wr (wr (wr (wr (wr m x 0 0) x 1 99) x 2 0) x 3 20) x 4 0) x 5 0) x 6 0) x 7 (-1)) x 8 0 = row m x (fun j => if j = 1 then 99 else if j = 3 then 20 else if j = 7 then -1 else if j = 8 then (if m x 7 = -1 then m x 8 else 0) else if j < 7 then 0 else m x j) := by
      funext y j
      by_cases hy : y = x
      · subst hy
        rw [row_s]
        have : j = 0 ∨ j = 1 ∨ j = 2 ∨ j = 3 ∨ j = 4 ∨ j = 5 ∨ j = 6 ∨ j = 7 ∨ j = 8 ∨ 9 ≤ j := by omega
        rcases this with rfl | rfl | rfl | rfl | rfl | rfl | rfl | rfl | rfl | hj
        all_goals first | (simp [wr, row, h]; done) | skip
        simp [wr, row, show j ≠ 0 by omega, show j ≠ 1 by omega, show j ≠ 2 by omega, show j ≠ 3 by omega, show j ≠ 4 by omega, show j ≠ 5 by omega, show j ≠ 6 by omega, show j ≠ 7 by omega, show j ≠ 8 by omega, show ¬ j < 7 by omega]
      · rw [row_o _ _ _ hy]
        simp only [wr_o _ _ _ _ hy]
    rw [hA, row_o _ _ _ (show x + 1 ≠ x by omega)]
    simp only [Nat.zero_le, true_and]
theorem cl_tr {s : rd} (h : 107 ≤ x) : cl (tr m s) x = tr (cl m x) s := by
  funext y j
  unfold cl tr tm row
  by_cases h1 : y = x + 1
  · simp [h1, show x + 1 ≠ 101 by omega, show x ≠ 101 by omega]
  · by_cases h2 : y = x
    · subst h2
      simp [show y ≠ 101 by omega]
    · by_cases h3 : y = 101
      · subst h3
        simp [show 101 ≠ x + 1 by omega, show 101 ≠ x by omega]
      · simp [h1, h2, h3]
theorem T_31 (hd : 14 ≤ d) (hx : iFan x) {s : rd} (hT : onT m T n) (hs : gd n s) (h7 : i32 (m x 7)) : ev d 31 [.ref x, .ref 101] (mk (tr m s) q w) = vV (mk (tr (rdF T n x 600 0 (cl m x) s).1 (rdF T n x 600 0 (cl m x) s).2) q w) := by
  have h107 := fan_101 hx
  rw [e_31 (by omega) _ rfl rfl, b_31_0 hx, T_25 (by omega) hx (by rw [tr_o (by omega)]; exact h7), cl_tr h107]
  simp only [rBd_v, Option.toList_some, Option.toList_none, List.cons_append, List.nil_append, List.append_nil, b_31_4 hx]
  refine L_31 (show 13 ≤ d - 1 by omega) hx 600 0 _ s (by omega) ?_ hs ⟨0, by omega, ?_⟩
  · unfold cl
    exact onT_row (onT_row hT (by omega) (by omega)) (by omega) (by omega)
  · unfold cl
    rw [row_o _ _ _ (show x ≠ x + 1 by omega), row_s]
    rfl
end S
