/-! ===== the reference copies rows ===== -/
section S
variable {d n : Nat} {m : Nat → Nat → Int} {q : Nat → Nat → Option Nat} {w : Option (Nat → Int64)} {x y n1 n2 b1 b2 k1 k2 : Nat}
theorem L_163 (hx : rShp x = some (aS 0 n1 b1 k1)) (hn1 : n1 ≤ 100000) (hy : rShp y = some (aS 0 n2 b2 k2)) (hn2 : n2 ≤ 100000) (hxy : x ≠ y) (h1 : n ≤ n1) (h2 : n ≤ n2) {u : Option Value} : ∀ (g k : Nat) (m : Nat → Nat → Int), k + g = n → gv d rR163 3 [u, some (.ref x), some (.ref y), some (.int (iI n)), some (.int (iI k))] [] (mk m q w) = vV (mk (row m y (fun j => if k ≤ j ∧ j < n then m x j else m y j)) q w) := by
  intro g
  induction g with
  | zero =>
    intro k m hg
    rw [b_163_3 hx hn1 hy hn2]
    simp only [iI_lt (by omega : i32 (k : Int)) (by omega : i32 (n : Int))]
    rw [if_neg (by omega), show (fun j => if k ≤ j ∧ j < n then m x j else m y j) = m y from funext fun j => if_neg (by omega), row_self]
  | succ g ih =>
    intro k m hg
    rw [b_163_3 hx hn1 hy hn2]
    simp only [iI_lt (by omega : i32 (k : Int)) (by omega : i32 (n : Int))]
    rw [if_pos (by omega), b_163_9 hx hn1 hy hn2 (by omega) (by omega) (by omega), show (k : Int) + 1 = ((k + 1 : Nat) : Int) from rfl, ih (k + 1) _ (by omega), Int.toNat_natCast, wr_x, wr_o _ _ _ _ hxy]
    unfold wr
    rw [row_row]
    congr 6
    funext j
    by_cases hj : j = k
    · subst hj
      rw [if_neg (by omega), row_s, if_pos (by omega)]
    · rw [row_o _ _ _ hj]
      by_cases h1 : k + 1 ≤ j ∧ j < n
      · rw [if_pos h1, if_pos (by omega)]
      · rw [if_neg h1, if_neg (by omega)]
/-- row y becomes row x, as far as n -/
def cp (m : Nat → Nat → Int) (x y n : Nat) : Nat → Nat → Int := row m y (fun j => if j < n then m x j else m y j)
theorem V_163 (hd : 1 ≤ d) (hx : rShp x = some (aS 0 n1 b1 k1)) (hn1 : n1 ≤ 100000) (hy : rShp y = some (aS 0 n2 b2 k2)) (hn2 : n2 ≤ 100000) (hxy : x ≠ y) (h1 : n ≤ n1) (h2 : n ≤ n2) : ev d 163 [.ref 363, .ref x, .ref y, .int (iI n)] (mk m q w) = vV (mk (cp m x y n) q w) := by
  rw [e_163 hd _ rfl rfl rfl rfl, b_163_0 hx hn1 hy hn2]
  refine Eq.trans (L_163 hx hn1 hy hn2 hxy h1 h2 n 0 m (by omega)) ?_
  unfold cp
  simp only [Nat.zero_le, true_and]
theorem V_200 (hd : 2 ≤ d) : ev d 200 [.ref 363] (mk m q w) = vV (mk (cp m 376 377 48) q w) := by
  rw [e_200 (by omega) _ rfl, b_200_0]
  have := V_163 (m := m) (q := q) (w := w) (n := 48) (show 1 ≤ d - 1 by omega) s_376 (by decide) s_377 (by decide) (by decide) (by decide) (by decide)
  rw [show iI 48 = iI ((48 : Nat) : Int) from rfl, this]
  simp only [rBd_v, Option.toList_some, Option.toList_none, List.cons_append, List.nil_append, List.append_nil, b_200_14]
end S
