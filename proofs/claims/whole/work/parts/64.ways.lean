/-! ===== ways: how a stick may lie ===== -/
theorem or4 : ∀ a : Nat, a < 4 → ∀ b : Nat, b < 4 → zOr a b = ((a ||| b : Nat) : Int) := by decide +kernel
section S
variable {d n : Nat} {m : Nat → Nat → Int} {q : Nat → Nat → Option Nat} {w : Option (Nat → Int64)} {x n1 b1 k1 : Nat}
theorem L_56 (hx : rShp x = some (aS 0 n1 b1 k1)) (hn1 : n1 ≤ 100000) {z : Int} : ∀ (g k : Nat) (m : Nat → Nat → Int), k + g = n1 → gv d rR56 5 [some (.ref x), some (.int (iI z)), some (.int (iI k)), some (.int (iI (n1 : Nat)))] [] (mk m q w) = vV (mk (row m x (fun j => if k ≤ j ∧ j < n1 then z else m x j)) q w) := by
  intro g
  induction g with
  | zero =>
    intro k m hg
    rw [b_56_5 hx hn1]
    simp only [iI_lt (by omega : i32 (k : Int)) (by omega : i32 (n1 : Int))]
    rw [if_neg (by omega), show (fun j => if k ≤ j ∧ j < n1 then z else m x j) = m x from funext fun j => if_neg (by omega), row_self]
  | succ g ih =>
    intro k m hg
    rw [b_56_5 hx hn1]
    simp only [iI_lt (by omega : i32 (k : Int)) (by omega : i32 (n1 : Int))]
    rw [if_pos (by omega), b_56_10 hx hn1 (by omega) (by omega), show (k : Int) + 1 = ((k + 1 : Nat) : Int) from rfl, ih (k + 1) _ (by omega), Int.toNat_natCast, wr_x]
    unfold wr
    rw [row_row]
    congr 6
    funext j
    by_cases hj : j = k
    · subst hj
      rw [if_neg (by omega), row_s, if_pos (by omega)]
    · rw [row_o _ _ _ hj]
      by_cases h1 : k + 1 ≤ j ∧ j < n1
      · rw [if_pos h1, if_pos (by omega)]
      · rw [if_neg h1, if_neg (by omega)]
theorem T_56 (hd : 1 ≤ d) (hx : rShp x = some (aS 0 n1 b1 k1)) (hn1 : n1 ≤ 100000) {z : Int} : ev d 56 [.ref x, .int (iI z)] (mk m q w) = vV (mk (row m x (fun j => if j < n1 then z else m x j)) q w) := by
  rw [e_56 hd _ rfl rfl, b_56_0 hx hn1]
  refine Eq.trans (L_56 hx hn1 n1 0 m (by omega)) ?_
  simp only [Nat.zero_le, true_and]
/-- the ways a stick may lie for a mark that is wanted: 1 as told, 2 turned over -/
def ft (C : Nat → Int) (s h : Nat) (z : Int) : Nat := if z = 16 then 3 else (if C (4 * s + h) = z then 1 else 0) ||| (if C (4 * s + (3 - h)) = z then 2 else 0)
theorem fan_165 : iFan 165 := (by unfold iFan; decide)
theorem T_89 (hd : 3 ≤ d) {s h : Nat} (hs : s < 7) (hh : h < 4) {z : Int} (hz : i32 z) (hC : ∀ i, i < 28 → i32 (m 167 i)) : ev d 89 [.ref 164, .int (iI s), .int (iI h), .int (iI z)] (mk m q w) = vI (ft (m 167) s h z) (mk m q w) := by
  rw [e_89 (by omega) _ rfl rfl rfl rfl]
  simp only [b_89_0, iI_eq hz (by omega : i32 16)]
  unfold ft
  by_cases h16 : z = 16
  · rw [if_pos h16, if_pos h16]
    rfl
  · rw [if_neg h16, if_neg h16, T_17 (by omega) fan_165 hs hh]
    simp only [rBd_v, Option.toList_some, Option.toList_none, List.cons_append, List.nil_append, List.append_nil, b_89_17, iI_eq (hC (4 * s + h) (by omega)) hz, b_89_26, show 3 - (h : Int) = ((3 - h : Nat) : Int) by omega]
    have hE : ∀ a : Nat, a < 4 → rBd (ev (d - 1) 17 [.ref 165, .int (iI s), .int (iI (3 - h : Nat))] (mk m q w)) (fun v M' => gv (d - 1) rR89 39 [some (.ref 164), some (.int (iI s)), some (.int (iI h)), some (.int (iI z)), some (.int (iI a)), none] (v.toList ++ []) M') = vI ((a ||| (if m 167 (4 * s + (3 - h)) = z then 2 else 0) : Nat) : Int) (mk m q w) := by
      intro a ha
      rw [T_17 (by omega) fan_165 hs (by omega)]
      simp only [rBd_v, Option.toList_some, Option.toList_none, List.cons_append, List.nil_append, List.append_nil, b_89_39, iI_eq (hC (4 * s + (3 - h)) (by omega)) hz, b_89_48]
      by_cases h2 : m 167 (4 * s + (3 - h)) = z
      · rw [if_pos h2, if_pos h2, ← or4 a ha 2 (by omega)]
        rfl
      · rw [if_neg h2, if_neg h2, ← or4 a ha 0 (by omega)]
        rfl
    by_cases h1 : m 167 (4 * s + h) = z
    · rw [if_pos h1, if_pos h1]
      have := hE 1 (by omega)
      simp only [List.append_nil] at this
      exact this
    · rw [if_neg h1, if_neg h1]
      have := hE 0 (by omega)
      simp only [List.append_nil] at this
      exact this
end S
