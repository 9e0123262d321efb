/-! ===== a call begins; the reference takes a fan up ===== -/
section S
variable {d n : Nat} {m : Nat → Nat → Int} {q : Nat → Nat → Option Nat} {w : Option (Nat → Int64)}
theorem V_160 (hd : 1 ≤ d) {P : Prop} [Decidable P] {c kd : Int} (hk : kd = 0 ∨ kd = 1) (hc : i32 c) (hc0 : c ≠ 0) (h0 : m 363 0 = 0) : ev d 160 [.ref 363, .int (iI (zb P)), .int (iI c), .int (iI kd)] (mk m q w) = if P then vI 1 (mk m q w) else vI 0 (mk (wr (wr m 363 0 c) 364 kd.toNat (m 364 kd.toNat + 1)) q w) := by
  rw [e_160 hd _ rfl rfl rfl rfl]
  simp only [b_160_0, zb_0, h0]
  by_cases h : P
  · rw [if_neg (not_not_intro h), if_pos h, b_160_26, h0, if_pos rfl, b_160_38 (Or.inr rfl)]
  · rw [if_pos h, if_neg h, if_pos trivial, b_160_11 (by omega) (by omega), b_160_26, wr_o _ _ _ _ (show 363 ≠ 364 by decide), wr_s, if_neg (by rw [iI_eq hc (by omega)]; exact hc0), b_160_38 (Or.inl rfl), wr_o _ _ _ _ (show 364 ≠ 363 by decide)]
theorem V_162 (hd : 1 ≤ d) {s : rd} : ev d 162 [.ref 363] (mk (mr m s) q w) = vV (mk (mr (fx m (m 366) 0 99 20) s) q w) := by
  rw [e_162 hd _ rfl, b_162_0]
  congr 4
  funext a b
  unfold mr mm fx wr row
  by_cases h1 : a = 363
  · subst h1
    by_cases h2 : b = 12
    · simp [h2]
    · by_cases h3 : b = 13
      · simp [h3]
      · by_cases h4 : b = 14
        · simp [h4]
        · simp [h2, h3, h4]
  · by_cases h5 : a = 366
    · subst h5
      simp
    · simp [h1, h5]
theorem L_164a : ∀ (g k : Nat) (m : Nat → Nat → Int), k + g = 48 → gv d rR164 79 [some (.ref 363), some (.int (iI (k : Int)))] [] (mk m q w) = gv d rR164 100 [some (.ref 363), some (.int (iI 0))] [] (mk (row m 376 (fun j => if k ≤ j ∧ j < 48 then 0 else m 376 j)) q w) := by
  intro g
  induction g with
  | zero =>
    intro k m hk
    rw [b_164_79, if_neg (by rw [iI_lt (by omega) (by omega)]; omega), show (fun j => if k ≤ j ∧ j < 48 then 0 else m 376 j) = m 376 from funext fun j => if_neg (by omega), row_self]
  | succ g ih =>
    intro k m hk
    rw [b_164_79, if_pos (by rw [iI_lt (by omega) (by omega)]; omega), b_164_85 (by omega) (by omega), show (k : Int) + 1 = ((k + 1 : Nat) : Int) from rfl, ih (k + 1) _ (by omega), Int.toNat_natCast]
    unfold wr
    rw [row_row]
    congr 6
    funext j
    by_cases hj : j = k
    · subst hj
      rw [if_neg (by omega), row_s, row_s, if_pos (by omega)]
    · rw [row_s, row_o _ _ _ hj]
      by_cases h1 : k + 1 ≤ j ∧ j < 48
      · rw [if_pos h1, if_pos (by omega)]
      · rw [if_neg h1, if_neg (by omega)]
theorem L_164b : ∀ (g k : Nat) (m : Nat → Nat → Int), k + g = 7 → gv d rR164 100 [some (.ref 363), some (.int (iI (k : Int)))] [] (mk m q w) = gv d rR164 100 [some (.ref 363), some (.int (iI ((7 : Nat) : Int)))] [] (mk (row m 376 (fun j => if 28 + k ≤ j ∧ j < 35 then (j : Int) - 28 else m 376 j)) q w) := by
  intro g
  induction g with
  | zero =>
    intro k m hk
    obtain rfl : k = 7 := by omega
    rw [show (fun j : Nat => if 28 + 7 ≤ j ∧ j < 35 then (j : Int) - 28 else m 376 j) = m 376 from funext fun j => if_neg (by omega), row_self]
  | succ g ih =>
    intro k m hk
    rw [b_164_100, if_pos (by rw [iI_lt (by omega) (by omega)]; omega), b_164_106 (by omega) (by omega), show (k : Int) + 1 = ((k + 1 : Nat) : Int) from rfl, ih (k + 1) _ (by omega), show (28 + (k : Int)).toNat = 28 + k by omega]
    unfold wr
    rw [row_row]
    congr 6
    funext j
    by_cases hj : j = 28 + k
    · subst hj
      rw [if_neg (by omega), row_s, row_s, if_pos (by omega)]
      omega
    · rw [row_s, row_o _ _ _ hj]
      by_cases h1 : 28 + (k + 1) ≤ j ∧ j < 35
      · rw [if_pos h1, if_pos (by omega)]
      · rw [if_neg h1, if_neg (by omega)]
/-- a new fan's row -/
def nwR (G : Nat → Int) (pt : Int) (j : Nat) : Int := if j < 28 then G j else if j < 35 then (j : Int) - 28 else if j = 43 then pt else if j = 45 then -1 else 0
theorem V_164 (hd : 2 ≤ d) : ∃ m', ev d 164 [.ref 363] (mk m q w) = vV (mk m' q w) ∧ (∀ a, a ≠ 363 → a ≠ 367 → a ≠ 376 → a ≠ 381 → m' a = m a) ∧ (∀ j, j ≠ 15 → j ≠ 16 → j ≠ 17 → j ≠ 24 → j ≠ 29 → j ≠ 30 → j ≠ 42 → j ≠ 52 → m' 363 j = m 363 j) ∧
    (m' 363 15 = m 363 12 ∧ m' 363 16 = m 363 13 ∧ m' 363 24 = 0 ∧ m' 363 29 = 0 ∧ m' 363 30 = 0 ∧ m' 363 42 = 0 ∧ m' 363 52 = 0) ∧ (m' 381 0 = 0 ∧ m' 381 1 = 0) ∧ ∀ j, j < 48 → m' 376 j = nwR (m 366) (m 363 14) j := by
  rw [e_164 (by omega) _ rfl, b_164_0]
  have h1 := fun (m : Nat → Nat → Int) => V_163 (m := m) (q := q) (w := w) (n := 28) (show 1 ≤ d - 1 by omega) s_366 (by decide) s_367 (by decide) (by decide) (by decide) (by decide)
  have h2 := fun (m : Nat → Nat → Int) => V_163 (m := m) (q := q) (w := w) (n := 28) (show 1 ≤ d - 1 by omega) s_367 (by decide) s_376 (by decide) (by decide) (by decide) (by decide)
  rw [show iI 28 = iI ((28 : Nat) : Int) from rfl, h1]
  simp only [rBd_v, Option.toList_some, Option.toList_none, List.cons_append, List.nil_append, List.append_nil]
  rw [b_164_38, show iI 0 = iI ((0 : Nat) : Int) from rfl, L_164a 48 0 _ rfl, show iI 0 = iI ((0 : Nat) : Int) from rfl, L_164b 7 0 _ rfl, b_164_100, if_neg (by decide), show iI 28 = iI ((28 : Nat) : Int) from rfl, h2]
  simp only [rBd_v, Option.toList_some, Option.toList_none, List.cons_append, List.nil_append, List.append_nil]
  rw [b_164_136]
  refine ⟨_, rfl, ?_, ?_, ?_, ?_, ?_⟩
  · intro a a1 a2 a3 a4
    unfold cp
    simp only [wr_o _ _ _ _ a1, wr_o _ _ _ _ a3, wr_o _ _ _ _ a4, row_o _ _ _ a3, row_o _ _ _ a2]
  · intro j j1 j2 j3 j4 j5 j6 j7 j8
    unfold cp
    simp [wr, row, j1, j2, j3, j4, j5, j6, j7, j8]
  · unfold cp
    simp [wr, row]
  · unfold cp
    simp [wr, row]
  · intro j hj
    unfold cp nwR
    by_cases c1 : j = 43
    · subst c1
      simp [wr, row]
    · by_cases c2 : j = 45
      · subst c2
        simp [wr, row]
      · by_cases c3 : j < 28
        · simp [wr, row, c1, c2, c3]
        · by_cases c4 : j < 35
          · have c5 : 28 ≤ j := by omega
            simp [wr, row, c1, c2, c3, c4, c5]
          · simp [wr, row, c1, c2, c3, c4, hj]
end S
