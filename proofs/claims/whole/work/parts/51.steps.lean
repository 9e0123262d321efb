/-! ===== a fan of the class: its steps ===== -/
theorem fan_far {x y : Nat} (hx : iFan x) (hy : iFan y) (h : x ≠ y) : x + 3 ≤ y ∨ y + 3 ≤ x := (by decide +kernel : ∀ x ∈ fanIds, ∀ y ∈ fanIds, x ≠ y → x + 3 ≤ y ∨ y + 3 ≤ x) x hx y hy h
/-- fan x becomes fan y -/
def bc (m : Nat → Nat → Int) (x y : Nat) : Nat → Nat → Int := row (row (row m x (fun j => if j < 9 then m y j else m x j)) (x + 1) (fun j => if j < 7 then m (y + 1) j else m (x + 1) j)) (x + 2) (fun j => if j < 28 then m (y + 2) j else m (x + 2) j)
section BC
variable (m : Nat → Nat → Int) {x y : Nat}
theorem bc_0 {j : Nat} (h : j < 9) : bc m x y x j = m y j := by
  unfold bc
  rw [row_o _ _ _ (by omega : x ≠ x + 2), row_o _ _ _ (by omega : x ≠ x + 1), row_s]
  exact if_pos h
theorem bc_1 {j : Nat} (h : j < 7) : bc m x y (x + 1) j = m (y + 1) j := by
  unfold bc
  rw [row_o _ _ _ (by omega : x + 1 ≠ x + 2), row_s]
  exact if_pos h
theorem bc_2 {j : Nat} (h : j < 28) : bc m x y (x + 2) j = m (y + 2) j := by
  unfold bc
  rw [row_s]
  exact if_pos h
theorem bc_o {z : Nat} (h0 : z ≠ x) (h1 : z ≠ x + 1) (h2 : z ≠ x + 2) : bc m x y z = m z := by
  unfold bc
  rw [row_o _ _ _ h2, row_o _ _ _ h1, row_o _ _ _ h0]
end BC
section S
variable {d n : Nat} {m : Nat → Nat → Int} {q : Nat → Nat → Option Nat} {w : Option (Nat → Int64)} {o x y : Nat}
theorem T_22 (hd : 10 ≤ d) (hx : iFan x) (hy : iFan y) (h : x ≠ y) : ev d 22 [.ref x, .ref y] (mk m q w) = vV (mk (bc m x y) q w) := by
  have hf := fan_far hx hy h
  rw [e_22 (by omega) _ rfl rfl, b_22_0 hy hx (show 9 ≤ d - 1 by omega)]
  simp only [wr_o _ _ _ _ (Ne.symm h)]
  have hA : ∀ (f g : Nat → Int), row (row (wr (wr (wr (wr (wr (wr (wr (wr (wr m x 0 (m y 0)) x 1 (m y 1)) x 2 (m y 2)) x 3 (m y 3)) x 4 (m y 4)) x 5 (m y 5)) x 6 (m y 6)) x 7 (m y 7)) x 8 (m y 8)) (x + 1) f) (x + 2) g = row (row (row m x (fun j => if j < 9 then m y j else m x j)) (x + 1) f) (x + 2) g := by
    intro f g
    congr 2
    funext z j
    by_cases hz : z = x
    · subst hz
      rw [row_s]
      by_cases hj : j < 9
      · rw [if_pos hj]
        have : j = 0 ∨ j = 1 ∨ j = 2 ∨ j = 3 ∨ j = 4 ∨ j = 5 ∨ j = 6 ∨ j = 7 ∨ j = 8 := by omega
        rcases this with rfl | rfl | rfl | rfl | rfl | rfl | rfl | rfl | rfl <;> simp [wr, row]
      · rw [if_neg hj]
        simp [wr, row, show j ≠ 0 by omega, show j ≠ 1 by omega, show j ≠ 2 by omega, show j ≠ 3 by omega, show j ≠ 4 by omega, show j ≠ 5 by omega, show j ≠ 6 by omega, show j ≠ 7 by omega, show j ≠ 8 by omega]
    · rw [row_o _ _ _ hz]
      simp only [wr_o _ _ _ _ hz]
  rw [hA]
  unfold bc
  have hB : ∀ (f : Nat → Int) (z : Nat), z ≠ x → z ≠ x + 1 → row (row m x f) (x + 1) = row (row m x f) (x + 1) := fun _ _ _ _ => rfl
  simp only [row_o _ _ _ (show x + 1 ≠ x by omega), row_o _ _ _ (show y + 1 ≠ x by omega), row_o _ _ _ (show x + 2 ≠ x + 1 by omega), row_o _ _ _ (show x + 2 ≠ x by omega), row_o _ _ _ (show y + 2 ≠ x + 1 by omega), row_o _ _ _ (show y + 2 ≠ x by omega), wr_o _ _ _ _ (show x + 1 ≠ x by omega), wr_o _ _ _ _ (show y + 1 ≠ x by omega), wr_o _ _ _ _ (show x + 2 ≠ x by omega), wr_o _ _ _ _ (show y + 2 ≠ x by omega)]
  simp
theorem T_23 (hd : 1 ≤ d) (hx : iFan x) (h7 : i32 (m x 7)) : ev d 23 [.ref x] (mk m q w) = vI (zb (m x 7 = -1)) (mk m q w) := by
  rw [e_23 hd _ rfl]
  simp only [b_23_0 hx, b_23_13 (Or.inl rfl), b_23_13 (Or.inr rfl), iI_eq h7 (by omega : i32 (-1))]
  unfold zb
  split <;> rfl
theorem T_24 (hd : 2 ≤ d) (hx : iFan x) (h7 : i32 (m x 7)) : ev d 24 [.ref x] (mk m q w) = if m x 7 = -1 then vI 0 (mk m q w) else vI 1 (mk (wr (wr m x 7 (-1)) x 8 0) q w) := by
  rw [e_24 (by omega) _ rfl]
  simp only [b_24_0 hx, T_23 (show 1 ≤ d - 1 by omega) hx h7, rBd_v, Option.toList_some, Option.toList_none, List.cons_append, List.nil_append, List.append_nil, b_24_4 hx, zb_0]
  by_cases h : m x 7 = -1
  · rw [if_neg (not_not_intro h), if_pos h]
  · rw [if_pos h, if_neg h]
theorem T_33 (hd : 2 ≤ d) (hx : iFan x) {p : Int} (hp : i32 p) (hn : i32 (m x 0 - 1)) : ev d 33 [.ref x, .int (iI p)] (mk m q w) = vI (zb (0 ≤ p ∧ p < m x 0)) (mk m q w) := by
  rw [e_33 (by omega) _ rfl rfl]
  simp only [b_33_0 hx, T_6 (show 1 ≤ d - 1 by omega) hp (by omega : i32 0) hn, rBd_v, Option.toList_some, Option.toList_none, List.cons_append, List.nil_append, List.append_nil, b_33_11 (zb_01 _)]
  unfold zb
  repeat' split
  all_goals first | rfl | (exfalso; omega)
theorem T_45 (hd : 3 ≤ d) (hx : iFan x) (h7 : i32 (m x 7)) (hn : m x 0 = n) (hn7 : n ≤ 7) {p k : Int} (hp : i32 p) (hk : i32 k) : ev d 45 [.ref x, .int (iI p), .int (iI k)] (mk m q w) = if m x 7 = -1 ∧ p ≠ k ∧ (0 ≤ p ∧ p < n) ∧ (0 ≤ k ∧ k < n) then vI 1 (mk (wr (wr m (x + 1) p.toNat (m (x + 1) k.toNat)) (x + 1) k.toNat (m (x + 1) p.toNat)) q w) else vI 0 (mk m q w) := by
  rw [e_45 (by omega) _ rfl rfl rfl]
  simp only [b_45_0 hx, T_23 (show 1 ≤ d - 1 by omega) hx h7, rBd_v, Option.toList_some, Option.toList_none, List.cons_append, List.nil_append, List.append_nil, b_45_4 hx, zb_0, b_45_28, iI_eq hp hk, T_13 (m := m) (show 2 ≤ d - 1 by omega) hx hp (by rw [hn]; omega), T_13 (m := m) (show 2 ≤ d - 1 by omega) hx hk (by rw [hn]; omega), hn, b_45_17 hx, b_45_25 hx]
  by_cases h1 : m x 7 = -1
  · rw [if_neg (not_not_intro h1)]
    by_cases h2 : p = k
    · rw [if_pos h2, if_neg (fun z => z.2.1 h2)]
    · rw [if_neg h2]
      by_cases h3 : 0 ≤ p ∧ p < n
      · rw [if_neg (not_not_intro h3)]
        by_cases h4 : 0 ≤ k ∧ k < n
        · rw [if_neg (not_not_intro h4), if_pos ⟨h1, h2, h3, h4⟩, b_45_30 hx (by omega) (by omega) (by omega) (by omega)]
        · rw [if_pos h4, if_neg (fun z => h4 z.2.2.2)]
      · rw [if_pos h3, if_neg (fun z => h3 z.2.2.1)]
  · rw [if_pos h1, if_neg (fun z => h1 z.1)]
theorem T_46 (hd : 3 ≤ d) (hx : iFan x) (h7 : i32 (m x 7)) (hn : m x 0 = n) (hn7 : n ≤ 7) {p : Int} (hp : i32 p) : ev d 46 [.ref x, .int (iI p)] (mk m q w) = if m x 7 = -1 ∧ (0 ≤ p ∧ p < n) then vI 1 (mk (wr m x 6 (zXor (m x 6) (zShl 1 (m (x + 1) p.toNat)))) q w) else vI 0 (mk m q w) := by
  rw [e_46 (by omega) _ rfl rfl]
  simp only [b_46_0 hx, T_23 (show 1 ≤ d - 1 by omega) hx h7, rBd_v, Option.toList_some, Option.toList_none, List.cons_append, List.nil_append, List.append_nil, b_46_4 hx, zb_0, b_46_15, T_13 (m := m) (show 2 ≤ d - 1 by omega) hx hp (by rw [hn]; omega), hn, b_46_12 hx]
  by_cases h1 : m x 7 = -1
  · rw [if_neg (not_not_intro h1)]
    by_cases h3 : 0 ≤ p ∧ p < n
    · rw [if_neg (not_not_intro h3), if_pos ⟨h1, h3⟩, b_46_17 hx (by omega) (by omega)]
    · rw [if_pos h3, if_neg (fun z => h3 z.2)]
  · rw [if_pos h1, if_neg (fun z => h1 z.1)]
theorem T_48 (hd : 1 ≤ d) (hx : iFan x) (h2 : 0 ≤ m x 2 ∧ m x 2 < 100000) : ev d 48 [.ref x] (mk m q w) = if m x 2 = 0 then vI 0 (mk m q w) else vI 1 (mk (wr m x 2 (zDiv (m x 2) 2)) q w) := by
  rw [e_48 hd _ rfl]
  simp only [b_48_0 hx, iI_eq (by omega : i32 (m x 2)) (by omega : i32 0)]
theorem T_49 (hd : 10 ≤ d) (hx : iFan x) (h2 : 0 ≤ m x 2 ∧ m x 2 < 100000) (h3 : 0 ≤ m x 3 ∧ m x 3 < 100000) : ev d 49 [.ref x] (mk m q w) = vV (mk (wr (wr (wr m x 2 (if 3 < m x 2 then m x 2 - 3 else 0)) x 3 (if 97 < m x 3 then 99 else m x 3 + 2)) x 4 (m x 4 + 1)) q w) := by
  rw [e_49 (by omega) _ rfl, b_49_0 hx (show 9 ≤ d - 1 by omega)]
  simp only [wr_b _ _ _ _ (show 3 ≠ 2 by decide), wr_b _ _ _ _ (show 4 ≠ 2 by decide), wr_b _ _ _ _ (show 4 ≠ 3 by decide), iI_lt (by omega : i32 (m x 2 - 3)) (by omega : i32 0), iI_lt (by omega : i32 99) (by omega : i32 (m x 3 + 2))]
  rw [show (if m x 2 - 3 < 0 then 0 else m x 2 - 3) = if 3 < m x 2 then m x 2 - 3 else 0 by split <;> split <;> omega, show (if 99 < m x 3 + 2 then 99 else m x 3 + 2) = if 97 < m x 3 then 99 else m x 3 + 2 by split <;> split <;> omega]
theorem T_50 (hd : 11 ≤ d) (hx : iFan x) (h2 : 0 ≤ m x 2 ∧ m x 2 < 100000) (h3 : 0 ≤ m x 3 ∧ m x 3 < 100000) (h4 : i32 (m x 4)) : ev d 50 [.ref x] (mk m q w) = if m x 4 < 400 then vI 1 (mk (wr (wr (wr m x 2 (if 3 < m x 2 then m x 2 - 3 else 0)) x 3 (if 97 < m x 3 then 99 else m x 3 + 2)) x 4 (m x 4 + 1)) q w) else vI 0 (mk m q w) := by
  rw [e_50 (by omega) _ rfl]
  simp only [b_50_0 hx, iI_lt h4 (by omega : i32 400), T_49 (m := m) (show 10 ≤ d - 1 by omega) hx h2 h3, rBd_v, Option.toList_some, Option.toList_none, List.cons_append, List.nil_append, List.append_nil, b_50_16]
end S
