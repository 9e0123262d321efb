/-! ===== a text begins, a text ends ===== -/
section S
variable {d n : Nat} {m : Nat → Nat → Int} {q : Nat → Nat → Option Nat} {w : Option (Nat → Int64)} {T : Nat → Int} {s : rd}
theorem T_82 (hd : 1 ≤ d) {a b : Int} (ha : i32 a) (hb : i32 b) (h1 : i32 (m 101 1)) : ev d 82 [.ref 101, .int (iI a), .int (iI b)] (mk m q w) = vI (zb (0 ≤ a ∧ a ≤ b ∧ a ≤ m 101 1)) (mk m q w) := by
  rw [e_82 hd _ rfl rfl rfl]
  simp only [b_82_0, b_82_21, b_82_22 (Or.inl rfl), b_82_22 (Or.inr rfl), iI_lt ha (by omega : i32 0), iI_lt hb ha, iI_lt h1 ha]
  unfold zb
  repeat' split
  all_goals first | rfl | (exfalso; omega)
theorem T_83 (hd : 10 ≤ d) {a : Int} (ha : i32 a) (h1 : i32 (m 101 1)) (hle : a ≤ m 101 1) : ev d 83 [.ref 101, .int (iI a)] (mk m q w) = vV (mk (tr (wr m 101 2 a) (0, 0, -1)) q w) := by
  rw [e_83 (by omega) _ rfl rfl, b_83_0 (show 9 ≤ d - 1 by omega)]
  simp only [iI_lt h1 ha]
  rw [if_neg (by omega), show wr (wr (wr (wr m 101 2 a) 101 3 0) 101 4 0) 101 5 (-1) = tr (wr m 101 2 a) (0, 0, -1) from ?_]
  have h0 : wr m 101 2 a = tr (wr m 101 2 a) (m 101 3 |>.toNat, m 101 4, m 101 5) ∨ True := Or.inr trivial
  funext y j
  unfold tr tm wr row
  by_cases h : y = 101
  · by_cases h5 : j = 5
    · simp [h, h5]
    · by_cases h4 : j = 4
      · simp [h, h4]
      · by_cases h3 : j = 3
        · simp [h, h3]
        · simp [h, h3, h4, h5]
  · simp [h]
theorem tr_w1 {z : Int} : wr (tr m s) 101 1 z = tr (wr m 101 1 z) s := by
  funext y j
  unfold tr tm wr row
  by_cases h : y = 101
  · by_cases h5 : j = 5
    · simp [h, h5]
    · by_cases h4 : j = 4
      · simp [h, h4]
      · by_cases h3 : j = 3
        · simp [h, h3]
        · simp [h, h3, h4, h5]
  · simp [h]
/-- the text's end: what stands behind it is a fault -/
def aFi (T : Nat → Int) (n : Nat) (s : rd) : rd := if skip T n s.1 < n then aBl 1 (skip T n s.1) (skip T n s.1, s.2) else (skip T n s.1, s.2)
theorem aFi_gd (h : gd n s) : gd n (aFi T n s) := by
  have hs2 : gd n (skip T n s.1, s.2) := ⟨(skip_le T h.1).2, h.2⟩
  unfold aFi
  split
  · exact aBl_gd hs2 (by omega)
  · exact hs2
theorem T_85 (hd : 3 ≤ d) (h : onT m T n) (hs : gd n s) : ev d 85 [.ref 101] (mk (tr m s) q w) = vI (zb ((aFi T n s).2.1 ≠ 0)) (mk (tr (wr m 101 1 0) (aFi T n s)) q w) := by
  have hg := aFi_gd (T := T) hs
  have hs2 : gd n (skip T n s.1, s.2) := ⟨(skip_le T hs.1).2, hs.2⟩
  have hE : ∀ s2 : rd, gd n s2 → gv (d - 1) rR85 16 [some (.ref 101)] [] (mk (tr m s2) q w) = vI (zb (s2.2.1 ≠ 0)) (mk (tr (wr m 101 1 0) s2) q w) := by
    intro s2 h2
    simp only [b_85_16, tr_w1, tr_4, iI_eq h2.2 (by omega : i32 0), b_85_33 (Or.inl rfl), b_85_33 (Or.inr rfl)]
    unfold zb
    by_cases h0 : s2.2.1 = 0 <;> simp [h0]
  rw [e_85 (by omega) _ rfl]
  simp only [b_85_0, U_84 (show 2 ≤ d - 1 by omega) h hs, rBd_v, Option.toList_some, Option.toList_none, List.cons_append, List.nil_append, List.append_nil, b_85_4, zb_0, tr_3, U_5 (kd := 1) (show 1 ≤ d - 1 by omega) hs2, hE _ hs2]
  unfold aFi at hg ⊢
  by_cases hl : skip T n s.1 < n
  · rw [if_pos hl] at hg
    rw [if_pos (by omega), if_pos hl]
    exact hE _ hg
  · rw [if_neg (by omega), if_neg hl]
theorem T_86 (hd : 1 ≤ d) : ev d 86 [.ref 101] (mk (tr m s) q w) = vI (s.2.1 - 10) (mk (tr m s) q w) := by
  rw [e_86 hd _ rfl, b_86_0, tr_4]
theorem T_80 (hd : 1 ≤ d) (h1 : 0 ≤ m 101 1 ∧ m 101 1 ≤ 600) : ev d 80 [.ref 101] (mk m q w) = vI (zb (m 101 1 ≤ 580)) (mk m q w) := by
  rw [e_80 hd _ rfl]
  simp only [b_80_0, b_80_18 (Or.inl rfl), b_80_18 (Or.inr rfl), iI_lt (by omega : i32 600) (by omega : i32 (m 101 1 + 20))]
  unfold zb
  repeat' split
  all_goals first | rfl | (exfalso; omega)
/-! the reference -/
theorem V_178 (hd : 1 ≤ d) {a : Int} : ev d 178 [.ref 363, .int (iI a)] (mk m q w) = vV (mk (mr (wr (wr (wr (wr m 363 2 0) 363 8 (-1)) 363 3 a) 363 7 0) (0, -1, m 363 6)) q w) := by
  rw [e_178 hd _ rfl rfl, b_178_0]
  congr 4
  funext y j
  unfold mr mm wr row
  by_cases h : y = 363
  · by_cases h7 : j = 7
    · simp [h, h7]
    · by_cases h5 : j = 5
      · simp [h, h5]
      · by_cases h4 : j = 4
        · simp [h, h4]
        · by_cases h6 : j = 6
          · simp [h, h6]
          · simp [h, h4, h5, h6, h7]
  · simp [h]
theorem mr_w8 {z : Int} : wr (mr m s) 363 8 z = mr (wr m 363 8 z) s := by
  funext y j
  unfold mr mm wr row
  by_cases h : y = 363
  · by_cases h5 : j = 5
    · simp [h, h5]
    · by_cases h4 : j = 4
      · simp [h, h4]
      · by_cases h3 : j = 6
        · simp [h, h3]
        · simp [h, h3, h4, h5]
  · simp [h]
theorem V_179 (hd : 2 ≤ d) (hs : gx n s) {a : Int} : ev d 179 [.ref 363, .int (iI a)] (mk (mr m s) q w) = vI (if s.2.1 = -1 then a else s.2.2 - 10) (mk (mr (wr m 363 8 s.2.1) s) q w) := by
  rw [e_179 (by omega) _ rfl rfl]
  simp only [b_179_0, mr_5, mr_w8, V_167 (show 1 ≤ d - 1 by omega) hs, rBd_v, Option.toList_some, Option.toList_none, List.cons_append, List.nil_append, List.append_nil, b_179_12, zb_0, mr_6, b_179_26]
  by_cases h : s.2.1 = -1
  · rw [if_neg (not_not_intro h), if_pos h]
  · rw [if_pos h, if_neg h]
end S
