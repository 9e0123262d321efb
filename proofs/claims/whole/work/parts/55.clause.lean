/-! ===== the words ===== -/
def W11 : List Nat := [97, 103, 97, 105, 110]
theorem W11_t : rTxt 11 = some W11 := rfl
theorem W11_l : isL W11 := ⟨by decide, by decide, by decide⟩
def W12 : List Nat := [108, 101, 97, 115, 116]
theorem W12_t : rTxt 12 = some W12 := rfl
theorem W12_l : isL W12 := ⟨by decide, by decide, by decide⟩
def W13 : List Nat := [109, 111, 115, 116]
theorem W13_t : rTxt 13 = some W13 := rfl
theorem W13_l : isL W13 := ⟨by decide, by decide, by decide⟩
def W14 : List Nat := [111, 105, 108]
theorem W14_t : rTxt 14 = some W14 := rfl
theorem W14_l : isL W14 := ⟨by decide, by decide, by decide⟩
def W15 : List Nat := [111, 112, 101, 110]
theorem W15_t : rTxt 15 = some W15 := rfl
theorem W15_l : isL W15 := ⟨by decide, by decide, by decide⟩
def W16 : List Nat := [111, 112, 101, 110, 101, 100]
theorem W16_t : rTxt 16 = some W16 := rfl
theorem W16_l : isL W16 := ⟨by decide, by decide, by decide⟩
def W18 : List Nat := [112, 97, 105, 110, 116]
theorem W18_t : rTxt 18 = some W18 := rfl
theorem W18_l : isL W18 := ⟨by decide, by decide, by decide⟩
def W20 : List Nat := [112, 111, 116, 115]
theorem W20_t : rTxt 20 = some W20 := rfl
theorem W20_l : isL W20 := ⟨by decide, by decide, by decide⟩
def W22 : List Nat := [114, 105, 118, 101, 116]
theorem W22_t : rTxt 22 = some W22 := rfl
theorem W22_l : isL W22 := ⟨by decide, by decide, by decide⟩
def W23 : List Nat := [115, 101, 97, 115, 111, 110]
theorem W23_t : rTxt 23 = some W23 := rfl
theorem W23_l : isL W23 := ⟨by decide, by decide, by decide⟩
def W24 : List Nat := [115, 104, 117, 116]
theorem W24_t : rTxt 24 = some W24 := rfl
theorem W24_l : isL W24 := ⟨by decide, by decide, by decide⟩
def W25 : List Nat := [115, 116, 105, 99, 107]
theorem W25_t : rTxt 25 = some W25 := rfl
theorem W25_l : isL W25 := ⟨by decide, by decide, by decide⟩
def W26 : List Nat := [115, 119, 97, 112]
theorem W26_t : rTxt 26 = some W26 := rfl
theorem W26_l : isL W26 := ⟨by decide, by decide, by decide⟩
def W28 : List Nat := [116, 117, 114, 110]
theorem W28_t : rTxt 28 = some W28 := rfl
theorem W28_l : isL W28 := ⟨by decide, by decide, by decide⟩
def W29 : List Nat := [116, 117, 114, 110, 101, 100]
theorem W29_t : rTxt 29 = some W29 := rfl
theorem W29_l : isL W29 := ⟨by decide, by decide, by decide⟩
def W30 : List Nat := [118, 105, 101, 119]
theorem W30_t : rTxt 30 = some W30 := rfl
theorem W30_l : isL W30 := ⟨by decide, by decide, by decide⟩
def W32 : List Nat := [119, 101, 97, 114]
theorem W32_t : rTxt 32 = some W32 := rfl
theorem W32_l : isL W32 := ⟨by decide, by decide, by decide⟩
def W33 : List Nat := [119, 105, 100, 101]
theorem W33_t : rTxt 33 = some W33 := rfl
theorem W33_l : isL W33 := ⟨by decide, by decide, by decide⟩
/-! ===== a clause of a fan ===== -/
/-- what a clause does to memory and tape; L: no more clauses are allowed -/
def rdC (T : Nat → Int) (n x st : Nat) (L : Prop) [Decidable L] (m : Nat → Nat → Int) (s : rd) : (Nat → Nat → Int) × rd :=
  if aWd T n W25 (skip T n s.1, s.2) then
    (if L ∨ 7 ≤ st then (m, aBl 3 (skip T n s.1) (aTw T n W25 (skip T n s.1, s.2)))
    else (wr (row m (x + 2) (rdS T n st 4 0 (m (x + 2)) (aTw T n W25 (skip T n s.1, s.2))).1) x 0 (st + 1), (rdS T n st 4 0 (m (x + 2)) (aTw T n W25 (skip T n s.1, s.2))).2))
  else if aWd T n W22 (aTw T n W25 (skip T n s.1, s.2)) then
    (if L then (m, aBl 3 (skip T n s.1) (aTw T n W22 (aTw T n W25 (skip T n s.1, s.2))))
    else (wr m x 1 (aNum T n 1 200 (aTw T n W22 (aTw T n W25 (skip T n s.1, s.2)))).1, (aNum T n 1 200 (aTw T n W22 (aTw T n W25 (skip T n s.1, s.2)))).2))
  else if aWd T n W18 (aTw T n W22 (aTw T n W25 (skip T n s.1, s.2))) then
    (if L then (m, aBl 3 (skip T n s.1) (aTw T n W18 (aTw T n W22 (aTw T n W25 (skip T n s.1, s.2)))))
    else (wr m x 3 (aNum T n 0 99 (aTw T n W18 (aTw T n W22 (aTw T n W25 (skip T n s.1, s.2))))).1, (aNum T n 0 99 (aTw T n W18 (aTw T n W22 (aTw T n W25 (skip T n s.1, s.2))))).2))
  else (m, aBl 1 (skip T n s.1) (aTw T n W18 (aTw T n W22 (aTw T n W25 (skip T n s.1, s.2)))))
section S
variable {d n : Nat} {m : Nat → Nat → Int} {q : Nat → Nat → Option Nat} {w : Option (Nat → Int64)} {T : Nat → Int} {x st : Nat}
theorem T_30 (hd : 12 ≤ d) (hx : iFan x) (hst : st ≤ 7) {s : rd} (hT : onT m T n) (hs : gd n s) (hm : m x 0 = st) (L : Prop) [Decidable L] : ev d 30 [.ref x, .ref 101, .int (iI (zb L))] (mk (tr m s) q w) =
    vV (mk (tr (rdC T n x st L m s).1 (rdC T n x st L m s).2) q w) := by
  have h107 := fan_101 hx
  have hs0 : gd n (skip T n s.1, s.2) := ⟨(skip_le T hs.1).2, hs.2⟩
  have hs1 : gd n (aTw T n W25 (skip T n s.1, s.2)) := aTw_gd' hs0
  have hs2 : gd n (aTw T n W22 (aTw T n W25 (skip T n s.1, s.2))) := aTw_gd' hs1
  have hs3 : gd n (aTw T n W18 (aTw T n W22 (aTw T n W25 (skip T n s.1, s.2)))) := aTw_gd' hs2
  rw [e_30 (by omega) _ rfl rfl rfl]
  simp only [b_30_0 hx, U_2 (show 1 ≤ d - 1 by omega) hT hs, rBd_v, Option.toList_some, Option.toList_none, List.cons_append, List.nil_append, List.append_nil, b_30_4 hx, U_27 (show 10 ≤ d - 1 by omega) hT hs0 W25_t, b_30_11 hx, zb_0]
  unfold rdC
  by_cases h1 : aWd T n W25 (skip T n s.1, s.2)
  · rw [if_neg (not_not_intro h1), if_pos h1]
    simp only [b_30_31 hx, b_30_32 hx, zb_0]
    rw [if_neg (not_not_intro h1)]
    simp only [b_30_57 hx, b_30_58 hx, zb_0]
    rw [if_neg (not_not_intro h1)]
    simp only [b_30_84 hx, zb_0, tr_o (m := m) (show x ≠ 101 by omega), hm, iI_lt (by omega : i32 (st : Int)) (by omega : i32 7), b_30_102, U_5 (kd := 3) (show 1 ≤ d - 1 by omega) hs1, rBd_v, Option.toList_some, Option.toList_none, List.cons_append, List.nil_append, List.append_nil, b_30_108, b_30_155]
    by_cases hL : L
    · rw [if_neg (not_not_intro hL), if_pos (Or.inl hL)]
    · rw [if_pos hL, if_neg (not_not_intro h1)]
      by_cases h7 : 7 ≤ st
      · rw [if_neg (by omega), if_pos (Or.inr h7)]
      · rw [if_pos (by omega), if_neg (fun z => z.elim hL h7)]
        simp only [b_30_111 hx, zb_0]
        rw [if_neg (not_not_intro h1), T_29 (by omega) hx (by omega) hT hs1 hm]
        simp only [rBd_v, Option.toList_some, Option.toList_none, List.cons_append, List.nil_append, List.append_nil, b_30_121, b_30_155]
  · rw [if_pos h1, if_neg h1]
    simp only [U_27 (show 10 ≤ d - 1 by omega) hT hs1 W22_t, rBd_v, Option.toList_some, Option.toList_none, List.cons_append, List.nil_append, List.append_nil, b_30_24 hx, zb_0]
    by_cases h2 : aWd T n W22 (aTw T n W25 (skip T n s.1, s.2))
    · rw [if_neg (not_not_intro h2), if_pos h2]
      simp only [b_30_32 hx, zb_0]
      rw [if_pos h1, if_neg iI10]
      simp only [b_30_57 hx, b_30_58 hx, zb_0]
      rw [if_pos h1, if_neg iI10]
      simp only [b_30_84 hx, zb_0, b_30_102, U_5 (kd := 3) (show 1 ≤ d - 1 by omega) hs2, rBd_v, Option.toList_some, Option.toList_none, List.cons_append, List.nil_append, List.append_nil, b_30_108, b_30_155]
      by_cases hL : L
      · rw [if_neg (not_not_intro hL), if_pos hL]
      · rw [if_pos hL, if_pos h1, if_neg hL]
        simp only [b_30_111 hx, zb_0]
        rw [if_pos h1, if_neg iI10, U_7 (show 10 ≤ d - 1 by omega) hT hs2 (by omega) (by omega)]
        simp only [rBd_v, Option.toList_some, Option.toList_none, List.cons_append, List.nil_append, List.append_nil, b_30_138 hx, b_30_155, tr_wo (m := m) (show x ≠ 101 by omega)]
    · rw [if_pos h2, if_neg h2]
      simp only [b_30_31 hx, b_30_32 hx, zb_0]
      rw [if_pos h1, if_pos trivial]
      simp only [U_27 (show 10 ≤ d - 1 by omega) hT hs2 W18_t, rBd_v, Option.toList_some, Option.toList_none, List.cons_append, List.nil_append, List.append_nil, b_30_50 hx, zb_0]
      by_cases h3 : aWd T n W18 (aTw T n W22 (aTw T n W25 (skip T n s.1, s.2)))
      · rw [if_neg (not_not_intro h3), if_pos h3]
        simp only [b_30_58 hx, zb_0]
        rw [if_pos h1, if_pos trivial, if_neg iI10]
        simp only [b_30_84 hx, zb_0, b_30_102, U_5 (kd := 3) (show 1 ≤ d - 1 by omega) hs3, rBd_v, Option.toList_some, Option.toList_none, List.cons_append, List.nil_append, List.append_nil, b_30_108, b_30_155]
        by_cases hL : L
        · rw [if_neg (not_not_intro hL), if_pos hL]
        · rw [if_pos hL, if_pos h1, if_neg hL]
          simp only [b_30_111 hx, zb_0]
          rw [if_pos h1, if_pos trivial, U_7 (show 10 ≤ d - 1 by omega) hT hs3 (by omega) (by omega)]
          simp only [rBd_v, Option.toList_some, Option.toList_none, List.cons_append, List.nil_append, List.append_nil, b_30_152 hx, b_30_155, tr_wo (m := m) (show x ≠ 101 by omega)]
      · rw [if_pos h3, if_neg h3]
        simp only [b_30_57 hx, b_30_58 hx, zb_0]
        rw [if_pos h1, if_pos trivial, if_pos trivial]
        simp only [U_5 (kd := 1) (show 1 ≤ d - 1 by omega) hs3, rBd_v, Option.toList_some, Option.toList_none, List.cons_append, List.nil_append, List.append_nil, b_30_81, b_30_155]
end S
