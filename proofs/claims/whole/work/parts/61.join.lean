/-! ===== what joins two values: the class ===== -/
def cd (c : Nat) : Int := if c = 2 then -11 else if c = 3 then -12 else if c = 4 then -13 else if c = 5 then -14 else if c = 8 then -15 else if c = 6 then -16 else -17
section S
variable {d n : Nat} {m : Nat → Nat → Int} {q : Nat → Nat → Option Nat} {w : Option (Nat → Int64)}
theorem T_40 (hd : 10 ≤ d) {c : Nat} (hc : 2 ≤ c ∧ c ≤ 8) {a b : Int} : ev d 40 [.int (iI (cd c)), .int (iI a), .int (iI b)] (mk m q w) = some (.inl (some (.int (jn c (iI a) (iI b)))), (mk m q w, (0, 0))) := by
  have h0 : iI 0 = 0 := rfl
  have hcs : c = 2 ∨ c = 3 ∨ c = 4 ∨ c = 5 ∨ c = 6 ∨ c = 7 ∨ c = 8 := by omega
  rw [e_40 (by omega) _ rfl rfl rfl, b_40_0]
  unfold jn
  rcases hcs with rfl | rfl | rfl | rfl | rfl | rfl | rfl
  · rw [show cd 2 = -11 from rfl, b_40_1_5, b_40_40]
    simp (decide := true) only [if_true, if_false, ← iI_add]
  · rw [show cd 3 = -12 from rfl, b_40_1_4, b_40_44]
    simp (decide := true) only [if_true, if_false, ← iI_sub]
  · rw [show cd 4 = -13 from rfl, b_40_1_3, b_40_48]
    simp (decide := true) only [if_true, if_false, ← iI_mul]
  · rw [show cd 5 = -14 from rfl, b_40_1_2, b_40_52]
    simp (decide := true) only [if_true, if_false, b_40_63]
    by_cases hb : iI b = iI 0
    · rw [if_pos hb, if_pos (hb.trans h0)]
      rfl
    · rw [if_neg hb, if_neg (show ¬ iI b = 0 from hb), b_40_60 hb, b_40_63]
      unfold zDiv
      rw [iI_toInt]
  · rw [show cd 6 = -16 from rfl, b_40_1_0, b_40_76 (by omega)]
    simp (decide := true) only [if_true, if_false]
    split <;> rfl
  · rw [show cd 7 = -17 from rfl, b_40_1_d (by omega) (by omega), b_40_82 (by omega)]
    simp (decide := true) only [if_true, if_false]
    split <;> rfl
  · rw [show cd 8 = -15 from rfl, b_40_1_1, b_40_64]
    simp (decide := true) only [if_true, if_false, b_40_75]
    by_cases hb : iI b = iI 0
    · rw [if_pos hb, if_pos (hb.trans h0)]
      rfl
    · rw [if_neg hb, if_neg (show ¬ iI b = 0 from hb), b_40_72 hb, b_40_75]
      unfold zRem
      rw [iI_toInt]
end S
