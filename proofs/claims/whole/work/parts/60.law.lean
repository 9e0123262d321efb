/-! ===== the law's values: facts, bits ===== -/
def bcE (v0 : Int) : Int := zAnd (((zAnd (((zAnd (v0 - (zAnd (zUsh v0 1) (((1431655765 : Nat) : Int)))) (((858993459 : Nat) : Int))) + (zAnd (zUsh (v0 - (zAnd (zUsh v0 1) (((1431655765 : Nat) : Int)))) 2) (((858993459 : Nat) : Int)))) + (zUsh ((zAnd (v0 - (zAnd (zUsh v0 1) (((1431655765 : Nat) : Int)))) (((858993459 : Nat) : Int))) + (zAnd (zUsh (v0 - (zAnd (zUsh v0 1) (((1431655765 : Nat) : Int)))) 2) (((858993459 : Nat) : Int)))) 4)) (((252645135 : Nat) : Int))) + (zUsh (zAnd (((zAnd (v0 - (zAnd (zUsh v0 1) (((1431655765 : Nat) : Int)))) (((858993459 : Nat) : Int))) + (zAnd (zUsh (v0 - (zAnd (zUsh v0 1) (((1431655765 : Nat) : Int)))) 2) (((858993459 : Nat) : Int)))) + (zUsh ((zAnd (v0 - (zAnd (zUsh v0 1) (((1431655765 : Nat) : Int)))) (((858993459 : Nat) : Int))) + (zAnd (zUsh (v0 - (zAnd (zUsh v0 1) (((1431655765 : Nat) : Int)))) 2) (((858993459 : Nat) : Int)))) 4)) (((252645135 : Nat) : Int))) 8)) + (zUsh ((zAnd (((zAnd (v0 - (zAnd (zUsh v0 1) (((1431655765 : Nat) : Int)))) (((858993459 : Nat) : Int))) + (zAnd (zUsh (v0 - (zAnd (zUsh v0 1) (((1431655765 : Nat) : Int)))) 2) (((858993459 : Nat) : Int)))) + (zUsh ((zAnd (v0 - (zAnd (zUsh v0 1) (((1431655765 : Nat) : Int)))) (((858993459 : Nat) : Int))) + (zAnd (zUsh (v0 - (zAnd (zUsh v0 1) (((1431655765 : Nat) : Int)))) 2) (((858993459 : Nat) : Int)))) 4)) (((252645135 : Nat) : Int))) + (zUsh (zAnd (((zAnd (v0 - (zAnd (zUsh v0 1) (((1431655765 : Nat) : Int)))) (((858993459 : Nat) : Int))) + (zAnd (zUsh (v0 - (zAnd (zUsh v0 1) (((1431655765 : Nat) : Int)))) 2) (((858993459 : Nat) : Int)))) + (zUsh ((zAnd (v0 - (zAnd (zUsh v0 1) (((1431655765 : Nat) : Int)))) (((858993459 : Nat) : Int))) + (zAnd (zUsh (v0 - (zAnd (zUsh v0 1) (((1431655765 : Nat) : Int)))) 2) (((858993459 : Nat) : Int)))) 4)) (((252645135 : Nat) : Int))) 8)) 16)) 63
def pc (o : Nat) : Nat := bt o 0 + bt o 1 + bt o 2 + bt o 3 + bt o 4 + bt o 5 + bt o 6
theorem bc_ok : ∀ o : Nat, o < 128 → bcE o = (pc o : Int) := by decide +kernel
section S
variable {d n : Nat} {m : Nat → Nat → Int} {q : Nat → Nat → Option Nat} {w : Option (Nat → Int64)} {x : Nat}
theorem T_38 (hd : 1 ≤ d) {o : Nat} (ho : o < 128) : ev d 38 [.int (iI o)] (mk m q w) = vI (pc o) (mk m q w) := by
  rw [e_38 hd _ rfl, ← bc_ok o ho]
  exact b_38_0
theorem T_37 (hd : 1 ≤ d) (hx : iLaw x) {a b : Int} : ev d 37 [.ref x, .int (iI a), .int (iI b)] (mk m q w) = vV (mk (wr (wr m (x + 3) 0 a) (x + 3) 1 b) q w) := by
  rw [e_37 hd _ rfl rfl rfl, b_37_0 hx]
theorem T_39 (hd : 1 ≤ d) (hx : iLaw x) {a b c e f : Int} : ev d 39 [.ref x, .int (iI a), .int (iI b), .int (iI c), .int (iI e), .int (iI f)] (mk m q w) = vV (mk (wr (wr (wr (wr (wr m (x + 3) 2 a) (x + 3) 3 b) (x + 3) 4 c) (x + 3) 5 e) (x + 3) 6 f) q w) := by
  rw [e_39 hd _ rfl rfl rfl rfl rfl rfl, b_39_0 hx]
theorem T_41 (hd : 1 ≤ d) (hx : iLaw x) {k : Nat} (hk : k < 7) : ev d 41 [.ref x, .int (iI (-1 - k))] (mk m q w) = vI (m (x + 3) k) (mk m q w) := by
  rw [e_41 hd _ rfl rfl]
  simp only [b_41_0 hx, show -1 - (-1 - (k : Int)) = k by omega, iI_lt (by omega : i32 (k : Int)) (by omega : i32 0), iI_lt (by omega : i32 (k : Int)) (by omega : i32 7)]
  rw [if_neg (by omega), if_pos (by omega), b_41_14 hx (by omega) (by omega), b_41_24, Int.toNat_natCast]
/-- what joins two values: 2 plus, 3 minus, 4 times, 5 by, 6 least, 7 most, 8 left -/
def jn (c : Nat) (a b : Int32) : Int32 := if c = 2 then a + b else if c = 3 then a - b else if c = 4 then a * b else if c = 5 then (if b = 0 then 0 else a / b) else if c = 8 then (if b = 0 then 0 else a - a / b * b) else if c = 6 then (if b < a then b else a) else (if a < b then b else a)
theorem V_192 (hd : 1 ≤ d) {c : Nat} (hc : 2 ≤ c ∧ c ≤ 8) {a b : Int} : ev d 192 [.int (iI c), .int (iI a), .int (iI b)] (mk m q w) = some (.inl (some (.int (jn c (iI a) (iI b)))), (mk m q w, (0, 0))) := by
  have hle : ∀ x y : Int32, ¬ x < y → ¬ y < x → x = y := fun x y h1 h2 => Int32.le_antisymm (Int32.not_lt.mp h2) (Int32.not_lt.mp h1)
  have h0 : iI 0 = 0 := rfl
  rw [e_192 hd _ rfl rfl rfl]
  have hcs : c = 2 ∨ c = 3 ∨ c = 4 ∨ c = 5 ∨ c = 6 ∨ c = 7 ∨ c = 8 := by omega
  simp only [b_192_0, iI_eq (by omega : i32 (c : Int)) (by omega : i32 2), iI_eq (by omega : i32 (c : Int)) (by omega : i32 3), iI_eq (by omega : i32 (c : Int)) (by omega : i32 4), iI_eq (by omega : i32 (c : Int)) (by omega : i32 5), iI_eq (by omega : i32 (c : Int)) (by omega : i32 8)]
  unfold jn
  rcases hcs with rfl | rfl | rfl | rfl | rfl | rfl | rfl
  · simp (decide := true) only [if_true, if_false, ← iI_add]
  · simp (decide := true) only [if_true, if_false, ← iI_sub]
  · simp (decide := true) only [if_true, if_false, ← iI_mul]
  · simp (decide := true) only [if_true, if_false, b_192_38, iI_eq (by omega : i32 ((5 : Nat) : Int)) (by omega : i32 5), b_192_60]
    by_cases hb : iI b = iI 0
    · rw [if_pos hb, if_pos (hb.trans h0)]
      rfl
    · rw [if_neg hb, if_neg (show ¬ iI b = 0 from hb), b_192_51 hb, b_192_60]
      unfold zDiv
      rw [iI_toInt]
  · simp (decide := true) only [if_true, if_false, b_192_71, b_192_82, b_192_90, iI_eq (by omega : i32 ((6 : Nat) : Int)) (by omega : i32 6)]
    by_cases h1 : iI a < iI b
    · rw [if_pos h1, if_neg (fun h2 => Int32.lt_irrefl (Int32.lt_trans h1 h2))]
    · rw [if_neg h1]
      by_cases h2 : iI b < iI a
      · rw [if_pos h2]
      · rw [if_neg h2, hle _ _ h1 h2]
  · simp (decide := true) only [if_true, if_false, b_192_71, b_192_82, b_192_90, iI_eq (by omega : i32 ((7 : Nat) : Int)) (by omega : i32 6)]
    by_cases h1 : iI a < iI b
    · rw [if_pos h1, if_pos h1]
    · rw [if_neg h1, if_neg h1]
  · simp (decide := true) only [if_true, if_false, b_192_38, iI_eq (by omega : i32 ((8 : Nat) : Int)) (by omega : i32 5), b_192_60]
    by_cases hb : iI b = iI 0
    · rw [if_pos hb, if_pos (hb.trans h0)]
      rfl
    · rw [if_neg hb, if_neg (show ¬ iI b = 0 from hb), b_192_57 hb, b_192_60]
      unfold zRem
      rw [iI_toInt]
end S
