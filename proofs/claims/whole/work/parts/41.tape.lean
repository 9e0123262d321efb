/-! ===== the tape of the class: place, kind of fault, place of fault over a text T that ends at n ===== -/
def tm (m : Nat → Nat → Int) (p k f : Int) : Nat → Nat → Int := row m 101 (row (row (row (m 101) 3 p) 4 k) 5 f)
section TM
variable (m : Nat → Nat → Int) (p k f v v2 : Int)
theorem tm_3 : tm m p k f 101 3 = p := by simp [tm, row]
theorem tm_4 : tm m p k f 101 4 = k := by simp [tm, row]
theorem tm_5 : tm m p k f 101 5 = f := by simp [tm, row]
theorem tm_1 : tm m p k f 101 1 = m 101 1 := by simp [tm, row]
theorem tm_2 : tm m p k f 101 2 = m 101 2 := by simp [tm, row]
theorem tm_o {y : Nat} (h : y ≠ 101) : tm m p k f y = m y := by simp [tm, row, h]
theorem tm_w3 : wr (tm m p k f) 101 3 v = tm m v k f := by
  funext y j
  unfold tm wr row
  by_cases h : y = 101
  · by_cases h3 : j = 3
    · simp [h, h3]
    · simp [h, h3]
  · simp [h]
theorem tm_w45 : wr (wr (tm m p k f) 101 4 v) 101 5 v2 = tm m p v v2 := by
  funext y j
  unfold tm wr row
  by_cases h : y = 101
  · by_cases h3 : j = 5
    · simp [h, h3]
    · by_cases h4 : j = 4
      · simp [h, h4]
      · simp [h, h3, h4]
  · simp [h]
end TM
/-- past blanks -/
def skp (T : Nat → Int) : Nat → Nat → Nat
  | 0, p => p
  | g + 1, p => if T p = 32 then skp T g (p + 1) else p
theorem skp_le (T : Nat → Int) : ∀ (g p : Nat), p ≤ skp T g p ∧ skp T g p ≤ p + g := by
  intro g
  induction g with
  | zero => intro p; exact ⟨Nat.le_refl _, Nat.le_refl _⟩
  | succ g ih =>
    intro p
    unfold skp
    split
    · have := ih (p + 1)
      omega
    · omega
def skip (T : Nat → Int) (n p : Nat) : Nat := skp T (n - p) p
theorem skip_le (T : Nat → Int) {n p : Nat} (h : p ≤ n) : p ≤ skip T n p ∧ skip T n p ≤ n := by
  have := skp_le T (n - p) p
  unfold skip
  omega
/-- the bytes of a text -/
def isT (T : Nat → Int) : Prop := ∀ i, 0 ≤ T i ∧ T i < 256
/-- a tape that is being read -/
def onT (m : Nat → Nat → Int) (T : Nat → Int) (n : Nat) : Prop := m 102 = T ∧ m 101 2 = n ∧ n ≤ 600 ∧ isT T
section S
variable {d n p : Nat} {m : Nat → Nat → Int} {q : Nat → Nat → Option Nat} {w : Option (Nat → Int64)} {T : Nat → Int} {k f : Int}
theorem T_1 (hd : 1 ≤ d) (hk : i32 k) : ev d 1 [.ref 101] (mk (tm m p k f) q w) = vI (zb (k ≠ 0)) (mk (tm m p k f) q w) := by
  rw [e_1 hd _ rfl]
  simp only [b_1_0, b_1_12 (Or.inl rfl), b_1_12 (Or.inr rfl), tm_4, iI_eq hk (by omega : i32 0)]
  unfold zb
  by_cases h : k = 0 <;> simp [h]
theorem L_2 (h : onT m T n) : ∀ (g p : Nat), p + g = n → gv d rR2 0 [some (.ref 101)] [] (mk (tm m p k f) q w) = vI (skp T g p) (mk (tm m (skp T g p) k f) q w) := by
  obtain ⟨h1, h2, h3, h4⟩ := h
  intro g
  induction g with
  | zero =>
    intro p hp
    rw [b_2_0]
    simp only [tm_3, tm_2, h2, b_2_38, iI_lt (by omega : i32 (p : Int)) (by omega : i32 (n : Int))]
    rw [if_neg (by omega)]
    rfl
  | succ g ih =>
    intro p hp
    have := h4 p
    rw [b_2_0]
    simp only [tm_3, tm_2, h2, iI_lt (by omega : i32 (p : Int)) (by omega : i32 (n : Int))]
    rw [if_pos (by omega), b_2_11 (by rw [tm_3]; omega) (by rw [tm_3]; omega)]
    simp only [tm_3, b_2_38, tm_o m p k f (by decide : (102 : Nat) ≠ 101), h1, Int.toNat_natCast, iI_eq (by omega : i32 (T p)) (by omega : i32 32), tm_w3]
    unfold skp
    by_cases hb : T p = 32
    · rw [if_pos hb, if_pos hb]
      exact ih (p + 1) (by omega)
    · rw [if_neg hb, if_neg hb]
theorem T_2 (hd : 1 ≤ d) (h : onT m T n) (hp : p ≤ n) : ev d 2 [.ref 101] (mk (tm m p k f) q w) = vI (skip T n p) (mk (tm m (skip T n p) k f) q w) := by
  rw [e_2 hd _ rfl]
  exact L_2 h (n - p) p (by omega)
theorem T_3 (hd : 1 ≤ d) (h : onT m T n) {a b : Int} (ha : i32 a) (hb : i32 b) {z : Nat} (hz : z ≤ 10000) : ev d 3 [.ref 101, .int (iI z), .int (iI a), .int (iI b)] (mk (tm m p k f) q w) = vI (zb (z < n ∧ a ≤ T z ∧ T z ≤ b)) (mk (tm m p k f) q w) := by
  obtain ⟨h1, h2, h3, h4⟩ := h
  have := h4 z
  rw [e_3 hd _ rfl rfl rfl rfl]
  simp only [b_3_0, b_3_32, b_3_33 (Or.inl rfl), tm_2, h2, iI_lt (by omega : i32 (z : Int)) (by omega : i32 (n : Int))]
  unfold zb
  by_cases hl : (z : Int) < n
  · rw [if_pos hl, b_3_8 (by omega) (by omega)]
    simp only [b_3_32, b_3_33 (Or.inl rfl), b_3_33 (Or.inr rfl), tm_o m p k f (by decide : (102 : Nat) ≠ 101), h1, Int.toNat_natCast, iI_lt (by omega : i32 (T z)) ha, iI_lt hb (by omega : i32 (T z))]
    repeat' split
    all_goals first | rfl | (exfalso; omega)
  · rw [if_neg hl]
    split
    · exfalso; omega
    · rfl
end S
