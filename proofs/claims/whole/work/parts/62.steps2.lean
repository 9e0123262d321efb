/-! ===== the reference's steps on its row s (377) ===== -/
section S
variable {d n : Nat} {m : Nat → Nat → Int} {q : Nat → Nat → Option Nat} {w : Option (Nat → Int64)}
theorem V_205 (hd : 1 ≤ d) (h6 : i32 (m 377 46)) : ev d 205 [.ref 363] (mk m q w) = if m 377 46 = 0 then vI 0 (mk m q w) else vI 1 (mk (wr (wr m 377 46 0) 377 45 (-1)) q w) := by
  rw [e_205 hd _ rfl]
  simp only [b_205_0, iI_eq h6 (by omega : i32 0)]
theorem V_206 (hd : 1 ≤ d) (h6 : 0 ≤ m 377 46 ∧ m 377 46 < 100) {a b : Nat} (ha : a < 7) (hb : b < 7) : ev d 206 [.ref 363, .int (iI a), .int (iI b)] (mk m q w) = if m 377 46 = 0 ∧ a ≠ b then vI 1 (mk (wr (wr m 377 (28 + a) (m 377 (28 + b))) 377 (28 + b) (m 377 (28 + a))) q w) else vI 0 (mk m q w) := by
  rw [e_206 hd _ rfl rfl rfl]
  simp only [b_206_0, iI_lt (by omega : i32 0) (by omega : i32 (m 377 46)), iI_eq (by omega : i32 (a : Int)) (by omega : i32 (b : Int)), b_206_15]
  by_cases h : m 377 46 = 0
  · rw [if_neg (by omega)]
    by_cases he : a = b
    · rw [if_pos (by omega), if_neg (fun z => z.2 he)]
    · rw [if_neg (by omega), if_pos ⟨h, he⟩, b_206_17 (by omega) (by omega) (by omega) (by omega), show (28 + (a : Int)).toNat = 28 + a by omega, show (28 + (b : Int)).toNat = 28 + b by omega]
  · rw [if_pos (by omega), if_neg (fun z => h z.1)]
theorem V_207 (hd : 1 ≤ d) (h6 : 0 ≤ m 377 46 ∧ m 377 46 < 100) {a : Nat} (ha : a < 7) (hl : 0 ≤ m 377 (28 + a) ∧ m 377 (28 + a) < 7) : ev d 207 [.ref 363, .int (iI a)] (mk m q w) = if m 377 46 = 0 then vI 1 (mk (wr m 377 (35 + (m 377 (28 + a)).toNat) (1 - m 377 (35 + (m 377 (28 + a)).toNat))) q w) else vI 0 (mk m q w) := by
  rw [e_207 hd _ rfl rfl]
  simp only [b_207_0, iI_lt (by omega : i32 0) (by omega : i32 (m 377 46))]
  by_cases h : m 377 46 = 0
  · have e1 : (28 + (a : Int)).toNat = 28 + a := by omega
    rw [if_neg (by omega), if_pos h, b_207_12 (by omega) (by omega) (by rw [e1]; omega) (by rw [e1]; omega), e1, show (35 + m 377 (28 + a)).toNat = 35 + (m 377 (28 + a)).toNat by omega]
  · rw [if_pos (by omega), if_neg h]
theorem V_211 (hd : 1 ≤ d) (h2 : i32 (m 377 42)) : ev d 211 [.ref 363] (mk m q w) = if m 377 42 = 0 then vI 0 (mk m q w) else vI 1 (mk (wr m 377 42 (zDiv (m 377 42) 2)) q w) := by
  rw [e_211 hd _ rfl]
  simp only [b_211_0, iI_eq h2 (by omega : i32 0)]
theorem V_212 (hd : 1 ≤ d) (h2 : 0 ≤ m 377 42 ∧ m 377 42 < 100000) (h3 : 0 ≤ m 377 43 ∧ m 377 43 < 100000) : ev d 212 [.ref 363] (mk m q w) = vV (mk (wr (wr (wr m 377 42 (if 3 < m 377 42 then m 377 42 - 3 else 0)) 377 43 (if 97 < m 377 43 then 99 else m 377 43 + 2)) 377 47 (m 377 47 + 1)) q w) := by
  have hE : ∀ z : Int, gv (d - 1) rR212 30 [some (.ref 363)] [.int (iI z), .int (iI 42), .ref 377] (mk m q w) = vV (mk (wr (wr (wr m 377 42 z) 377 43 (if 97 < m 377 43 then 99 else m 377 43 + 2)) 377 47 (m 377 47 + 1)) q w) := by
    intro z
    rw [b_212_30 (by omega) (by omega)]
    simp only [show Int.toNat 42 = 42 from rfl, wr_b _ _ _ _ (show 43 ≠ 42 by decide), iI_lt (by omega : i32 99) (by omega : i32 (m 377 43 + 2))]
    by_cases h : 97 < m 377 43
    · rw [if_pos (by omega), if_pos h, b_212_65 (by omega) (by omega)]
      simp only [show Int.toNat 43 = 43 from rfl, wr_b _ _ _ _ (show 47 ≠ 42 by decide), wr_b _ _ _ _ (show 47 ≠ 43 by decide)]
    · rw [if_neg (by omega), if_neg h, b_212_65 (by omega) (by omega)]
      simp only [show Int.toNat 43 = 43 from rfl, wr_b _ _ _ _ (show 47 ≠ 42 by decide), wr_b _ _ _ _ (show 47 ≠ 43 by decide)]
  rw [e_212 hd _ rfl]
  simp only [b_212_0, iI_lt (by omega : i32 3) (by omega : i32 (m 377 42)), hE]
  split <;> rfl
end S
