/-! ===== the call fan ===== -/
def bgX (m : Nat → Nat → Int) (a : Int) : Nat → Nat → Int := wr (wr (wr (wr (wr m 363 0 0) 363 2 0) 363 8 (-1)) 363 3 a) 363 7 0
section BG
variable {m : Nat → Nat → Int} {a : Int}
theorem bgX_o {y : Nat} (h : y ≠ 363) : bgX m a y = m y := by
  unfold bgX
  simp only [wr_o _ _ _ _ h]
theorem bgX_b {j : Nat} (h0 : j ≠ 0) (h2 : j ≠ 2) (h8 : j ≠ 8) (h3 : j ≠ 3) (h7 : j ≠ 7) : bgX m a 363 j = m 363 j := by
  unfold bgX
  simp only [wr_b _ _ _ _ h0, wr_b _ _ _ _ h2, wr_b _ _ _ _ h8, wr_b _ _ _ _ h3, wr_b _ _ _ _ h7]
theorem bgX_0 : bgX m a 363 0 = 0 := by simp [bgX, wr, row]
theorem bgX_2 : bgX m a 363 2 = 0 := by simp [bgX, wr, row]
theorem bgX_8 : bgX m a 363 8 = -1 := by simp [bgX, wr, row]
theorem bgX_3 : bgX m a 363 3 = a := by simp [bgX, wr, row]
theorem bgX_7 : bgX m a 363 7 = 0 := by simp [bgX, wr, row]
end BG
/-- what the reference remembers of a refused call -/
def noX (m : Nat → Nat → Int) (c k : Nat) : Nat → Nat → Int := wr (wr (wr m 363 0 0) 363 0 c) 364 k (m 364 k + 1)
theorem RR_no0 {m : Nat → Nat → Int} {q : Nat → Nat → Option Nat} {c : Nat} (hR : RR m q) : RR (noX (wr m 100 17 (m 100 17 + 1)) c 1) q := by
  have hC : gC m := hR.2.2.2.2.2.1
  unfold gC at hC
  refine RR_c (m := m) ?_ ?_ ?_ ?_ ?_ hR
  · intro a a1 a2 a3
    unfold noX
    simp only [wr_o _ _ _ _ a1, wr_o _ _ _ _ a2, wr_o _ _ _ _ a3]
  · simp [noX, wr, row]
  · simp [noX, wr, row]
  · intro j hj
    simp [noX, wr, row, hj]
  · unfold gC
    simp [noX, wr, row, hC.1, hC.2]
theorem RR_no1 {m : Nat → Nat → Int} {q : Nat → Nat → Option Nat} {c : Nat} (hR : RR m q) : RR (noX (wr m 100 16 (m 100 16 + 1)) c 0) q := by
  have hC : gC m := hR.2.2.2.2.2.1
  unfold gC at hC
  refine RR_c (m := m) ?_ ?_ ?_ ?_ ?_ hR
  · intro a a1 a2 a3
    unfold noX
    simp only [wr_o _ _ _ _ a1, wr_o _ _ _ _ a2, wr_o _ _ _ _ a3]
  · simp [noX, wr, row]
  · simp [noX, wr, row]
  · intro j hj
    simp [noX, wr, row, hj]
  · unfold gC
    simp [noX, wr, row, hC.1, hC.2]
theorem noX_0 {m : Nat → Nat → Int} {c k : Nat} : noX m c k 363 0 = c := by simp [noX, wr, row]
section S
variable {d n : Nat} {m : Nat → Nat → Int} {q : Nat → Nat → Option Nat} {w : Option (Nat → Int64)}
theorem V_178b (hd : 1 ≤ d) {a : Int} : ev d 178 [.ref 363, .int (iI a)] (mk (wr m 363 0 0) q w) = vV (mk (mr (bgX m a) (0, -1, m 363 6)) q w) := by
  rw [V_178 hd, wr_b _ _ _ _ (by decide : 6 ≠ 0)]
  rfl
theorem X_183 (hd : 3 ≤ d) {a : Int} {z : Nat} (ha : i32 a) (hz : z ≤ 600) (h2 : m 363 2 = z) : ev d 183 [.ref 363, .int (iI a)] (mk m q w) =
    if 0 ≤ a ∧ a ≤ z then gv (d - 1) rR183 44 [some (.ref 363), some (.int (iI a)), some (.int (iI ((0 : Nat) : Int))), none] [] (mk (mr (fx (bgX m a) (m 366) ((0 : Nat) : Int) 99 20) (0, -1, m 363 6)) q w) else vI 0 (mk (noX m 1 1) q w) := by
  have h20 : (wr m 363 0 0) 363 2 = z := (wr_b _ _ _ _ (by decide)).trans h2
  have key : ∀ (P : Prop) [Decidable P], gv (d - 1) rR183 23 [some (.ref 363), some (.int (iI a)), none, none] [.int (iI (zb P)), .ref 363] (mk (wr m 363 0 0) q w) = if P then gv (d - 1) rR183 44 [some (.ref 363), some (.int (iI a)), some (.int (iI ((0 : Nat) : Int))), none] [] (mk (mr (fx (bgX m a) (m 366) ((0 : Nat) : Int) 99 20) (0, -1, m 363 6)) q w) else vI 0 (mk (noX m 1 1) q w) := by
    intro P _
    rw [b_183_23, V_160 (by omega) (Or.inr rfl) (by omega) (by decide) (wr_s _ _ _ _)]
    by_cases h : P
    · rw [if_pos h, if_pos h]
      simp only [rBd_v, Option.toList_some, Option.toList_none, List.cons_append, List.nil_append, List.append_nil]
      rw [b_183_28, if_neg (by decide), V_178b (by omega)]
      simp only [rBd_v, Option.toList_some, Option.toList_none, List.cons_append, List.nil_append, List.append_nil]
      rw [b_183_38, V_162 (by omega)]
      simp only [rBd_v, Option.toList_some, Option.toList_none, List.cons_append, List.nil_append, List.append_nil]
      rw [b_183_42, bgX_o (by decide)]
      rfl
    · rw [if_neg h, if_neg h]
      simp only [rBd_v, Option.toList_some, Option.toList_none, List.cons_append, List.nil_append, List.append_nil]
      rw [b_183_28, if_pos rfl]
      rfl
  rw [e_183 (by omega) _ rfl rfl, b_183_0, h20]
  by_cases h : 0 ≤ a ∧ a ≤ z
  · rw [if_neg (by rw [iI_lt ha (by omega)]; omega), if_neg (by rw [iI_lt (by omega) ha]; omega), show iI 1 = iI (zb (0 ≤ a ∧ a ≤ z)) by rw [zb_t h], key]
  · have hE : gv (d - 1) rR183 22 [some (.ref 363), some (.int (iI a)), none, none] [.ref 363] (mk (wr m 363 0 0) q w) = if 0 ≤ a ∧ a ≤ z then gv (d - 1) rR183 44 [some (.ref 363), some (.int (iI a)), some (.int (iI ((0 : Nat) : Int))), none] [] (mk (mr (fx (bgX m a) (m 366) ((0 : Nat) : Int) 99 20) (0, -1, m 363 6)) q w) else vI 0 (mk (noX m 1 1) q w) := by
      rw [b_183_22, show iI 0 = iI (zb (0 ≤ a ∧ a ≤ z)) by rw [zb_f h], key]
    by_cases h1 : a < 0
    · rw [if_pos (by rw [iI_lt ha (by omega)]; omega), hE]
    · rw [if_neg (by rw [iI_lt ha (by omega)]; omega), if_pos (by rw [iI_lt (by omega) ha]; omega), hE]
end S
