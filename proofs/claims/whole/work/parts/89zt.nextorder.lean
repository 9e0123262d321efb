/-! ===== the reference: the next order, the changes to one ===== -/
theorem fi_lt {o : Nat → Nat} : ∀ (k i : Nat), fi o k = some i → i < k ∧ ¬ o (i + 1) < o i := by
  intro k
  induction k with
  | zero => intro i h; cases h
  | succ k ih =>
    intro i h
    unfold fi at h
    by_cases c : o (k + 1) < o k
    · rw [if_pos c] at h
      have := ih i h
      omega
    · rw [if_neg c] at h
      cases h
      omega
theorem fj_lt {o : Nat → Nat} {i : Nat} : ∀ j, fj o i j ≤ j := by
  intro j
  induction j with
  | zero => exact Nat.le_refl _
  | succ j ih =>
    unfold fj
    split <;> omega
section S
variable {d n : Nat} {m : Nat → Nat → Int} {q : Nat → Nat → Option Nat} {w : Option (Nat → Int64)} {o : Nat → Nat}
def oI : Option Nat → Int
  | none => -1
  | some i => i
theorem L_245a (hn7 : n ≤ 7) (hro : ∀ j, j < n → m 385 j = (o j : Int) ∧ o j < 7) {u2 u3 u4 u5 : Option Value} : ∀ k, k + 1 ≤ n → gv d rR245 7 [some (.ref 363), some (.int (iI ((k : Int) - 1))), u2, u3, u4, u5] [] (mk m q w) = gv d rR245 34 [some (.ref 363), some (.int (iI (oI (fi o k)))), u2, u3, u4, u5] [] (mk m q w) := by
  intro k
  induction k with
  | zero =>
    intro _
    rw [b_245_7, if_pos (by decide)]
    rfl
  | succ k ih =>
    intro hk
    have h1 := hro k (by omega)
    have h2 := hro (k + 1) (by omega)
    rw [show ((k + 1 : Nat) : Int) - 1 = (k : Int) by omega, b_245_7, if_neg (by rw [iI_lt (by omega) (by omega)]; omega), b_245_11 (by omega) (by omega) (by omega) (by omega), show ((k : Int) + 1).toNat = k + 1 by omega, Int.toNat_natCast, h1.1, h2.1]
    simp only [iI_lt (show i32 ((o (k + 1) : Nat) : Int) by omega) (show i32 ((o k : Nat) : Int) by omega)]
    unfold fi
    by_cases c : o (k + 1) < o k
    · rw [if_pos (by omega), if_pos c, show (k : Int) + -1 = (k : Int) - 1 from rfl, ih (by omega)]
    · rw [if_neg (by omega), if_neg c]
      rfl
theorem L_245c (hn7 : n ≤ 7) {u1 u2 : Option Value} : ∀ (h a b : Nat) (m : Nat → Nat → Int) (o : Nat → Nat) (u3 : Option Value), b ≤ a + h → a ≤ n → b < n → (∀ j, j < n → m 385 j = (o j : Int)) → ∃ R : Nat → Int, gv d rR245 107 [some (.ref 363), u1, u2, u3, some (.int (iI (a : Int))), some (.int (iI (b : Int)))] [] (mk m q w) = vI 1 (mk (row m 385 R) q w) ∧ ∀ j, j < n → R j = (rvO h a b o j : Int) := by
  intro h
  induction h with
  | zero =>
    intro a b m o u3 h1 h0 h2 h3
    refine ⟨m 385, ?_, h3⟩
    rw [b_245_107, if_neg (by rw [iI_lt (by omega) (by omega)]; omega), row_self]
  | succ h ih =>
    intro a b m o u3 h1 h0 h2 h3
    by_cases c : a < b
    · obtain ⟨R, i1, i2⟩ := ih (a + 1) (b - 1) (wr (wr m 385 a (m 385 b)) 385 b (m 385 a)) (sw2 o a b) (some (.int (iI (m 385 a)))) (by omega) (by omega) (by omega) (fun j hj => by
        unfold sw2
        by_cases e : j = b
        · subst e
          rw [wr_s, if_neg (by omega), if_pos rfl]
          exact h3 a (by omega)
        · rw [wr_b _ _ _ _ e]
          by_cases e2 : j = a
          · subst e2
            rw [wr_s, if_pos rfl]
            exact h3 b h2
          · rw [wr_b _ _ _ _ e2, if_neg e2, if_neg e]
            exact h3 j hj)
      refine ⟨R, ?_, fun j hj => ?_⟩
      · rw [b_245_107, if_pos (by rw [iI_lt (by omega) (by omega)]; omega), b_245_114 (by omega) (by omega) (by omega) (by omega), Int.toNat_natCast, Int.toNat_natCast, show (a : Int) + 1 = ((a + 1 : Nat) : Int) from rfl, show (b : Int) + -1 = ((b - 1 : Nat) : Int) by omega, i1]
        unfold wr
        rw [row_row, row_row]
      · rw [i2 j hj, show rvO (h + 1) a b o = if a < b then rvO h (a + 1) (b - 1) (sw2 o a b) else o from rfl, if_pos c]
    · refine ⟨m 385, ?_, fun j hj => ?_⟩
      · rw [b_245_107, if_neg (by rw [iI_lt (by omega) (by omega)]; omega), row_self]
      · unfold rvO
        rw [if_neg c]
        exact h3 j hj
theorem L_245b (hn7 : n ≤ 7) (hro : ∀ j, j < n → m 385 j = (o j : Int) ∧ o j < 7) {i : Nat} (hi : i + 1 < n) (hoi : ¬ o (i + 1) < o i) {u3 u4 u5 : Option Value} (h15 : m 363 15 = n) : ∀ j, i + 1 ≤ j → j < n → ∃ R : Nat → Int, gv d rR245 47 [some (.ref 363), some (.int (iI (i : Int))), some (.int (iI (j : Int))), u3, u4, u5] [] (mk m q w) = vI 1 (mk (row m 385 R) q w) ∧ ∀ k, k < n → R k = (rvO n (i + 1) (n - 1) (sw2 o i (fj o i j)) k : Int) := by
  intro j
  induction j with
  | zero => intro h; omega
  | succ j ih =>
    intro h1 h2
    have a1 := hro i (by omega)
    have a2 := hro (j + 1) h2
    rw [b_245_47 (by omega) (by omega) (by omega) (by omega), Int.toNat_natCast, Int.toNat_natCast, a1.1, a2.1]
    simp only [iI_lt (show i32 ((o (j + 1) : Nat) : Int) by omega) (show i32 ((o i : Nat) : Int) by omega)]
    unfold fj
    by_cases c : o (j + 1) < o i
    · have hj : i + 1 ≤ j := by
        refine Classical.byContradiction fun e => ?_
        have : i + 1 = j + 1 := by omega
        rw [this] at hoi
        exact hoi c
      obtain ⟨R, h3, h4⟩ := ih hj (by omega)
      refine ⟨R, ?_, fun k hk => ?_⟩
      · rw [if_pos (by omega), show ((j + 1 : Nat) : Int) + -1 = (j : Int) by omega, h3]
      · rw [if_pos c]
        exact h4 k hk
    · have hb := L_245c (d := d) (q := q) (w := w) (u1 := some (.int (iI (i : Int)))) (u2 := some (.int (iI ((j + 1 : Nat) : Int)))) hn7 n (i + 1) (n - 1) (wr (wr m 385 i (o (j + 1))) 385 (j + 1) (o i)) (sw2 o i (j + 1)) (some (.int (iI (o i : Int)))) (by omega) (by omega) (by omega) (fun k hk => by
        unfold sw2
        by_cases e : k = j + 1
        · subst e
          rw [wr_s, if_neg (by omega), if_pos rfl]
        · rw [wr_b _ _ _ _ e]
          by_cases e2 : k = i
          · subst e2
            rw [wr_s, if_pos rfl]
          · rw [wr_b _ _ _ _ e2, if_neg e2, if_neg e]
            exact (hro k hk).1)
      obtain ⟨R, h3, h4⟩ := hb
      refine ⟨R, ?_, fun k hk => ?_⟩
      · rw [if_neg (by omega), wr_o _ _ _ _ (show 363 ≠ 385 by decide), wr_o _ _ _ _ (show 363 ≠ 385 by decide), h15, show (i : Int) + 1 = ((i + 1 : Nat) : Int) from rfl, show (n : Int) - 1 = ((n - 1 : Nat) : Int) by omega, h3]
        unfold wr
        rw [row_row, row_row]
      · rw [if_neg c]
        exact h4 k hk
theorem V_245 (hd : 1 ≤ d) (hn7 : n ≤ 7) (hro : ∀ j, j < n → m 385 j = (o j : Int) ∧ o j < 7) (h15 : m 363 15 = n) : ∃ R : Nat → Int, ev d 245 [.ref 363] (mk m q w) = vI (zb ((nxf n o).isSome = true)) (mk (row m 385 R) q w) ∧ ∀ o', nxf n o = some o' → ∀ j, j < n → R j = (o' j : Int) := by
  by_cases h0 : n = 0
  · refine ⟨m 385, ?_, fun o' ho => ?_⟩
    · have e : nxf n o = none := by rw [h0]; rfl
      rw [e_245 hd _ rfl, b_245_0, h15, h0, b_245_7, if_pos (by decide), b_245_34, if_pos (by decide), row_self, zb_f (by first | (rw [e]; decide) | (rw [show nxf 0 o = none from rfl]; decide))]
    · rw [h0] at ho
      cases ho
  · have hA := L_245a (d := d - 1) (q := q) (w := w) (u2 := none) (u3 := none) (u4 := none) (u5 := none) hn7 hro (n - 1) (by omega)
    rw [show ((n - 1 : Nat) : Int) - 1 = (n : Int) - 2 by omega] at hA
    cases hf : fi o (n - 1) with
    | none =>
      have e : nxf n o = none := by unfold nxf; rw [hf]
      rw [hf] at hA
      refine ⟨m 385, ?_, fun o' ho => by rw [e] at ho; cases ho⟩
      rw [e_245 hd _ rfl, b_245_0, h15, hA, b_245_34, if_pos (by decide), row_self, zb_f (by first | (rw [e]; decide) | (rw [show nxf 0 o = none from rfl]; decide))]
    | some i =>
      have e : nxf n o = some (rvO n (i + 1) (n - 1) (sw2 o i (fj o i (n - 1)))) := by unfold nxf; rw [hf]
      have hi := fi_lt _ _ hf
      obtain ⟨R, h1, h2⟩ := L_245b (d := d - 1) (q := q) (w := w) (u3 := none) (u4 := none) (u5 := none) hn7 hro (i := i) (by omega) hi.2 h15 (n - 1) (by omega) (by omega)
      rw [hf] at hA
      refine ⟨R, ?_, fun o' ho => ?_⟩
      · rw [e_245 hd _ rfl, b_245_0, h15, hA, show oI (some i) = (i : Int) from rfl, b_245_34, if_neg (by rw [iI_lt (by omega) (by omega)]; omega), h15, show (n : Int) - 1 = ((n - 1 : Nat) : Int) by omega, h1, zb_t (by rw [e]; rfl)]
      · rw [e] at ho
        cases ho
        exact h2
end S
