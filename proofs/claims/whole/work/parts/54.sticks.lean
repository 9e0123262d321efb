/-! ===== a fan of the class is read ===== -/
theorem fan_101 {x : Nat} (h : iFan x) : 107 ≤ x := (by decide +kernel : ∀ x ∈ fanIds, 107 ≤ x) x h
theorem tr_wo {m : Nat → Nat → Int} {s : rd} {x j : Nat} {v : Int} (h : x ≠ 101) : wr (tr m s) x j v = tr (wr m x j v) s := by
  funext y i
  unfold tr tm wr row
  by_cases hy : y = 101
  · subst hy
    simp [Ne.symm h]
  · by_cases hx : y = x
    · simp [hx, h]
    · simp [hx, hy]
theorem onT_wr {m : Nat → Nat → Int} {T : Nat → Int} {n x j : Nat} {v : Int} (h : onT m T n) (h1 : x ≠ 101) (h2 : x ≠ 102) : onT (wr m x j v) T n := by
  unfold onT at *
  rw [wr_o _ _ _ _ (Ne.symm h1), wr_o _ _ _ _ (Ne.symm h2)]
  exact h
theorem onT_row {m : Nat → Nat → Int} {T : Nat → Int} {n x : Nat} {f : Nat → Int} (h : onT m T n) (h1 : x ≠ 101) (h2 : x ≠ 102) : onT (row m x f) T n := by
  unfold onT at *
  rw [row_o _ _ _ (Ne.symm h1), row_o _ _ _ (Ne.symm h2)]
  exact h
/-- the halves of a stick -/
def rdS (T : Nat → Int) (n st : Nat) : Nat → Nat → (Nat → Int) → rd → (Nat → Int) × rd
  | 0, _, C, s => (C, s)
  | g + 1, h, C, s => rdS T n st g (h + 1) (row C (4 * st + h) (aNum T n 0 15 s).1) (aNum T n 0 15 s).2
section S
variable {d n : Nat} {m : Nat → Nat → Int} {q : Nat → Nat → Option Nat} {w : Option (Nat → Int64)} {T : Nat → Int} {x st : Nat}
theorem L_29 (hd : 10 ≤ d) (hx : iFan x) (hst : st < 7) : ∀ (g h : Nat) (m : Nat → Nat → Int) (s : rd), h + g = 4 → onT m T n → gd n s → m x 0 = st → gv d rR29 2 [some (.ref x), some (.ref 101), some (.int (iI h))] [] (mk (tr m s) q w) =
    vV (mk (tr (wr (row m (x + 2) (rdS T n st g h (m (x + 2)) s).1) x 0 (st + 1)) (rdS T n st g h (m (x + 2)) s).2) q w) := by
  have h107 := fan_101 hx
  intro g
  induction g with
  | zero =>
    intro h m s hg hT hs hm
    rw [b_29_2 hx]
    simp only [iI_lt (by omega : i32 (h : Int)) (by omega : i32 4)]
    rw [if_neg (by omega), tr_o (by omega), hm, tr_wo (by omega)]
    unfold rdS
    rw [row_self]
  | succ g ih =>
    intro h m s hg hT hs hm
    rw [b_29_2 hx]
    simp only [iI_lt (by omega : i32 (h : Int)) (by omega : i32 4), U_7 (m := m) (T := T) (n := n) hd hT hs (by omega : i32 0) (by omega : i32 15), rBd_v, Option.toList_some, Option.toList_none, List.cons_append, List.nil_append, List.append_nil]
    rw [if_pos (by omega), b_29_20 hx, tr_o (by omega), hm, T_28 (by omega) hx hst (by omega)]
    simp only [rBd_v, Option.toList_some, Option.toList_none, List.cons_append, List.nil_append, List.append_nil, b_29_23 hx, tr_wo (show x + 2 ≠ 101 by omega), show (h : Int) + 1 = ((h + 1 : Nat) : Int) from rfl]
    rw [ih (h + 1) _ _ (by omega) (onT_wr hT (by omega) (by omega)) (aNum_gd hs) (by rw [wr_o _ _ _ _ (by omega)]; exact hm)]
    rw [wr_x]
    unfold wr
    rw [row_row]
    rfl
theorem T_29 (hd : 11 ≤ d) (hx : iFan x) (hst : st < 7) {s : rd} (hT : onT m T n) (hs : gd n s) (hm : m x 0 = st) : ev d 29 [.ref x, .ref 101] (mk (tr m s) q w) =
    vV (mk (tr (wr (row m (x + 2) (rdS T n st 4 0 (m (x + 2)) s).1) x 0 (st + 1)) (rdS T n st 4 0 (m (x + 2)) s).2) q w) := by
  rw [e_29 (by omega) _ rfl rfl, b_29_0 hx]
  exact L_29 (show 10 ≤ d - 1 by omega) hx hst 4 0 m s (by omega) hT hs hm
end S
