/-! ===== a fan of the class is read: all clauses ===== -/
theorem rdS_gd {T : Nat → Int} {n st : Nat} : ∀ (g h : Nat) (C : Nat → Int) (s : rd), gd n s → gd n (rdS T n st g h C s).2 := by
  intro g
  induction g with
  | zero => intro h C s hs; exact hs
  | succ g ih => intro h C s hs; exact ih _ _ _ (aNum_gd hs)
theorem rdC_inv {T : Nat → Int} {n x st : Nat} (L : Prop) [Decidable L] {m : Nat → Nat → Int} {s : rd} (hx : iFan x) (hst : st ≤ 7) (hT : onT m T n) (hs : gd n s) (hm : m x 0 = st) :
    onT (rdC T n x st L m s).1 T n ∧ gd n (rdC T n x st L m s).2 ∧ ∃ st2 : Nat, st2 ≤ 7 ∧ (rdC T n x st L m s).1 x 0 = st2 := by
  have h107 := fan_101 hx
  have hs0 : gd n (skip T n s.1, s.2) := ⟨(skip_le T hs.1).2, hs.2⟩
  have hs1 : gd n (aTw T n W25 (skip T n s.1, s.2)) := aTw_gd' hs0
  have hs2 : gd n (aTw T n W22 (aTw T n W25 (skip T n s.1, s.2))) := aTw_gd' hs1
  have hs3 : gd n (aTw T n W18 (aTw T n W22 (aTw T n W25 (skip T n s.1, s.2)))) := aTw_gd' hs2
  unfold rdC
  split
  · split
    · exact ⟨hT, aBl_gd hs1 (by omega), st, hst, hm⟩
    next hL => exact ⟨onT_wr (onT_row hT (by omega) (by omega)) (by omega) (by omega), rdS_gd _ _ _ _ hs1, st + 1, by omega, (wr_s _ _ _ _).trans rfl⟩
  · split
    · split
      · exact ⟨hT, aBl_gd hs2 (by omega), st, hst, hm⟩
      · exact ⟨onT_wr hT (by omega) (by omega), aNum_gd hs2, st, hst, (wr_b _ _ _ _ (by decide)).trans hm⟩
    · split
      · split
        · exact ⟨hT, aBl_gd hs3 (by omega), st, hst, hm⟩
        · exact ⟨onT_wr hT (by omega) (by omega), aNum_gd hs3, st, hst, (wr_b _ _ _ _ (by decide)).trans hm⟩
      · exact ⟨hT, aBl_gd hs3 (by omega), st, hst, hm⟩
def rdF (T : Nat → Int) (n x : Nat) : Nat → Nat → (Nat → Nat → Int) → rd → (Nat → Nat → Int) × rd
  | 0, _, m, s => (m, s)
  | g + 1, c, m, s => if aOn T n 97 122 s then rdF T n x g (c + 1) (rdC T n x (m x 0).toNat (60 ≤ c) m (aN T n s)).1 (aEx T n 59 (rdC T n x (m x 0).toNat (60 ≤ c) m (aN T n s)).2) else (m, aN T n s)
section S
variable {d n : Nat} {m : Nat → Nat → Int} {q : Nat → Nat → Option Nat} {w : Option (Nat → Int64)} {T : Nat → Int} {x : Nat}
theorem L_31 (hd : 13 ≤ d) (hx : iFan x) : ∀ (g c : Nat) (m : Nat → Nat → Int) (s : rd), c + g = 600 → onT m T n → gd n s → (∃ st : Nat, st ≤ 7 ∧ m x 0 = st) →
    gv d rR31 8 [some (.ref x), some (.ref 101), some (.int (iI c)), some (.int (iI c))] [] (mk (tr m s) q w) = vV (mk (tr (rdF T n x g c m s).1 (rdF T n x g c m s).2) q w) := by
  intro g
  induction g with
  | zero =>
    intro c m s hg hT hs hm
    simp only [b_31_8 hx, iI_lt (by omega : i32 (c : Int)) (by omega : i32 600), b_31_53]
    rw [if_neg (by omega)]
    rfl
  | succ g ih =>
    intro c m s hg hT hs hm
    obtain ⟨st, hst, hm⟩ := hm
    obtain ⟨i1, i2, i3⟩ := rdC_inv (60 ≤ c) hx hst hT (aN_gd (T := T) hs) hm
    have hR : rdF T n x (g + 1) c m s = if aOn T n 97 122 s then rdF T n x g (c + 1) (rdC T n x (m x 0).toNat (60 ≤ c) m (aN T n s)).1 (aEx T n 59 (rdC T n x (m x 0).toNat (60 ≤ c) m (aN T n s)).2) else (m, aN T n s) := rfl
    have h30 : ∀ z : Int, z = zb (60 ≤ c) → ev d 30 [.ref x, .ref 101, .int (iI z)] (mk (tr m (aN T n s)) q w) = vV (mk (tr (rdC T n x st (60 ≤ c) m (aN T n s)).1 (rdC T n x st (60 ≤ c) m (aN T n s)).2) q w) := by
      rintro z rfl
      exact T_30 (by omega) hx hst hT (aN_gd hs) hm (60 ≤ c)
    simp only [b_31_8 hx, iI_lt (by omega : i32 (c : Int)) (by omega : i32 600), b_31_53]
    rw [if_pos (by omega), U_26 (by omega) hT hs]
    simp only [rBd_v, Option.toList_some, Option.toList_none, List.cons_append, List.nil_append, List.append_nil, b_31_19 hx, zb_0, b_31_53, iI_lt (by omega : i32 (c : Int)) (by omega : i32 60), b_31_35 hx]
    rw [hR, hm, Int.toNat_natCast]
    by_cases h : aOn T n 97 122 s
    · rw [if_neg (not_not_intro h), if_pos h]
      have hrest : (rBd (ev d 30 [.ref x, .ref 101, .int (iI (zb (60 ≤ c)))] (mk (tr m (aN T n s)) q w)) (fun v M' => gv d rR31 38 [some (.ref x), some (.ref 101), some (.int (iI c)), some (.int (iI c))] (v.toList ++ []) M')) = vV (mk (tr (rdF T n x g (c + 1) (rdC T n x st (60 ≤ c) m (aN T n s)).1 (aEx T n 59 (rdC T n x st (60 ≤ c) m (aN T n s)).2)).1 (rdF T n x g (c + 1) (rdC T n x st (60 ≤ c) m (aN T n s)).1 (aEx T n 59 (rdC T n x st (60 ≤ c) m (aN T n s)).2)).2) q w) := by
        rw [h30 _ rfl]
        simp only [rBd_v, Option.toList_some, Option.toList_none, List.cons_append, List.nil_append, List.append_nil, b_31_38 hx]
        rw [U_9 (by omega) i1 i2 (by omega)]
        simp only [rBd_v, Option.toList_some, Option.toList_none, List.cons_append, List.nil_append, List.append_nil, b_31_44 hx, show (c : Int) + 1 = ((c + 1 : Nat) : Int) from rfl]
        exact ih (c + 1) _ _ (by omega) i1 (aEx_gd i2) i3
      by_cases hc : c < 60
      · rw [if_pos (by omega)]
        rw [zb_f (show ¬ 60 ≤ c by omega)] at hrest
        simp only [List.append_nil] at hrest
        exact hrest
      · rw [if_neg (by omega)]
        rw [zb_t (show 60 ≤ c by omega)] at hrest
        simp only [List.append_nil] at hrest
        exact hrest
    · rw [if_pos h, if_neg h]
end S
