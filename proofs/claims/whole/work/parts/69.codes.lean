/-! ===== a law is read: its codes, its facts ===== -/
def lw (m : Nat → Nat → Int) (x : Nat) (C : Nat → Int) (z : Nat) : Nat → Nat → Int := row (row m (x + 1) C) x (row (m x) 3 z)
def adC (C : Nat → Int) (z : Nat) (c : Int) : Nat → Int := if z < 150 then row C z c else C
def adZ (z : Nat) : Nat := if z < 150 then z + 1 else z
theorem adZ_le {z : Nat} (h : z ≤ 150) : adZ z ≤ 150 := by
  unfold adZ
  split <;> omega
section LW
variable (m : Nat → Nat → Int) {x : Nat} (C : Nat → Int) (z : Nat)
theorem lw_o {a : Nat} (h0 : a ≠ x) (h1 : a ≠ x + 1) : lw m x C z a = m a := by
  unfold lw
  rw [row_o _ _ _ h0, row_o _ _ _ h1]
theorem lw_1 : lw m x C z (x + 1) = C := by
  unfold lw
  rw [row_o _ _ _ (by omega), row_s]
theorem lw_3 : lw m x C z x 3 = z := by
  unfold lw
  rw [row_s, row_s]
theorem lw_add {k : Nat} {c : Int} {z2 : Nat} : wr (wr (lw m x C z) (x + 1) k c) x 3 z2 = lw m x (row C k c) z2 := by
  funext a b
  unfold lw wr row
  by_cases h1 : a = x
  · subst h1
    by_cases hb : b = 3
    · simp [hb]
    · simp [hb]
  · by_cases h2 : a = x + 1
    · subst h2
      simp
    · simp [h1, h2]
theorem lw_w3 {z2 : Nat} : wr m x 3 z2 = lw m x (m (x + 1)) z2 := by
  unfold lw wr
  rw [row_self]
theorem lw_on {T : Nat → Int} {n : Nat} (hx : iLaw x) (h : onT m T n) : onT (lw m x C z) T n := by
  have := law_rng hx
  unfold lw
  exact onT_row (onT_row h (by omega) (by omega)) (by omega) (by omega)
end LW
/-- the reference's codes that are being read, and how many brackets are open -/
def lx (m : Nat → Nat → Int) (E F : Nat → Int) (k op : Nat) : Nat → Nat → Int := row (row (row m 368 E) 369 F) 363 (row (row (m 363) 23 k) 7 op)
section LX
variable (m : Nat → Nat → Int) (E F : Nat → Int) (k op : Nat)
theorem lx_o {a : Nat} (h0 : a ≠ 363) (h1 : a ≠ 368) (h2 : a ≠ 369) : lx m E F k op a = m a := by
  unfold lx
  rw [row_o _ _ _ h0, row_o _ _ _ h2, row_o _ _ _ h1]
theorem lx_b {j : Nat} (h0 : j ≠ 23) (h1 : j ≠ 7) : lx m E F k op 363 j = m 363 j := by
  unfold lx
  rw [row_s, row_o _ _ _ h1, row_o _ _ _ h0]
theorem lx_23 : lx m E F k op 363 23 = k := by
  unfold lx
  rw [row_s, row_o _ _ _ (by decide), row_s]
theorem lx_7 : lx m E F k op 363 7 = op := by
  unfold lx
  rw [row_s, row_s]
theorem lx_w7 {p : Nat} : wr (lx m E F k op) 363 7 p = lx m E F k p := by
  unfold lx wr
  rw [row_row, row_s, row_row]
theorem lx_add {e f : Int} : wr (wr (wr (lx m E F k op) 368 k e) 369 k f) 363 23 (k + 1 : Nat) = lx m (row E k e) (row F k f) (k + 1) op := by
  funext a b
  unfold lx wr row
  by_cases h1 : a = 363
  · subst h1
    by_cases hb : b = 23
    · simp [hb]
    · by_cases hc : b = 7
      · simp [hc]
      · simp [hb, hc]
  · by_cases h2 : a = 368
    · subst h2
      simp
    · by_cases h3 : a = 369
      · subst h3
        simp
      · simp [h1, h2, h3]
theorem lx_on {T : Nat → Int} {n : Nat} (h : onX m T n) : onX (lx m E F k op) T n := by
  unfold onX at *
  rw [lx_o m E F k op (by decide) (by decide) (by decide), lx_b m E F k op (by decide) (by decide)]
  exact h
end LX
def xOp (b op : Nat) (s : rd) : rd := if s.2.1 = -1 then (if op = 6 then (s.1, (s.1 : Int), 3) else (s.1 + b, s.2)) else s
/-- words by their numbers -/
def lkW (v : Int) : List (Nat × List Nat) → Option Nat
  | [] => none
  | (k, l) :: r => if v = ofL 0 l then some k else lkW v r
theorem rel_tk {T : Nat → Int} {n : Nat} (L : List (Nat × List Nat)) (hL : ∀ e ∈ L, isL e.2) : ∀ (s x : rd), gd n s → x.1 ≤ n → rel s x → s.2.1 = 0 →
    (tkS T n L s).1 = lkW (wVal T n (skip T n x.1)) L ∧ gd n (tkS T n L s).2 ∧ (tkS T n L s).2.2 = s.2 ∧
    (∀ k, (tkS T n L s).1 = some k → rel (tkS T n L s).2 (wEnd T (n - skip T n x.1) (skip T n x.1), x.2) ∧ skip T n s.1 < (tkS T n L s).2.1) ∧
    ((tkS T n L s).1 = none → L ≠ [] → (tkS T n L s).2 = (skip T n s.1, s.2)) := by
  induction L with
  | nil => intro s x hs hx h h0; exact ⟨rfl, hs, rfl, (fun k hk => nomatch hk), fun _ hn => absurd rfl hn⟩
  | cons e L ih =>
    intro s x hs hx h h0
    obtain ⟨k, l⟩ := e
    have hl := hL (k, l) List.mem_cons_self
    have hi := rel_word hs hl h h0 (T := T)
    have hp := rel_at h h0
    have hsk := skip_le T hs.1
    unfold tkS lkW
    by_cases hw : aWd T n l s
    · rw [if_pos hw, if_pos (hi.mp hw)]
      refine ⟨rfl, aTw_gd' hs, ?_, fun j _ => ⟨rel_taken hl h hw, ?_⟩, fun hn => nomatch hn⟩
      · unfold aTw
        rw [if_pos hw]
      · unfold aTw
        rw [if_pos hw]
        have h9 : 0 < l.length := List.length_pos_iff.mpr hl.1
        show skip T n s.1 < skip T n s.1 + l.length
        omega
    · rw [if_neg hw, if_neg (fun z => hw (hi.mpr z))]
      have e1 : aTw T n l s = (skip T n s.1, s.2) := by
        unfold aTw aN
        rw [if_neg hw, if_pos h0]
      have hr : rel (aTw T n l s) (skip T n x.1, x.2) := rel_left h hw
      obtain ⟨i1, i2, i3, i4, i5⟩ := ih (fun e he => hL e (List.mem_cons_of_mem _ he)) (aTw T n l s) (skip T n x.1, x.2) (aTw_gd' hs) (skip_le T hx).2 hr (by rw [e1]; exact h0)
      have e2 : skip T n (skip T n x.1) = skip T n x.1 := skip_fix T hx
      have e3 : skip T n (skip T n s.1) = skip T n s.1 := skip_fix T hs.1
      refine ⟨?_, i2, ?_, fun j hj => ?_, fun hn hne => ?_⟩
      · rw [i1]
        show lkW (wVal T n (skip T n (skip T n x.1))) L = _
        rw [e2]
      · rw [i3, e1]
      · have := i4 j hj
        rw [e1] at this ⊢
        rw [show skip T n ((skip T n x.1, x.2) : rd).1 = skip T n x.1 from e2] at this
        rw [show skip T n ((skip T n s.1, s.2) : rd).1 = skip T n s.1 from e3] at this
        exact this
      · cases L with
        | nil =>
          rw [e1]
          rfl
        | cons a L2 =>
          rw [i5 hn (fun z => nomatch z), e1]
          show (skip T n (skip T n s.1), s.2) = _
          rw [e3]
def fcL : List (Nat × List Nat) := [(0, W30), (1, W33), (2, W32), (3, W16), (4, W29), (5, W20), (6, W23)]
theorem fcL_l : ∀ e ∈ fcL, isL e.2 := by
  intro e he
  rcases List.mem_cons.mp he with rfl | he
  · exact W30_l
  rcases List.mem_cons.mp he with rfl | he
  · exact W33_l
  rcases List.mem_cons.mp he with rfl | he
  · exact W32_l
  rcases List.mem_cons.mp he with rfl | he
  · exact W16_l
  rcases List.mem_cons.mp he with rfl | he
  · exact W29_l
  rcases List.mem_cons.mp he with rfl | he
  · exact W20_l
  rcases List.mem_cons.mp he with rfl | he
  · exact W23_l
  · exact absurd he List.not_mem_nil
theorem stL_l : ∀ e ∈ stL, isL e.2 := by
  intro e he
  rcases List.mem_cons.mp he with rfl | he
  · exact W15_l
  rcases List.mem_cons.mp he with rfl | he
  · exact W24_l
  rcases List.mem_cons.mp he with rfl | he
  · exact W26_l
  rcases List.mem_cons.mp he with rfl | he
  · exact W28_l
  rcases List.mem_cons.mp he with rfl | he
  · exact W18_l
  rcases List.mem_cons.mp he with rfl | he
  · exact W14_l
  rcases List.mem_cons.mp he with rfl | he
  · exact W23_l
  rcases List.mem_cons.mp he with rfl | he
  · exact W11_l
  · exact absurd he List.not_mem_nil
theorem tk_lt {T : Nat → Int} {n b : Nat} : ∀ (L : List (Nat × List Nat)), (∀ e ∈ L, e.1 < b) → ∀ (s : rd) (k : Nat), (tkS T n L s).1 = some k → k < b := by
  intro L
  induction L with
  | nil => intro _ s k h; cases h
  | cons e L ih =>
    intro h s k hk
    obtain ⟨j, l⟩ := e
    unfold tkS at hk
    by_cases hw : aWd T n l s
    · rw [if_pos hw] at hk
      cases hk
      exact h (_, l) List.mem_cons_self
    · rw [if_neg hw] at hk
      exact ih (fun e he => h e (List.mem_cons_of_mem _ he)) _ k hk
section S
variable {d n : Nat} {m : Nat → Nat → Int} {q : Nat → Nat → Option Nat} {w : Option (Nat → Int64)} {T : Nat → Int} {s : rd} {x z : Nat} {C : Nat → Int}
theorem T_65 (hd : 1 ≤ d) (hx : iLaw x) (hz : z ≤ 150) {c : Int} : ev d 65 [.ref x, .int (iI c)] (mk (tr (lw m x C z) s) q w) = vV (mk (tr (lw m x (adC C z c) (adZ z)) s) q w) := by
  have hl := law_rng hx
  have e3 : tr (lw m x C z) s x 3 = z := by rw [tr_o (by omega), lw_3]
  rw [e_65 hd _ rfl rfl, b_65_0 hx]
  simp only [e3, iI_lt (by omega : i32 (z : Int)) (by omega : i32 ((150 : Nat) : Int)), b_65_32]
  unfold adC adZ
  by_cases h : z < 150
  · rw [if_pos (by omega), if_pos h, if_pos h, b_65_12 hx (by rw [e3]; omega) (by rw [e3]; omega), b_65_32]
    simp only [e3, Int.toNat_natCast, wr_o _ _ _ _ (show x ≠ x + 1 by omega), tr_wo (m := lw m x C z) (show x + 1 ≠ 101 by omega)]
    rw [tr_wo (by omega), show (z : Int) + 1 = ((z + 1 : Nat) : Int) from rfl, lw_add]
  · rw [if_neg (by omega), if_neg h, if_neg h]

/-- a fact's word is looked for: the class -/
theorem R_66 (hd : 10 ≤ d) (hx : iLaw x) (h : onT m T n) {v2 : Int} {u3 : Option Value} (hs : gd n s) : gv d rR66 0 [some (.ref x), some (.ref 101), some (.int (iI v2)), u3] [] (mk (tr m s) q w) =
    gv d rR66 93 [some (.ref x), some (.ref 101), some (.int (iI v2)), u3] [.int (iI (match (tkS T n fcL s).1 with | some k => (k : Int) | none => -1))] (mk (tr m (tkS T n fcL s).2) q w) := by
  have r7 : ∀ s : rd, gd n s → gv d rR66 93 [some (.ref x), some (.ref 101), some (.int (iI v2)), u3] [.int (iI (-1))] (mk (tr m s) q w) = gv d rR66 93 [some (.ref x), some (.ref 101), some (.int (iI v2)), u3] [.int (iI (match (tkS T n [] s).1 with | some k => (k : Int) | none => -1))] (mk (tr m (tkS T n [] s).2) q w) := fun s _ => rfl
  have r6 : ∀ s : rd, gd n s → rBd (ev d 27 [.ref 101, .ref 23] (mk (tr m s) q w)) (fun v M' => gv d rR66 84 [some (.ref x), some (.ref 101), some (.int (iI v2)), u3] (v.toList ++ []) M') = gv d rR66 93 [some (.ref x), some (.ref 101), some (.int (iI v2)), u3] [.int (iI (match (tkS T n [(6, W23)] s).1 with | some k => (k : Int) | none => -1))] (mk (tr m (tkS T n [(6, W23)] s).2) q w) := by
    intro s hs
    rw [U_27 hd h hs W23_t]
    simp only [rBd_v, Option.toList_some, Option.toList_none, List.cons_append, List.nil_append, List.append_nil, b_66_84 hx, zb_0]
    unfold tkS
    by_cases hw : aWd T n W23 s
    · rw [if_neg (not_not_intro hw), if_pos hw]
      rfl
    · rw [if_pos hw, if_neg hw]
      exact r7 _ (aTw_gd' (l := W23) (T := T) hs)
  have r5 : ∀ s : rd, gd n s → rBd (ev d 27 [.ref 101, .ref 20] (mk (tr m s) q w)) (fun v M' => gv d rR66 71 [some (.ref x), some (.ref 101), some (.int (iI v2)), u3] (v.toList ++ []) M') = gv d rR66 93 [some (.ref x), some (.ref 101), some (.int (iI v2)), u3] [.int (iI (match (tkS T n [(5, W20), (6, W23)] s).1 with | some k => (k : Int) | none => -1))] (mk (tr m (tkS T n [(5, W20), (6, W23)] s).2) q w) := by
    intro s hs
    rw [U_27 hd h hs W20_t]
    simp only [rBd_v, Option.toList_some, Option.toList_none, List.cons_append, List.nil_append, List.append_nil, b_66_71 hx, zb_0]
    unfold tkS
    by_cases hw : aWd T n W20 s
    · rw [if_neg (not_not_intro hw), if_pos hw]
      rfl
    · rw [if_pos hw, if_neg hw]
      have h9 := r6 _ (aTw_gd' (l := W20) (T := T) hs)
      simp only [List.append_nil] at h9
      exact h9
  have r4 : ∀ s : rd, gd n s → rBd (ev d 27 [.ref 101, .ref 29] (mk (tr m s) q w)) (fun v M' => gv d rR66 58 [some (.ref x), some (.ref 101), some (.int (iI v2)), u3] (v.toList ++ []) M') = gv d rR66 93 [some (.ref x), some (.ref 101), some (.int (iI v2)), u3] [.int (iI (match (tkS T n [(4, W29), (5, W20), (6, W23)] s).1 with | some k => (k : Int) | none => -1))] (mk (tr m (tkS T n [(4, W29), (5, W20), (6, W23)] s).2) q w) := by
    intro s hs
    rw [U_27 hd h hs W29_t]
    simp only [rBd_v, Option.toList_some, Option.toList_none, List.cons_append, List.nil_append, List.append_nil, b_66_58 hx, zb_0]
    unfold tkS
    by_cases hw : aWd T n W29 s
    · rw [if_neg (not_not_intro hw), if_pos hw]
      rfl
    · rw [if_pos hw, if_neg hw]
      have h9 := r5 _ (aTw_gd' (l := W29) (T := T) hs)
      simp only [List.append_nil] at h9
      exact h9
  have r3 : ∀ s : rd, gd n s → rBd (ev d 27 [.ref 101, .ref 16] (mk (tr m s) q w)) (fun v M' => gv d rR66 45 [some (.ref x), some (.ref 101), some (.int (iI v2)), u3] (v.toList ++ []) M') = gv d rR66 93 [some (.ref x), some (.ref 101), some (.int (iI v2)), u3] [.int (iI (match (tkS T n [(3, W16), (4, W29), (5, W20), (6, W23)] s).1 with | some k => (k : Int) | none => -1))] (mk (tr m (tkS T n [(3, W16), (4, W29), (5, W20), (6, W23)] s).2) q w) := by
    intro s hs
    rw [U_27 hd h hs W16_t]
    simp only [rBd_v, Option.toList_some, Option.toList_none, List.cons_append, List.nil_append, List.append_nil, b_66_45 hx, zb_0]
    unfold tkS
    by_cases hw : aWd T n W16 s
    · rw [if_neg (not_not_intro hw), if_pos hw]
      rfl
    · rw [if_pos hw, if_neg hw]
      have h9 := r4 _ (aTw_gd' (l := W16) (T := T) hs)
      simp only [List.append_nil] at h9
      exact h9
  have r2 : ∀ s : rd, gd n s → rBd (ev d 27 [.ref 101, .ref 32] (mk (tr m s) q w)) (fun v M' => gv d rR66 32 [some (.ref x), some (.ref 101), some (.int (iI v2)), u3] (v.toList ++ []) M') = gv d rR66 93 [some (.ref x), some (.ref 101), some (.int (iI v2)), u3] [.int (iI (match (tkS T n [(2, W32), (3, W16), (4, W29), (5, W20), (6, W23)] s).1 with | some k => (k : Int) | none => -1))] (mk (tr m (tkS T n [(2, W32), (3, W16), (4, W29), (5, W20), (6, W23)] s).2) q w) := by
    intro s hs
    rw [U_27 hd h hs W32_t]
    simp only [rBd_v, Option.toList_some, Option.toList_none, List.cons_append, List.nil_append, List.append_nil, b_66_32 hx, zb_0]
    unfold tkS
    by_cases hw : aWd T n W32 s
    · rw [if_neg (not_not_intro hw), if_pos hw]
      rfl
    · rw [if_pos hw, if_neg hw]
      have h9 := r3 _ (aTw_gd' (l := W32) (T := T) hs)
      simp only [List.append_nil] at h9
      exact h9
  have r1 : ∀ s : rd, gd n s → rBd (ev d 27 [.ref 101, .ref 33] (mk (tr m s) q w)) (fun v M' => gv d rR66 19 [some (.ref x), some (.ref 101), some (.int (iI v2)), u3] (v.toList ++ []) M') = gv d rR66 93 [some (.ref x), some (.ref 101), some (.int (iI v2)), u3] [.int (iI (match (tkS T n [(1, W33), (2, W32), (3, W16), (4, W29), (5, W20), (6, W23)] s).1 with | some k => (k : Int) | none => -1))] (mk (tr m (tkS T n [(1, W33), (2, W32), (3, W16), (4, W29), (5, W20), (6, W23)] s).2) q w) := by
    intro s hs
    rw [U_27 hd h hs W33_t]
    simp only [rBd_v, Option.toList_some, Option.toList_none, List.cons_append, List.nil_append, List.append_nil, b_66_19 hx, zb_0]
    unfold tkS
    by_cases hw : aWd T n W33 s
    · rw [if_neg (not_not_intro hw), if_pos hw]
      rfl
    · rw [if_pos hw, if_neg hw]
      have h9 := r2 _ (aTw_gd' (l := W33) (T := T) hs)
      simp only [List.append_nil] at h9
      exact h9
  have r0 : ∀ s : rd, gd n s → rBd (ev d 27 [.ref 101, .ref 30] (mk (tr m s) q w)) (fun v M' => gv d rR66 6 [some (.ref x), some (.ref 101), some (.int (iI v2)), u3] (v.toList ++ []) M') = gv d rR66 93 [some (.ref x), some (.ref 101), some (.int (iI v2)), u3] [.int (iI (match (tkS T n [(0, W30), (1, W33), (2, W32), (3, W16), (4, W29), (5, W20), (6, W23)] s).1 with | some k => (k : Int) | none => -1))] (mk (tr m (tkS T n [(0, W30), (1, W33), (2, W32), (3, W16), (4, W29), (5, W20), (6, W23)] s).2) q w) := by
    intro s hs
    rw [U_27 hd h hs W30_t]
    simp only [rBd_v, Option.toList_some, Option.toList_none, List.cons_append, List.nil_append, List.append_nil, b_66_6 hx, zb_0]
    unfold tkS
    by_cases hw : aWd T n W30 s
    · rw [if_neg (not_not_intro hw), if_pos hw]
      rfl
    · rw [if_pos hw, if_neg hw]
      have h9 := r1 _ (aTw_gd' (l := W30) (T := T) hs)
      simp only [List.append_nil] at h9
      exact h9
  rw [b_66_0 hx]
  exact r0 s hs
theorem T_66 (hd : 11 ≤ d) (hx : iLaw x) (h : onT m T n) (hs : gd n s) (hz : z ≤ 150) {p : Nat} : ev d 66 [.ref x, .ref 101, .int (iI p)] (mk (tr (lw m x C z) s) q w) = match (tkS T n fcL s).1 with
    | some k => vV (mk (tr (lw m x (adC C z (-1 - (k : Int))) (adZ z)) (tkS T n fcL s).2) q w)
    | none => vV (mk (tr (lw m x C z) (aBl 1 p (tkS T n fcL s).2)) q w) := by
  have hg : ∀ (L : List (Nat × List Nat)) (s : rd), gd n s → gd n (tkS T n L s).2 := by
    intro L
    induction L with
    | nil => intro s hs; exact hs
    | cons e L ih =>
      intro s hs
      obtain ⟨k, l⟩ := e
      unfold tkS
      split
      · exact aTw_gd' hs
      · exact ih _ (aTw_gd' hs)
  have hlt := tk_lt (T := T) (n := n) (b := 7) fcL (by decide) s
  rw [e_66 (by omega) _ rfl rfl rfl, R_66 (show 10 ≤ d - 1 by omega) hx (lw_on m C z hx h) hs]
  have h2 := hg fcL s hs
  generalize hr : tkS T n fcL s = r at *
  obtain ⟨o, s2⟩ := r
  cases o with
  | none =>
    dsimp only at h2 ⊢
    rw [b_66_93 hx, if_pos rfl, U_5 (show 1 ≤ d - 1 by omega) h2]
    simp only [rBd_v, Option.toList_some, Option.toList_none, List.cons_append, List.nil_append, List.append_nil, b_66_105, b_66_115]
  | some k =>
    have hk := hlt k rfl
    dsimp only at h2 ⊢
    rw [b_66_93 hx, if_neg (by rw [iI_eq (by omega) (by omega)]; omega), T_65 (show 1 ≤ d - 1 by omega) hx hz]
    simp only [rBd_v, Option.toList_some, Option.toList_none, List.cons_append, List.nil_append, List.append_nil, b_66_115]
/-! the reference -/
variable {E F : Nat → Int} {k op : Nat}
theorem V_184 (hd : 2 ≤ d) (hs : gx n s) (hk : s.2.1 = -1 → k < 150) {e f : Int} : ev d 184 [.ref 363, .int (iI e), .int (iI f)] (mk (mr (lx m E F k op) s) q w) = if s.2.1 = -1 then vV (mk (mr (lx m (row E k e) (row F k f) (k + 1) op) s) q w) else vV (mk (mr (lx m E F k op) s) q w) := by
  have e23 : mr (lx m E F k op) s 363 23 = k := by rw [mr_b _ _ (by decide) (by decide) (by decide), lx_23]
  rw [e_184 (by omega) _ rfl rfl rfl]
  simp only [b_184_0, V_167 (m := lx m E F k op) (show 1 ≤ d - 1 by omega) hs, rBd_v, Option.toList_some, Option.toList_none, List.cons_append, List.nil_append, List.append_nil, b_184_4, zb_0]
  by_cases h0 : s.2.1 = -1
  · have := hk h0
    rw [if_neg (not_not_intro h0), if_pos h0, b_184_8 (by rw [e23]; omega) (by rw [e23]; omega) (by rw [wr_o _ _ _ _ (by decide), e23]; omega) (by rw [wr_o _ _ _ _ (by decide), e23]; omega)]
    simp only [wr_o _ _ _ _ (show 363 ≠ 368 by decide), wr_o _ _ _ _ (show 363 ≠ 369 by decide), e23, Int.toNat_natCast]
    rw [mr_wo (by decide), mr_wo (by decide), mr_wi (by decide) (by decide) (by decide), show (k : Int) + 1 = ((k + 1 : Nat) : Int) from rfl, lx_add]
  · rw [if_pos h0, if_neg h0]
theorem V_185 (hd : 2 ≤ d) (hs : gx n s) (hn : n ≤ 600) (hop : op ≤ 6) {b : Nat} (hb : b ≤ 5) : ev d 185 [.ref 363, .int (iI b)] (mk (mr (lx m E F k op) s) q w) = vV (mk (mr (lx m E F k (op + 1)) (xOp b op s)) q w) := by
  have e7 : ∀ s : rd, mr (lx m E F k op) s 363 7 = op := fun s => by rw [mr_b _ _ (by decide) (by decide) (by decide), lx_7]
  have hE : ∀ s : rd, gv (d - 1) rR185 42 [some (.ref 363), some (.int (iI b))] [] (mk (mr (lx m E F k op) s) q w) = vV (mk (mr (lx m E F k (op + 1)) s) q w) := by
    intro s
    rw [b_185_42, e7, mr_wi (by decide) (by decide) (by decide), show (op : Int) + 1 = ((op + 1 : Nat) : Int) from rfl, lx_w7]
  rw [e_185 (by omega) _ rfl rfl]
  simp only [b_185_0, V_167 (m := lx m E F k op) (show 1 ≤ d - 1 by omega) hs, rBd_v, Option.toList_some, Option.toList_none, List.cons_append, List.nil_append, List.append_nil, b_185_4, zb_0, e7, iI_eq (by omega : i32 (op : Int)) (by omega : i32 6), mr_4]
  unfold xOp
  by_cases h0 : s.2.1 = -1
  · rw [if_neg (not_not_intro h0), if_pos h0]
    by_cases h6 : op = 6
    · rw [if_pos (by omega), if_pos h6, V_168 (show 1 ≤ d - 1 by omega) hs]
      have e9 : xWr 3 s.1 s = (s.1, (s.1 : Int), 3) := by
        unfold xWr
        rw [if_pos h0]
      have hs9 : gx n (s.1, (s.1 : Int), 3) := ⟨hs.1, by have := hs.1; show i32 (s.1 : Int); omega⟩
      rw [e9]
      simp only [rBd_v, Option.toList_some, Option.toList_none, List.cons_append, List.nil_append, List.append_nil, b_185_25, V_167 (m := lx m E F k op) (show 1 ≤ d - 1 by omega) hs9, b_185_29, zb_0]
      rw [if_pos (by show ¬ (s.1 : Int) = -1; omega), hE]
    · rw [if_neg (by omega), if_neg h6]
      simp only [rBd_v, Option.toList_some, Option.toList_none, List.cons_append, List.nil_append, List.append_nil, b_185_25, V_167 (m := lx m E F k op) (show 1 ≤ d - 1 by omega) hs, b_185_29, zb_0, mr_4]
      rw [if_neg (not_not_intro h0), show (s.1 : Int) + (b : Int) = ((s.1 + b : Nat) : Int) from rfl, mr_w4, hE]
  · rw [if_pos h0, if_neg h0]
    simp only [b_185_25, V_167 (m := lx m E F k op) (show 1 ≤ d - 1 by omega) hs, rBd_v, Option.toList_some, Option.toList_none, List.cons_append, List.nil_append, List.append_nil, b_185_29, zb_0]
    rw [if_pos h0, hE]

theorem R_186 (hd : 10 ≤ d) {v : Int} (hv : i32 v) {u0 : Option Value} : rBd (ev d 173 [.ref 30] (mk m q w)) (fun u M' => gv d rR186 11 [u0, some (.int (iI v))] (u.toList ++ [.int (iI v)]) M') = vI (match lkW v fcL with | some k => (k : Int) | none => -1) (mk m q w) := by
  have r6 : rBd (ev d 173 [.ref 23] (mk m q w)) (fun u M' => gv d rR186 92 [u0, some (.int (iI v))] (u.toList ++ [.int (iI v)]) M') = vI (match lkW v [(6, W23)] with | some k => (k : Int) | none => -1) (mk m q w) := by
    rw [V_173 hd W23_t]
    simp only [rBd_v, Option.toList_some, Option.toList_none, List.cons_append, List.nil_append, List.append_nil, b_186_92, iI_eq hv (ofL_i W23_l), b_186_101]
    unfold lkW
    by_cases hw : v = ofL 0 W23
    · rw [if_pos hw, if_pos hw]
      rfl
    · rw [if_neg hw, if_neg hw]
      rfl
  have r5 : rBd (ev d 173 [.ref 20] (mk m q w)) (fun u M' => gv d rR186 78 [u0, some (.int (iI v))] (u.toList ++ [.int (iI v)]) M') = vI (match lkW v [(5, W20), (6, W23)] with | some k => (k : Int) | none => -1) (mk m q w) := by
    rw [V_173 hd W20_t]
    simp only [rBd_v, Option.toList_some, Option.toList_none, List.cons_append, List.nil_append, List.append_nil, b_186_78, iI_eq hv (ofL_i W20_l), b_186_101]
    unfold lkW
    by_cases hw : v = ofL 0 W20
    · rw [if_pos hw, if_pos hw]
      rfl
    · rw [if_neg hw, if_neg hw]
      have h9 := r6
      exact h9
  have r4 : rBd (ev d 173 [.ref 29] (mk m q w)) (fun u M' => gv d rR186 64 [u0, some (.int (iI v))] (u.toList ++ [.int (iI v)]) M') = vI (match lkW v [(4, W29), (5, W20), (6, W23)] with | some k => (k : Int) | none => -1) (mk m q w) := by
    rw [V_173 hd W29_t]
    simp only [rBd_v, Option.toList_some, Option.toList_none, List.cons_append, List.nil_append, List.append_nil, b_186_64, iI_eq hv (ofL_i W29_l), b_186_101]
    unfold lkW
    by_cases hw : v = ofL 0 W29
    · rw [if_pos hw, if_pos hw]
      rfl
    · rw [if_neg hw, if_neg hw]
      have h9 := r5
      exact h9
  have r3 : rBd (ev d 173 [.ref 16] (mk m q w)) (fun u M' => gv d rR186 50 [u0, some (.int (iI v))] (u.toList ++ [.int (iI v)]) M') = vI (match lkW v [(3, W16), (4, W29), (5, W20), (6, W23)] with | some k => (k : Int) | none => -1) (mk m q w) := by
    rw [V_173 hd W16_t]
    simp only [rBd_v, Option.toList_some, Option.toList_none, List.cons_append, List.nil_append, List.append_nil, b_186_50, iI_eq hv (ofL_i W16_l), b_186_101]
    unfold lkW
    by_cases hw : v = ofL 0 W16
    · rw [if_pos hw, if_pos hw]
      rfl
    · rw [if_neg hw, if_neg hw]
      have h9 := r4
      exact h9
  have r2 : rBd (ev d 173 [.ref 32] (mk m q w)) (fun u M' => gv d rR186 37 [u0, some (.int (iI v))] (u.toList ++ [.int (iI v)]) M') = vI (match lkW v [(2, W32), (3, W16), (4, W29), (5, W20), (6, W23)] with | some k => (k : Int) | none => -1) (mk m q w) := by
    rw [V_173 hd W32_t]
    simp only [rBd_v, Option.toList_some, Option.toList_none, List.cons_append, List.nil_append, List.append_nil, b_186_37, iI_eq hv (ofL_i W32_l), b_186_101]
    unfold lkW
    by_cases hw : v = ofL 0 W32
    · rw [if_pos hw, if_pos hw]
      rfl
    · rw [if_neg hw, if_neg hw]
      have h9 := r3
      exact h9
  have r1 : rBd (ev d 173 [.ref 33] (mk m q w)) (fun u M' => gv d rR186 24 [u0, some (.int (iI v))] (u.toList ++ [.int (iI v)]) M') = vI (match lkW v [(1, W33), (2, W32), (3, W16), (4, W29), (5, W20), (6, W23)] with | some k => (k : Int) | none => -1) (mk m q w) := by
    rw [V_173 hd W33_t]
    simp only [rBd_v, Option.toList_some, Option.toList_none, List.cons_append, List.nil_append, List.append_nil, b_186_24, iI_eq hv (ofL_i W33_l), b_186_101]
    unfold lkW
    by_cases hw : v = ofL 0 W33
    · rw [if_pos hw, if_pos hw]
      rfl
    · rw [if_neg hw, if_neg hw]
      have h9 := r2
      exact h9
  have r0 : rBd (ev d 173 [.ref 30] (mk m q w)) (fun u M' => gv d rR186 11 [u0, some (.int (iI v))] (u.toList ++ [.int (iI v)]) M') = vI (match lkW v [(0, W30), (1, W33), (2, W32), (3, W16), (4, W29), (5, W20), (6, W23)] with | some k => (k : Int) | none => -1) (mk m q w) := by
    rw [V_173 hd W30_t]
    simp only [rBd_v, Option.toList_some, Option.toList_none, List.cons_append, List.nil_append, List.append_nil, b_186_11, iI_eq hv (ofL_i W30_l), b_186_101]
    unfold lkW
    by_cases hw : v = ofL 0 W30
    · rw [if_pos hw, if_pos hw]
      rfl
    · rw [if_neg hw, if_neg hw]
      have h9 := r1
      exact h9
  exact r0
theorem V_186 (hd : 11 ≤ d) (h : onX m T n) (hs : gx n s) : ev d 186 [.ref 363] (mk (mr m s) q w) = vI (match lkW (wVal T n (skip T n s.1)) fcL with | some k => (k : Int) | none => -1) (mk (mr m (skip T n s.1, s.2)) q w) := by
  rw [e_186 (by omega) _ rfl, b_186_0, V_172 (show 2 ≤ d - 1 by omega) h hs]
  simp only [rBd_v, Option.toList_some, Option.toList_none, List.cons_append, List.nil_append, List.append_nil, b_186_4]
  have := R_186 (m := mr m (skip T n s.1, s.2)) (q := q) (w := w) (show 10 ≤ d - 1 by omega) (word_i (T := T) (n := n) (p := skip T n s.1)) (u0 := some (.ref 363))
  exact this
end S
