/-! ===== a law is read by both: behind a fault ===== -/
section F
variable {T : Nat → Int} {n : Nat} {s x : rd}
theorem f_aN (h : s.2.1 ≠ 0) : aN T n s = s := if_neg h
theorem f_aTk (h : s.2.1 ≠ 0) {c : Int} : aTk T n c s = s := by
  unfold aTk
  rw [if_neg (fun z => h z.1), f_aN h]
theorem f_aTw (h : s.2.1 ≠ 0) {l : List Nat} : aTw T n l s = s := by
  unfold aTw
  rw [if_neg (fun z => h z.1), f_aN h]
theorem f_aBl (h : s.2.1 ≠ 0) {kd : Int} {z : Nat} : aBl kd z s = s := if_neg h
theorem f_aEx (h : s.2.1 ≠ 0) {c : Int} : aEx T n c s = s := by
  unfold aEx
  rw [if_neg (fun z => h z.1), f_aTk h, f_aBl h]
theorem f_tk (h : s.2.1 ≠ 0) : ∀ L : List (Nat × List Nat), tkS T n L s = (none, s) := by
  intro L
  induction L with
  | nil => rfl
  | cons e L ih =>
    obtain ⟨k, l⟩ := e
    unfold tkS
    rw [if_neg (fun z => h z.1), f_aTw h, ih]
theorem f_aNum (h : s.2.1 ≠ 0) {lo hi : Int} : aNum T n lo hi s = (lo, s) := if_neg h
theorem f_xSg (h : s.2.1 ≠ -1) {c : Int} : xSg T n c s = s := if_neg h
theorem f_xOp (h : s.2.1 ≠ -1) {b op : Nat} : xOp b op s = s := if_neg h
theorem f_xWr (h : s.2.1 ≠ -1) {kd : Int} {z : Nat} : xWr kd z s = s := if_neg h
theorem f_xNum (h : s.2.1 ≠ -1) {lo hi : Int} : xNum T n lo hi s = (0, s) := if_neg h
theorem rel_f {s' x' : rd} (h : rel s x) (h0 : s.2.1 ≠ 0) (h1 : s'.2 = s.2) (h2 : x'.2 = x.2) : rel s' x' := by
  rcases h with ⟨h3, -, -⟩ | h3
  · exact absurd h3 h0
  · unfold rel
    rw [h1, h2]
    exact Or.inr h3
theorem rel_nf (h : rel s x) (h0 : s.2.1 ≠ 0) : x.2.1 ≠ -1 := fun z => h0 ((rel_fine h).mpr z)
theorem aN_fix (h0 : s.2.1 = 0) (hk : skip T n s.1 = s.1) : aN T n s = s := by
  unfold aN
  rw [if_pos h0, hk]
theorem num_gt {lo hi : Int} (h0 : s.2.1 = 0) (h : (aNum T n lo hi s).2.2.1 = 0) : skip T n s.1 < (aNum T n lo hi s).2.1 := by
  have h2 := (dig_le T (n - skip T n s.1) (skip T n s.1) 0 (by omega) (by omega)).1
  unfold aNum at h ⊢
  rw [if_pos h0] at h ⊢
  dsimp only at h ⊢
  by_cases h3 : (dig T (n - skip T n s.1) (skip T n s.1) 0).2 = skip T n s.1
  · rw [if_pos h3] at h
    unfold aBl at h
    rw [if_pos h0] at h
    exact absurd h (by show ¬ (1 : Int) = 0; decide)
  · rw [if_neg h3] at h ⊢
    split at h
    next h4 =>
      rw [if_pos h4]
      show _ < (dig _ _ _ _).2
      omega
    next h4 =>
      unfold aBl at h
      rw [if_pos h0] at h
      exact absurd h (by show ¬ (2 : Int) = 0; decide)
theorem xSg_gx {c : Int} (hc : 0 < c) (hn : n ≤ 600) (h : gx n s) : gx n (xSg T n c s) := by
  have hk := skip_le T h.1
  unfold xSg
  by_cases h0 : s.2.1 = -1
  · rw [if_pos h0]
    split
    next h1 =>
      refine ⟨?_, h.2⟩
      show skip T n s.1 + 1 ≤ n
      unfold hv at h1
      by_cases h2 : skip T n s.1 < n
      · exact h2
      · rw [if_neg h2] at h1
        omega
    next => exact ⟨hk.2, by show i32 ((skip T n s.1 : Nat) : Int); omega⟩
  · rw [if_neg h0]
    exact h
end F
section S
variable {d n : Nat} {m : Nat → Nat → Int} {q : Nat → Nat → Option Nat} {w : Option (Nat → Int64)} {T : Nat → Int} {s xs : rd} {x z op k : Nat} {C E F : Nat → Int}
theorem F_71 (hd : 12 ≤ d) (hx : iLaw x) (h : onT m T n) (hs : gd n s) (h0 : s.2.1 ≠ 0) (hz : z ≤ 150) {o : Int} : ev d 71 [.ref x, .ref 101, .int (iI o)] (mk (tr (lw m x C z) s) q w) = vV (mk (tr (lw m x C z) (skip T n s.1, s.2)) q w) := by
  have hO := lw_on m C z hx h
  obtain ⟨s1, e1⟩ : ∃ s1 : rd, s1 = (skip T n s.1, s.2) := ⟨_, rfl⟩
  have hs1 : gd n s1 := by rw [e1]; exact ⟨(skip_le T hs.1).2, hs.2⟩
  have h1 : s1.2.1 ≠ 0 := by rw [e1]; exact h0
  rw [e_71 (by omega) _ rfl rfl rfl, b_71_0 hx, U_2 (show 1 ≤ d - 1 by omega) hO hs, ← e1]
  simp only [rBd_v, Option.toList_some, Option.toList_none, List.cons_append, List.nil_append, List.append_nil, b_71_4 hx]
  rw [U_4 (show 2 ≤ d - 1 by omega) hO hs1, f_aN h1]
  simp only [rBd_v, Option.toList_some, Option.toList_none, List.cons_append, List.nil_append, List.append_nil, b_71_9 hx, zb_0]
  rw [if_pos (fun z => h1 z.1), U_8 (show 2 ≤ d - 1 by omega) hO hs1 (by omega), f_aTk h1]
  simp only [rBd_v, Option.toList_some, Option.toList_none, List.cons_append, List.nil_append, List.append_nil, b_71_33 hx, zb_0]
  rw [if_pos (fun z => h1 z.1), U_27 (show 10 ≤ d - 1 by omega) hO hs1 W12_t, f_aTw h1]
  simp only [rBd_v, Option.toList_some, Option.toList_none, List.cons_append, List.nil_append, List.append_nil, b_71_52 hx, zb_0]
  rw [if_pos (fun z => h1 z.1), U_27 (show 10 ≤ d - 1 by omega) hO hs1 W13_t, f_aTw h1]
  simp only [rBd_v, Option.toList_some, Option.toList_none, List.cons_append, List.nil_append, List.append_nil, b_71_73 hx, zb_0]
  rw [if_pos (fun z => h1 z.1), T_66 (show 11 ≤ d - 1 by omega) hx h hs1 hz, f_tk h1]
  dsimp only
  rw [f_aBl h1]
  simp only [rBd_v, Option.toList_some, Option.toList_none, List.cons_append, List.nil_append, List.append_nil, b_71_94]
theorem F_69_8 (hd : 2 ≤ d) (hx : iLaw x) (h : onT m T n) (hs : gd n s) (h1 : s.2.1 ≠ 0) {o i : Int} (hi : i32 i) {u : Option Value} : gv d rR69 8 [some (.ref x), some (.ref 101), some (.int (iI o)), some (.int (iI i)), u] [] (mk (tr (lw m x C z) s) q w) = vV (mk (tr (lw m x C z) s) q w) := by
  have hO := lw_on m C z hx h
  rw [b_69_8 hx]
  simp only [iI_lt hi (by omega : i32 150), U_8 (m := lw m x C z) hd hO hs (by omega : i32 42), f_aTk h1, rBd_v, Option.toList_some, Option.toList_none, List.cons_append, List.nil_append, List.append_nil, b_69_21 hx, zb_0]
  split
  · rw [if_pos (fun z => h1 z.1), U_8 hd hO hs (by omega), f_aTk h1]
    simp only [rBd_v, Option.toList_some, Option.toList_none, List.cons_append, List.nil_append, List.append_nil, b_69_35 hx, zb_0]
    rw [if_pos (fun z => h1 z.1), U_8 hd hO hs (by omega), f_aTk h1]
    simp only [rBd_v, Option.toList_some, Option.toList_none, List.cons_append, List.nil_append, List.append_nil, b_69_49 hx, zb_0]
    rw [if_pos (fun z => h1 z.1), b_69_58 hx, if_pos rfl]
  · rfl
theorem F_69 (hd : 13 ≤ d) (hx : iLaw x) (h : onT m T n) (hs : gd n s) (h0 : s.2.1 ≠ 0) (hz : z ≤ 150) {o : Int} : ev d 69 [.ref x, .ref 101, .int (iI o)] (mk (tr (lw m x C z) s) q w) = vV (mk (tr (lw m x C z) (skip T n s.1, s.2)) q w) := by
  rw [e_69 (by omega) _ rfl rfl rfl, b_69_0 hx, F_71 (by omega) hx h hs h0 hz]
  simp only [rBd_v, Option.toList_some, Option.toList_none, List.cons_append, List.nil_append, List.append_nil, b_69_6 hx]
  exact F_69_8 (s := (skip T n s.1, s.2)) (by omega) hx h ⟨(skip_le T hs.1).2, hs.2⟩ h0 (by omega)
theorem F_70_8 (hd : 2 ≤ d) (hx : iLaw x) (h : onT m T n) (hs : gd n s) (h1 : s.2.1 ≠ 0) {o i : Int} (hi : i32 i) {u : Option Value} : gv d rR70 8 [some (.ref x), some (.ref 101), some (.int (iI o)), some (.int (iI i)), u] [] (mk (tr (lw m x C z) s) q w) = vV (mk (tr (lw m x C z) s) q w) := by
  have hO := lw_on m C z hx h
  rw [b_70_8 hx]
  simp only [iI_lt hi (by omega : i32 150), U_8 (m := lw m x C z) hd hO hs (by omega : i32 43), f_aTk h1, rBd_v, Option.toList_some, Option.toList_none, List.cons_append, List.nil_append, List.append_nil, b_70_21 hx, zb_0]
  split
  · rw [if_pos (fun z => h1 z.1), U_8 hd hO hs (by omega), f_aTk h1]
    simp only [rBd_v, Option.toList_some, Option.toList_none, List.cons_append, List.nil_append, List.append_nil, b_70_35 hx, zb_0]
    rw [if_pos (fun z => h1 z.1), b_70_44 hx, if_pos rfl]
  · rfl
theorem F_70 (hd : 14 ≤ d) (hx : iLaw x) (h : onT m T n) (hs : gd n s) (h0 : s.2.1 ≠ 0) (hz : z ≤ 150) {o : Int} : ev d 70 [.ref x, .ref 101, .int (iI o)] (mk (tr (lw m x C z) s) q w) = vV (mk (tr (lw m x C z) (skip T n s.1, s.2)) q w) := by
  rw [e_70 (by omega) _ rfl rfl rfl, b_70_0 hx, F_69 (by omega) hx h hs h0 hz]
  simp only [rBd_v, Option.toList_some, Option.toList_none, List.cons_append, List.nil_append, List.append_nil, b_70_6 hx]
  exact F_70_8 (s := (skip T n s.1, s.2)) (by omega) hx h ⟨(skip_le T hs.1).2, hs.2⟩ h0 (by omega)
theorem G_190 (hd : 2 ≤ d) (hs : gx n xs) (h0 : xs.2.1 ≠ -1) : ev d 190 [.ref 363] (mk (mr m xs) q w) = vV (mk (mr m xs) q w) := by
  rw [e_190 (by omega) _ rfl]
  simp only [b_190_0, V_167 (show 1 ≤ d - 1 by omega) hs, rBd_v, Option.toList_some, Option.toList_none, List.cons_append, List.nil_append, List.append_nil, b_190_4, zb_0]
  rw [if_pos h0]
theorem G_187 (hd : 3 ≤ d) (hs : gx n xs) (h0 : xs.2.1 ≠ -1) : ev d 187 [.ref 363] (mk (mr m xs) q w) = vV (mk (mr m xs) q w) := by
  rw [e_187 (by omega) _ rfl]
  simp only [b_187_0, G_190 (show 2 ≤ d - 1 by omega) hs h0, rBd_v, Option.toList_some, Option.toList_none, List.cons_append, List.nil_append, List.append_nil, b_187_4, V_167 (show 1 ≤ d - 1 by omega) hs, b_187_8, zb_0]
  rw [if_pos h0, b_187_90]
theorem G_188 (hd : 4 ≤ d) (hs : gx n xs) (h0 : xs.2.1 ≠ -1) : ev d 188 [.ref 363] (mk (mr m xs) q w) = vV (mk (mr m xs) q w) := by
  rw [e_188 (by omega) _ rfl]
  simp only [b_188_0, G_187 (show 3 ≤ d - 1 by omega) hs h0, rBd_v, Option.toList_some, Option.toList_none, List.cons_append, List.nil_append, List.append_nil, b_188_4, V_167 (show 1 ≤ d - 1 by omega) hs, b_188_8, zb_0]
  rw [if_pos h0, b_188_67]
/-! a pair's rest behind a fault -/
def tailC (T : Nat → Int) (n d pc x : Nat) (o c : Int) (C : Nat → Int) (z : Nat) (s : rd) : Prop := ∃ (C' : Nat → Int) (z' : Nat) (s' : rd), (∀ (m : Nat → Nat → Int) (q : Nat → Nat → Option Nat) (w : Option (Nat → Int64)) (u : Option Value), onT m T n → gv d rR68 pc [some (.ref x), some (.ref 101), some (.int (iI o)), u, some (.int (iI c))] [] (mk (tr (lw m x C z) s) q w) = vV (mk (tr (lw m x C' z') s') q w)) ∧ s'.2 = s.2 ∧ gd n s' ∧ z' ≤ 150
theorem tail47 (hd : 1 ≤ d) (hx : iLaw x) (hs : gd n s) (hz : z ≤ 150) {o c : Int} : tailC T n d 47 x o c C z s := by
  refine ⟨adC C z c, adZ z, s, ?_, rfl, hs, adZ_le hz⟩
  intro m q w u h
  rw [b_68_47 hx, T_65 hd hx hz]
  simp only [rBd_v, Option.toList_some, Option.toList_none, List.cons_append, List.nil_append, List.append_nil, b_68_53]
theorem tail41 (hd : 3 ≤ d) (hx : iLaw x) (hs : gd n s) (h0 : s.2.1 ≠ 0) (hz : z ≤ 150) {o c : Int} : tailC T n d 41 x o c C z s := by
  obtain ⟨C', z', s', h1, h2⟩ := tail47 (T := T) (C := C) (o := o) (c := c) (show 1 ≤ d by omega) hx hs hz
  refine ⟨C', z', s', ?_, h2⟩
  intro m q w u h
  rw [b_68_41 hx, U_9 hd (lw_on m C z hx h) hs (by omega), f_aEx h0]
  simp only [rBd_v, Option.toList_some, Option.toList_none, List.cons_append, List.nil_append, List.append_nil]
  exact h1 m q w u h
theorem tail33 (hd : 14 ≤ d) (hx : iLaw x) (hs : gd n s) (h0 : s.2.1 ≠ 0) (hz : z ≤ 150) {o c : Int} : tailC T n d 33 x o c C z s := by
  obtain ⟨C', z', s', h1, h2⟩ := tail41 (T := T) (C := C) (o := o) (c := c) (s := (skip T n s.1, s.2)) (show 3 ≤ d by omega) hx ⟨(skip_le T hs.1).2, hs.2⟩ h0 hz
  refine ⟨C', z', s', ?_, h2⟩
  intro m q w u h
  rw [b_68_33 hx, F_70 hd hx h hs h0 hz]
  simp only [rBd_v, Option.toList_some, Option.toList_none, List.cons_append, List.nil_append, List.append_nil]
  exact h1 m q w u h
theorem tail27 (hd : 14 ≤ d) (hx : iLaw x) (hs : gd n s) (h0 : s.2.1 ≠ 0) (hz : z ≤ 150) {o c : Int} : tailC T n d 27 x o c C z s := by
  obtain ⟨C', z', s', h1, h2⟩ := tail33 (T := T) (C := C) (o := o) (c := c) hd hx hs h0 hz
  refine ⟨C', z', s', ?_, h2⟩
  intro m q w u h
  rw [b_68_27 hx, U_9 (by omega) (lw_on m C z hx h) hs (by omega), f_aEx h0]
  simp only [rBd_v, Option.toList_some, Option.toList_none, List.cons_append, List.nil_append, List.append_nil]
  exact h1 m q w u h
theorem tail19 (hd : 14 ≤ d) (hx : iLaw x) (hs : gd n s) (h0 : s.2.1 ≠ 0) (hz : z ≤ 150) {o c : Int} : tailC T n d 19 x o c C z s := by
  obtain ⟨C', z', s', h1, h2⟩ := tail27 (T := T) (C := C) (o := o) (c := c) (s := (skip T n s.1, s.2)) hd hx ⟨(skip_le T hs.1).2, hs.2⟩ h0 hz
  refine ⟨C', z', s', ?_, h2⟩
  intro m q w u h
  rw [b_68_19 hx, F_70 hd hx h hs h0 hz]
  simp only [rBd_v, Option.toList_some, Option.toList_none, List.cons_append, List.nil_append, List.append_nil]
  exact h1 m q w u h
theorem xt31 (hd : 2 ≤ d) (hs : gx n xs) (h0 : xs.2.1 ≠ -1) {e : Int} {u : Option Value} : gv d rR189 31 [some (.ref 363), u, some (.int (iI e))] [] (mk (mr (lx m E F k (op + 1)) xs) q w) = vV (mk (mr (lx m E F k op) xs) q w) := by
  have e7 : mr (lx m E F k (op + 1)) xs 363 7 = ((op + 1 : Nat) : Int) := by rw [mr_b _ _ (by decide) (by decide) (by decide), lx_7]
  rw [b_189_31, e7, mr_wi (by decide) (by decide) (by decide), show ((op + 1 : Nat) : Int) - 1 = ((op : Nat) : Int) by omega, lx_w7, V_184 hd hs (fun z => absurd z h0), if_neg h0]
  simp only [rBd_v, Option.toList_some, Option.toList_none, List.cons_append, List.nil_append, List.append_nil, b_189_47]
theorem xt25 (hd : 2 ≤ d) (h : onX m T n) (hs : gx n xs) (h0 : xs.2.1 ≠ -1) {e : Int} {u : Option Value} : gv d rR189 25 [some (.ref 363), u, some (.int (iI e))] [] (mk (mr (lx m E F k (op + 1)) xs) q w) = vV (mk (mr (lx m E F k op) xs) q w) := by
  rw [b_189_25, V_176 hd (lx_on m E F k (op + 1) h) hs (by omega), f_xSg h0]
  simp only [rBd_v, Option.toList_some, Option.toList_none, List.cons_append, List.nil_append, List.append_nil]
  exact xt31 hd hs h0
theorem xt21 (hd : 4 ≤ d) (h : onX m T n) (hs : gx n xs) (h0 : xs.2.1 ≠ -1) {e : Int} {u : Option Value} : gv d rR189 21 [some (.ref 363), u, some (.int (iI e))] [] (mk (mr (lx m E F k (op + 1)) xs) q w) = vV (mk (mr (lx m E F k op) xs) q w) := by
  rw [b_189_21, G_188 hd hs h0]
  simp only [rBd_v, Option.toList_some, Option.toList_none, List.cons_append, List.nil_append, List.append_nil]
  exact xt25 (by omega) h hs h0
theorem xt15 (hd : 4 ≤ d) (h : onX m T n) (hs : gx n xs) (h0 : xs.2.1 ≠ -1) {e : Int} {u : Option Value} : gv d rR189 15 [some (.ref 363), u, some (.int (iI e))] [] (mk (mr (lx m E F k (op + 1)) xs) q w) = vV (mk (mr (lx m E F k op) xs) q w) := by
  rw [b_189_15, V_176 (by omega) (lx_on m E F k (op + 1) h) hs (by omega), f_xSg h0]
  simp only [rBd_v, Option.toList_some, Option.toList_none, List.cons_append, List.nil_append, List.append_nil]
  exact xt21 hd h hs h0
theorem xt11 (hd : 4 ≤ d) (h : onX m T n) (hs : gx n xs) (h0 : xs.2.1 ≠ -1) {e : Int} {u : Option Value} : gv d rR189 11 [some (.ref 363), u, some (.int (iI e))] [] (mk (mr (lx m E F k (op + 1)) xs) q w) = vV (mk (mr (lx m E F k op) xs) q w) := by
  rw [b_189_11, G_188 hd hs h0]
  simp only [rBd_v, Option.toList_some, Option.toList_none, List.cons_append, List.nil_append, List.append_nil]
  exact xt15 hd h hs h0
theorem xt5 (hd : 4 ≤ d) (h : onX m T n) (hs : gx n xs) (h0 : xs.2.1 ≠ -1) {e : Int} {u : Option Value} : gv d rR189 5 [some (.ref 363), u, some (.int (iI e))] [] (mk (mr (lx m E F k (op + 1)) xs) q w) = vV (mk (mr (lx m E F k op) xs) q w) := by
  rw [b_189_5, V_176 (by omega) (lx_on m E F k (op + 1) h) hs (by omega), f_xSg h0]
  simp only [rBd_v, Option.toList_some, Option.toList_none, List.cons_append, List.nil_append, List.append_nil]
  exact xt11 hd h hs h0
end S
