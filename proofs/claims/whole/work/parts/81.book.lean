/-! ===== a book is read by both ===== -/
def bx (m : Nat → Nat → Int) (x : Nat) (V S M : Nat → Int) (z : Nat) : Nat → Nat → Int := wr (row (row (row m (x + 1) V) (x + 2) S) (x + 3) M) x 3 z
theorem book_rng {x : Nat} (h : iBook x) : 192 ≤ x ∧ x ≤ 196 := (by decide +kernel : ∀ x ∈ bookIds, 192 ≤ x ∧ x ≤ 196) x h
section B
variable {m : Nat → Nat → Int} {x z : Nat} {V S M : Nat → Int}
theorem bx_on {T : Nat → Int} {n : Nat} (hx : iBook x) (h : onT m T n) : onT (bx m x V S M z) T n := by
  have hr := book_rng hx
  exact onT_wr (onT_row (onT_row (onT_row h (by omega) (by omega)) (by omega) (by omega)) (by omega) (by omega)) (by omega) (by omega)
theorem bx_3 : bx m x V S M z x 3 = z := wr_s _ _ _ _
theorem bx_w1 {i : Nat} {v : Int} : wr (bx m x V S M z) (x + 1) i v = bx m x (row V i v) S M z := by
  funext a b
  unfold bx wr row
  by_cases h1 : a = x
  · subst h1
    simp
  · by_cases h2 : a = x + 1
    · subst h2
      simp
    · simp [h1, h2]
theorem bx_w2 {i : Nat} {v : Int} : wr (bx m x V S M z) (x + 2) i v = bx m x V (row S i v) M z := by
  funext a b
  unfold bx wr row
  by_cases h1 : a = x
  · subst h1
    simp
  · by_cases h2 : a = x + 2
    · subst h2
      simp
    · simp [h1, h2]
theorem bx_w3 {i : Nat} {v : Int} : wr (wr (bx m x V S M z) (x + 3) i v) x 3 ((z + 1 : Nat) : Int) = bx m x V S (row M i v) (z + 1) := by
  funext a b
  unfold bx wr row
  by_cases h1 : a = x
  · subst h1
    by_cases h2 : b = 3
    · simp [h2]
    · simp [h2]
  · by_cases h2 : a = x + 3
    · subst h2
      simp
    · simp [h1, h2]
end B
section J
variable {T : Nat → Int} {n x : Nat}
def rB (z : Nat) (V S M Q : Nat → Int) : Prop := ∀ i, i < z → (V i = Q (3 * i) ∧ 0 ≤ V i ∧ V i ≤ 3) ∧ (S i = Q (3 * i + 1) ∧ 0 ≤ S i ∧ S i ≤ 6) ∧ (M i = Q (3 * i + 2) ∧ 0 ≤ M i ∧ M i ≤ 15)
theorem rB_row {z : Nat} {V S M Q : Nat → Int} {a b c a' b' c' : Int} (h : rB z V S M Q) (h1 : a = a' ∧ 0 ≤ a ∧ a ≤ 3) (h2 : b = b' ∧ 0 ≤ b ∧ b ≤ 6) (h3 : c = c' ∧ 0 ≤ c ∧ c ≤ 15) : rB (z + 1) (row V z a) (row S z b) (row M z c) (row (row (row Q (3 * z) a') (3 * z + 1) b') (3 * z + 2) c') := by
  intro i hi
  by_cases he : i = z
  · subst he
    refine ⟨?_, ?_, ?_⟩
    · rw [row_s, row_o _ _ _ (by omega), row_o _ _ _ (by omega), row_s]
      exact h1
    · rw [row_s, row_o _ _ _ (by omega), row_s]
      exact h2
    · rw [row_s, row_s]
      exact h3
  · have h9 := h i (by omega)
    refine ⟨?_, ?_, ?_⟩
    · rw [row_o _ _ _ he, row_o _ _ _ (by omega), row_o _ _ _ (by omega), row_o _ _ _ (by omega)]
      exact h9.1
    · rw [row_o _ _ _ he, row_o _ _ _ (by omega), row_o _ _ _ (by omega), row_o _ _ _ (by omega)]
      exact h9.2.1
    · rw [row_o _ _ _ he, row_o _ _ _ (by omega), row_o _ _ _ (by omega), row_o _ _ _ (by omega)]
      exact h9.2.2
def PBk (T : Nat → Int) (n x z : Nat) : Prop := ∀ (V S M Q : Nat → Int) (s xs : rd), gd n s → gx n xs → rel s xs → rB z V S M Q → 
  ∃ (s' x' : rd) (V' S' M' Q' : Nat → Int) (z' zx' : Nat), gd n s' ∧ gx n x' ∧ rel (aFi T n s') x' ∧ z' ≤ 7 ∧ (x'.2.1 = -1 → zx' = z' ∧ rB z' V' S' M' Q') ∧
    (∀ (d : Nat), 11 ≤ d → ∀ (m : Nat → Nat → Int) (q : Nat → Nat → Option Nat) (w : Option (Nat → Int64)) (u3 u4 : Option Value), onT m T n → gv d rR10 7 [some (.ref x), some (.ref 101), some (.int (iI z)), u3, u4] [] (mk (tr (bx m x V S M z) s) q w) = vV (mk (tr (bx m x V' S' M' z') s') q w)) ∧
    ∀ (dx : Nat), 11 ≤ dx → ∀ (m : Nat → Nat → Int) (q : Nat → Nat → Option Nat) (w : Option (Nat → Int64)) (u1 u3 u4 u5 u6 : Option Value), onX m T n → ∃ u3' u4' u5' u6', gv dx rR219 46 [some (.ref 363), u1, some (.int (iI z)), u3, u4, u5, u6] [] (mk (mr (row m 382 Q) xs) q w) = gv dx rR219 166 [some (.ref 363), u1, some (.int (iI zx')), u3', u4', u5', u6'] [] (mk (mr (row m 382 Q') x') q w)
theorem C_10f {d z : Nat} {s : rd} {u3 u4 : Option Value} {m : Nat → Nat → Int} {q : Nat → Nat → Option Nat} {w : Option (Nat → Int64)} (hx : iBook x) (hd : 2 ≤ d) (h : onT m T n) (hs : gd n s) (hz : z ≤ 8) (h0 : ¬ aOn T n 48 57 s) : gv d rR10 7 [some (.ref x), some (.ref 101), some (.int (iI z)), u3, u4] [] (mk (tr m s) q w) = vV (mk (tr m (aN T n s)) q w) := by
  rw [b_10_7 hx, if_pos (by rw [iI_lt (by omega) (by omega)]; omega), U_4 hd h hs]
  simp only [rBd_v, Option.toList_some, Option.toList_none, List.cons_append, List.nil_append, List.append_nil, b_10_17 hx, zb_0]
  rw [if_pos h0, b_10_114]
theorem X_219f {d z : Nat} {xs : rd} {u1 u3 u4 u5 u6 : Option Value} {m : Nat → Nat → Int} {q : Nat → Nat → Option Nat} {w : Option (Nat → Int64)} (hd : 2 ≤ d) (hs : gx n xs) (h0 : xs.2.1 ≠ -1) : gv d rR219 46 [some (.ref 363), u1, some (.int (iI z)), u3, u4, u5, u6] [] (mk (mr m xs) q w) = gv d rR219 166 [some (.ref 363), u1, some (.int (iI z)), u3, u4, u5, u6] [] (mk (mr m xs) q w) := by
  rw [b_219_46, V_167 (by omega) hs]
  simp only [rBd_v, Option.toList_some, Option.toList_none, List.cons_append, List.nil_append, List.append_nil, b_219_50, zb_0]
  rw [if_pos h0]
theorem X_219 {d z : Nat} {xs : rd} {u1 u3 u4 u5 u6 : Option Value} {m : Nat → Nat → Int} {q : Nat → Nat → Option Nat} {w : Option (Nat → Int64)} (hd : 4 ≤ d) (hn : n ≤ 600) (hT : onX m T n) (hs : gx n xs) (h0 : xs.2.1 = -1) (hz : z ≤ 7) : gv d rR219 46 [some (.ref 363), u1, some (.int (iI z)), u3, u4, u5, u6] [] (mk (mr m xs) q w) =
    if skip T n xs.1 < n then gv d rR219 92 [some (.ref 363), u1, some (.int (iI z)), some (.int (iI ((skip T n xs.1 : Nat) : Int))), some (.int (iI (xNum T n 0 3 (skip T n xs.1, xs.2)).1)), u5, u6] [] (mk (mr m (if z = 7 then xWr 3 (skip T n xs.1) (xNum T n 0 3 (skip T n xs.1, xs.2)).2 else (xNum T n 0 3 (skip T n xs.1, xs.2)).2)) q w)
    else gv d rR219 166 [some (.ref 363), u1, some (.int (iI z)), u3, u4, u5, u6] [] (mk (mr m (skip T n xs.1, xs.2)) q w) := by
  have hsk := skip_le T hs.1
  have hs2 : gx n (skip T n xs.1, xs.2) := ⟨hsk.2, hs.2⟩
  have hg := xNum_gx (T := T) (lo := 0) (hi := 3) hn hs2
  rw [b_219_46, V_167 (by omega) hs]
  simp only [rBd_v, Option.toList_some, Option.toList_none, List.cons_append, List.nil_append, List.append_nil, b_219_50, zb_0]
  rw [if_neg (not_not_intro h0), V_177 (by omega) hT hs]
  simp only [rBd_v, Option.toList_some, Option.toList_none, List.cons_append, List.nil_append, List.append_nil, b_219_57, zb_0]
  by_cases h : skip T n xs.1 < n
  · rw [if_pos h, if_neg (not_not_intro h), mr_4, V_175 (by omega) hT hs2 (by omega) (by omega)]
    simp only [rBd_v, Option.toList_some, Option.toList_none, List.cons_append, List.nil_append, List.append_nil, b_219_71]
    rw [V_167 (by omega) hg]
    simp only [rBd_v, Option.toList_some, Option.toList_none, List.cons_append, List.nil_append, List.append_nil, b_219_77, zb_0]
    by_cases h1 : (xNum T n 0 3 (skip T n xs.1, xs.2)).2.2.1 = -1
    · rw [if_neg (not_not_intro h1)]
      simp only [iI_eq (by omega : i32 (z : Int)) (by omega : i32 7)]
      by_cases h7 : z = 7
      · rw [if_pos (by omega), if_pos h7, V_168 (by omega) hg]
        simp only [rBd_v, Option.toList_some, Option.toList_none, List.cons_append, List.nil_append, List.append_nil]
      · rw [if_neg (by omega), if_neg h7]
    · rw [if_pos h1, f_xWr h1]
      simp only [ite_self]
  · rw [if_neg h, if_pos h]
theorem X_92 {d z : Nat} {x1 : rd} {u1 u3 u5 u6 : Option Value} {a : Int} {m : Nat → Nat → Int} {q : Nat → Nat → Option Nat} {w : Option (Nat → Int64)} (hd : 4 ≤ d) (hn : n ≤ 600) (hT : onX m T n) (hs : gx n x1) : gv d rR219 92 [some (.ref 363), u1, some (.int (iI z)), u3, some (.int (iI a)), u5, u6] [] (mk (mr m x1) q w) =
    if (xSg T n 59 (xNum T n 0 15 (xNum T n 0 6 x1).2).2).2.1 = -1 then gv d rR219 126 [some (.ref 363), u1, some (.int (iI z)), u3, some (.int (iI a)), some (.int (iI (xNum T n 0 6 x1).1)), some (.int (iI (xNum T n 0 15 (xNum T n 0 6 x1).2).1))] [] (mk (mr m (xSg T n 59 (xNum T n 0 15 (xNum T n 0 6 x1).2).2)) q w)
    else gv d rR219 166 [some (.ref 363), u1, some (.int (iI z)), u3, some (.int (iI a)), some (.int (iI (xNum T n 0 6 x1).1)), some (.int (iI (xNum T n 0 15 (xNum T n 0 6 x1).2).1))] [] (mk (mr m (xSg T n 59 (xNum T n 0 15 (xNum T n 0 6 x1).2).2)) q w) := by
  have g2 := xNum_gx (T := T) (lo := 0) (hi := 6) hn hs
  have g3 := xNum_gx (T := T) (lo := 0) (hi := 15) hn g2
  have g4 := xSg_gx (T := T) (by decide : (0 : Int) < 59) hn g3
  rw [b_219_92, V_175 (by omega) hT hs (by omega) (by omega)]
  simp only [rBd_v, Option.toList_some, Option.toList_none, List.cons_append, List.nil_append, List.append_nil, b_219_99]
  rw [V_175 (by omega) hT g2 (by omega) (by omega)]
  simp only [rBd_v, Option.toList_some, Option.toList_none, List.cons_append, List.nil_append, List.append_nil, b_219_108]
  rw [V_176 (by omega) hT g3 (by omega)]
  simp only [rBd_v, Option.toList_some, Option.toList_none, List.cons_append, List.nil_append, List.append_nil, b_219_116]
  rw [V_167 (by omega) g4]
  simp only [rBd_v, Option.toList_some, Option.toList_none, List.cons_append, List.nil_append, List.append_nil, b_219_120, zb_0]
  by_cases h : (xSg T n 59 (xNum T n 0 15 (xNum T n 0 6 x1).2).2).2.1 = -1
  · rw [if_pos h, if_neg (not_not_intro h)]
  · rw [if_neg h, if_pos h]
theorem C_10 {d z : Nat} {s : rd} {V S M : Nat → Int} {u3 u4 : Option Value} {m : Nat → Nat → Int} {q : Nat → Nat → Option Nat} {w : Option (Nat → Int64)} (hx : iBook x) (hd : 11 ≤ d) (h : onT m T n) (hs : gd n s) (hz : z ≤ 7) (h0 : aOn T n 48 57 s) (n1 n2 n3 : Int × rd) (e1 : n1 = aNum T n 0 3 (skip T n s.1, s.2)) (e2 : n2 = aNum T n 0 6 n1.2) (e3 : n3 = aNum T n 0 15 n2.2) : gv d rR10 7 [some (.ref x), some (.ref 101), some (.int (iI z)), u3, u4] [] (mk (tr (bx m x V S M z) s) q w) =
    if z < 7 then gv d rR10 7 [some (.ref x), some (.ref 101), some (.int (iI ((z + 1 : Nat) : Int))), some (.int (iI ((skip T n s.1 : Nat) : Int))), some (.int (iI n1.1))] [] (mk (tr (bx m x (row V z n1.1) (row S z n2.1) (row M z n3.1) (z + 1)) (aEx T n 59 n3.2)) q w)
    else vV (mk (tr (bx m x V S M z) (aBl 3 (skip T n s.1) n1.2)) q w) := by
  have hr := book_rng hx
  have hsk := skip_le T hs.1
  have hs2 : gd n (skip T n s.1, s.2) := ⟨hsk.2, hs.2⟩
  have hO : onT (bx m x V S M z) T n := bx_on hx h
  have eN : aN T n s = (skip T n s.1, s.2) := if_pos h0.1
  have g1 : gd n n1.2 := by rw [e1]; exact aNum_gd hs2
  have g2 : gd n n2.2 := by rw [e2]; exact aNum_gd g1
  have g3 : gd n n3.2 := by rw [e3]; exact aNum_gd g2
  rw [b_10_7 hx, if_pos (by rw [iI_lt (by omega) (by omega)]; omega), U_4 (by omega) hO hs, eN]
  simp only [rBd_v, Option.toList_some, Option.toList_none, List.cons_append, List.nil_append, List.append_nil, b_10_17 hx, zb_0]
  rw [if_neg (not_not_intro h0), U_2 (by omega) hO hs2]
  show rBd (vI ((skip T n (skip T n s.1) : Nat) : Int) (mk (tr (bx m x V S M z) (skip T n (skip T n s.1), s.2)) q w)) _ = _
  rw [skip_fix T hs.1]
  simp only [rBd_v, Option.toList_some, Option.toList_none, List.cons_append, List.nil_append, List.append_nil, b_10_24 hx]
  rw [U_7 (by omega) hO hs2 (by omega) (by omega), ← e1]
  simp only [rBd_v, Option.toList_some, Option.toList_none, List.cons_append, List.nil_append, List.append_nil, b_10_31 hx]
  rw [tr_o (by omega), bx_3]
  simp only [iI_lt (by omega : i32 (z : Int)) (by omega : i32 7)]
  by_cases h7 : z < 7
  · have t1 : tr (bx m x V S M z) n1.2 x 3 = z := by rw [tr_o (by omega), bx_3]
    rw [if_pos (by omega), if_pos h7, b_10_49 hx (by rw [t1]; omega) (by rw [t1]; omega), t1, Int.toNat_natCast, wr_o _ _ _ _ (show x ≠ x + 1 by omega), t1, tr_wo (by omega), bx_w1, U_7 (by omega) (bx_on hx h) g1 (by omega) (by omega), ← e2]
    simp only [rBd_v, Option.toList_some, Option.toList_none, List.cons_append, List.nil_append, List.append_nil]
    have t2 : tr (bx m x (row V z n1.1) S M z) n2.2 x 3 = z := by rw [tr_o (by omega), bx_3]
    rw [b_10_75 hx (by omega) (by omega), Int.toNat_natCast, wr_o _ _ _ _ (show x ≠ x + 2 by omega), t2, tr_wo (by omega), bx_w2, U_7 (by omega) (bx_on hx h) g2 (by omega) (by omega), ← e3]
    simp only [rBd_v, Option.toList_some, Option.toList_none, List.cons_append, List.nil_append, List.append_nil]
    have t3 : tr (bx m x (row V z n1.1) (row S z n2.1) M z) n3.2 x 3 = z := by rw [tr_o (by omega), bx_3]
    rw [b_10_91 hx (by omega) (by omega), Int.toNat_natCast, wr_o _ _ _ _ (show x ≠ x + 3 by omega), t3, tr_wo (by omega), tr_wo (by omega), show (z : Int) + 1 = ((z + 1 : Nat) : Int) from rfl, bx_w3, U_9 (by omega) (bx_on hx h) g3 (by omega)]
    simp only [rBd_v, Option.toList_some, Option.toList_none, List.cons_append, List.nil_append, List.append_nil, b_10_108 hx]
    rfl
  · rw [if_neg (by omega), if_neg h7, U_5 (by omega) g1]
    simp only [rBd_v, Option.toList_some, Option.toList_none, List.cons_append, List.nil_append, List.append_nil, b_10_48]
set_option maxHeartbeats 1000000 in
theorem J_bk_s (hT : isT T) (hn : n ≤ 600) (hx : iBook x) {z : Nat} (hz : z ≤ 7) (ih : z < 7 → PBk T n x (z + 1)) : PBk T n x z := by
  intro V S M Q s xs hs hxs hr hP
  by_cases h0 : s.2.1 = 0
  · have hx0 := (rel_fine hr).mp h0
    have hxp := rel_at hr h0
    have hsk := skip_le T hs.1
    have hs2 : gd n (skip T n s.1, s.2) := ⟨hsk.2, hs.2⟩
    have hx2 : gx n (skip T n s.1, xs.2) := ⟨hsk.2, hxs.2⟩
    have eN : aN T n s = (skip T n s.1, s.2) := if_pos h0
    by_cases hd : aOn T n 48 57 s
    · have hlt : skip T n s.1 < n := hd.2.1
      obtain ⟨n1, e1⟩ : ∃ n1, n1 = aNum T n 0 3 (skip T n s.1, s.2) := ⟨_, rfl⟩
      obtain ⟨n2, e2⟩ : ∃ n2, n2 = aNum T n 0 6 n1.2 := ⟨_, rfl⟩
      obtain ⟨n3, e3⟩ : ∃ n3, n3 = aNum T n 0 15 n2.2 := ⟨_, rfl⟩
      obtain ⟨y1, f1⟩ : ∃ n1, n1 = xNum T n 0 3 (skip T n s.1, xs.2) := ⟨_, rfl⟩
      have hC := fun (d : Nat) (m : Nat → Nat → Int) (q : Nat → Nat → Option Nat) (w : Option (Nat → Int64)) (u3 u4 : Option Value) (hd' : 11 ≤ d) (h : onT m T n) => C_10 (q := q) (w := w) (u3 := u3) (u4 := u4) (V := V) (S := S) (M := M) hx hd' h hs hz hd n1 n2 n3 e1 e2 e3
      obtain ⟨r1, b1⟩ := rel_num (lo := 0) (hi := 3) hT hs2 (by omega) (by omega) (rel_go hr h0 (a := skip T n s.1))
      rw [← e1, ← f1] at r1 b1
      have g1 : gd n n1.2 := by rw [e1]; exact aNum_gd hs2
      have x1 : gx n y1.2 := by rw [f1]; exact xNum_gx hn hx2
      by_cases h7 : z < 7
      · obtain ⟨y2, f2⟩ : ∃ n1, n1 = xNum T n 0 6 y1.2 := ⟨_, rfl⟩
        obtain ⟨y3, f3⟩ : ∃ n1, n1 = xNum T n 0 15 y2.2 := ⟨_, rfl⟩
        obtain ⟨r2, b2⟩ := rel_num (lo := 0) (hi := 6) hT g1 (by omega) (by omega) r1
        rw [← e2, ← f2] at r2 b2
        have g2 : gd n n2.2 := by rw [e2]; exact aNum_gd g1
        have x2 : gx n y2.2 := by rw [f2]; exact xNum_gx hn x1
        obtain ⟨r3, b3⟩ := rel_num (lo := 0) (hi := 15) hT g2 (by omega) (by omega) r2
        rw [← e3, ← f3] at r3 b3
        have g3 : gd n n3.2 := by rw [e3]; exact aNum_gd g2
        have x3 : gx n y3.2 := by rw [f3]; exact xNum_gx hn x2
        have r4 := rel_sg (T := T) (n := n) (by decide : (0 : Int) < 59) r3
        have g4 := aEx_gd (T := T) (c := 59) g3
        have x4 := xSg_gx (T := T) (by decide : (0 : Int) < 59) hn x3
        have hX := fun (d : Nat) (m : Nat → Nat → Int) (q : Nat → Nat → Option Nat) (w : Option (Nat → Int64)) (u1 u3 u5 u6 : Option Value) (a : Int) (hd' : 4 ≤ d) (h : onX m T n) => X_92 (z := z) (a := a) (q := q) (w := w) (u1 := u1) (u3 := u3) (u5 := u5) (u6 := u6) hd' hn h x1
        rw [← f2, ← f3] at hX
        by_cases q1 : (aEx T n 59 n3.2).2.1 = 0
        · have z1 := (rel_fine r4).mp q1
          have q3 : n3.2.2.1 = 0 := by
            by_cases q2 : n3.2.2.1 = 0
            · exact q2
            · rw [f_aEx q2] at q1
              exact absurd q1 q2
          have q2 : n2.2.2.1 = 0 := by
            by_cases q2 : n2.2.2.1 = 0
            · exact q2
            · rw [e3, f_aNum q2] at q3
              exact absurd q3 q2
          have q1' : n1.2.2.1 = 0 := by
            by_cases q0 : n1.2.2.1 = 0
            · exact q0
            · rw [e2, f_aNum q0] at q2
              exact absurd q2 q0
          obtain ⟨s', x', V', S', M', Q', z', zx', b1', b2', b3', b4, b5, b6, b7⟩ := ih h7 _ _ _ _ _ _ g4 x4 r4 (rB_row hP (b1 q1') (b2 q2) (b3 q3))
          refine ⟨s', x', V', S', M', Q', z', zx', b1', b2', b3', b4, b5, fun d hd' m q w u3 u4 h => ?_, fun dx hdx m q w u1 u3 u4 u5 u6 h => ?_⟩
          · rw [hC d m q w u3 u4 hd' h, if_pos h7]
            exact b6 d hd' m q w _ _ h
          · obtain ⟨u3', u4', u5', u6', b8⟩ := b7 dx hdx m q w u1 (some (.int (iI ((skip T n s.1 : Nat) : Int)))) (some (.int (iI y1.1))) (some (.int (iI y2.1))) (some (.int (iI y3.1))) h
            refine ⟨u3', u4', u5', u6', ?_⟩
            rw [X_219 (by omega) hn (onX_row h (by decide) (by decide)) hxs hx0 hz, hxp, if_pos hlt, if_neg (by omega), ← f1, hX dx _ q w u1 _ u5 u6 _ (by omega) (onX_row h (by decide) (by decide)), if_pos z1]
            rw [b_219_126 (by omega) (by omega) (by omega) (by omega) (by omega) (by omega), mr_wo (by decide), mr_wo (by decide), mr_wo (by decide), show (3 * (z : Int)).toNat = 3 * z by omega, show (3 * (z : Int) + 1).toNat = 3 * z + 1 by omega, show (3 * (z : Int) + 2).toNat = 3 * z + 2 by omega]
            unfold wr
            simp only [row_row, row_s]
            exact b8
        · have z1 := rel_nf r4 q1
          have eE : aN T n (aEx T n 59 n3.2) = aEx T n 59 n3.2 := f_aN q1
          refine ⟨_, _, row V z n1.1, row S z n2.1, row M z n3.1, Q, z + 1, z, g4, x4, rel_f r4 q1 (f_aFi q1) rfl, by omega, fun y => absurd y z1, fun d hd' m q w u3 u4 h => ?_, fun dx hdx m q w u1 u3 u4 u5 u6 h => ⟨some (.int (iI ((skip T n s.1 : Nat) : Int))), some (.int (iI y1.1)), some (.int (iI y2.1)), some (.int (iI y3.1)), ?_⟩⟩
          · rw [hC d m q w u3 u4 hd' h, if_pos h7, C_10f hx (by omega) (bx_on hx h) g4 (by omega) (fun y => q1 y.1), eE]
          · rw [X_219 (by omega) hn (onX_row h (by decide) (by decide)) hxs hx0 hz, hxp, if_pos hlt, if_neg (by omega), ← f1, hX dx _ q w u1 _ u5 u6 _ (by omega) (onX_row h (by decide) (by decide)), if_neg z1]
      · have r3 := rel_bad (by decide : (3 : Int) ≠ 0) r1 (z := skip T n s.1)
        have g3 := aBl_gd (z := skip T n s.1) g1 (by omega : i32 3)
        have q1 : (aBl 3 (skip T n s.1) n1.2).2.1 ≠ 0 := by
          unfold aBl
          split
          · show (3 : Int) ≠ 0
            decide
          next h => exact h
        have z1 := rel_nf r3 q1
        have x3 : gx n (xWr 3 (skip T n s.1) y1.2) := by
          unfold xWr
          split
          · exact ⟨x1.1, by show i32 ((skip T n s.1 : Nat) : Int); omega⟩
          · exact x1
        refine ⟨_, _, V, S, M, Q, z, z, g3, x3, rel_f r3 q1 (f_aFi q1) rfl, hz, fun y => absurd y z1, fun d hd' m q w u3 u4 h => ?_, fun dx hdx m q w u1 u3 u4 u5 u6 h => ⟨some (.int (iI ((skip T n s.1 : Nat) : Int))), some (.int (iI y1.1)), some (.int (iI 0)), some (.int (iI 0)), ?_⟩⟩
        · rw [hC d m q w u3 u4 hd' h, if_neg h7]
        · have e6 : xNum T n 0 6 (xWr 3 (skip T n s.1) y1.2) = (0, xWr 3 (skip T n s.1) y1.2) := f_xNum z1
          have e15 : xNum T n 0 15 (xWr 3 (skip T n s.1) y1.2) = (0, xWr 3 (skip T n s.1) y1.2) := f_xNum z1
          have e59 : xSg T n 59 (xWr 3 (skip T n s.1) y1.2) = xWr 3 (skip T n s.1) y1.2 := f_xSg z1
          rw [X_219 (by omega) hn (onX_row h (by decide) (by decide)) hxs hx0 hz, hxp, if_pos hlt, if_pos (by omega), ← f1, X_92 (by omega) hn (onX_row h (by decide) (by decide)) x3, e6, e15, e59, if_neg z1]
    · by_cases hlt : skip T n s.1 < n
      · have hnd : ¬ (48 ≤ hv T n (skip T n (skip T n s.1)) ∧ hv T n (skip T n (skip T n s.1)) ≤ 57) := by
          rw [skip_fix T hs.1]
          exact fun y => hd ⟨h0, (hv_on (by omega)).mpr y⟩
        have eX : (xNum T n 0 3 (skip T n s.1, xs.2)).2 = (skip T n s.1, ((skip T n s.1 : Nat) : Int), 1) := by
          unfold xNum
          rw [if_pos hx0, if_neg hnd]
          show ((skip T n (skip T n s.1), (((skip T n (skip T n s.1)) : Nat) : Int), 1) : rd) = _
          rw [skip_fix T hs.1]
        have eF : aFi T n (skip T n s.1, s.2) = (skip T n s.1, 1, ((skip T n s.1 : Nat) : Int)) := by
          unfold aFi aBl
          show (if skip T n (skip T n s.1) < n then _ else _) = _
          rw [skip_fix T hs.1, if_pos hlt, if_pos h0]
        have z1 : ((skip T n s.1 : Nat) : Int) ≠ -1 := by omega
        have x3 : gx n (skip T n s.1, ((skip T n s.1 : Nat) : Int), 1) := ⟨hsk.2, by show i32 ((skip T n s.1 : Nat) : Int); omega⟩
        refine ⟨(skip T n s.1, s.2), (skip T n s.1, ((skip T n s.1 : Nat) : Int), 1), V, S, M, Q, z, z, hs2, x3, ?_, hz, fun y => absurd y z1, fun d hd' m q w u3 u4 h => ?_, fun dx hdx m q w u1 u3 u4 u5 u6 h => ⟨some (.int (iI ((skip T n s.1 : Nat) : Int))), some (.int (iI (xNum T n 0 3 (skip T n s.1, xs.2)).1)), some (.int (iI 0)), some (.int (iI 0)), ?_⟩⟩
        · rw [eF]
          exact Or.inr ⟨by show (1 : Int) ≠ 0; decide, z1, rfl, rfl⟩
        · rw [C_10f hx (by omega) (bx_on hx h) hs (by omega) hd, eN]
        · have eW : (if z = 7 then xWr 3 (skip T n s.1) (xNum T n 0 3 (skip T n s.1, xs.2)).2 else (xNum T n 0 3 (skip T n s.1, xs.2)).2) = (skip T n s.1, ((skip T n s.1 : Nat) : Int), 1) := by
            rw [eX, f_xWr (s := (skip T n s.1, ((skip T n s.1 : Nat) : Int), 1)) z1, ite_self]
          have e6 : xNum T n 0 6 (skip T n s.1, ((skip T n s.1 : Nat) : Int), 1) = (0, (skip T n s.1, ((skip T n s.1 : Nat) : Int), 1)) := f_xNum (s := (skip T n s.1, ((skip T n s.1 : Nat) : Int), 1)) z1
          have e15 : xNum T n 0 15 (skip T n s.1, ((skip T n s.1 : Nat) : Int), 1) = (0, (skip T n s.1, ((skip T n s.1 : Nat) : Int), 1)) := f_xNum (s := (skip T n s.1, ((skip T n s.1 : Nat) : Int), 1)) z1
          have e59 : xSg T n 59 (skip T n s.1, ((skip T n s.1 : Nat) : Int), 1) = (skip T n s.1, ((skip T n s.1 : Nat) : Int), 1) := f_xSg (s := (skip T n s.1, ((skip T n s.1 : Nat) : Int), 1)) z1
          rw [X_219 (by omega) hn (onX_row h (by decide) (by decide)) hxs hx0 hz, hxp, if_pos hlt, eW, X_92 (by omega) hn (onX_row h (by decide) (by decide)) x3, e6, e15, e59, if_neg z1]
      · have eF : aFi T n (skip T n s.1, s.2) = (skip T n s.1, s.2) := by
          unfold aFi
          show (if skip T n (skip T n s.1) < n then _ else _) = _
          rw [skip_fix T hs.1, if_neg hlt]
        refine ⟨(skip T n s.1, s.2), (skip T n s.1, xs.2), V, S, M, Q, z, z, hs2, hx2, ?_, hz, fun _ => ⟨rfl, hP⟩, fun d hd' m q w u3 u4 h => ?_, fun dx hdx m q w u1 u3 u4 u5 u6 h => ⟨u3, u4, u5, u6, ?_⟩⟩
        · rw [eF]
          exact rel_go hr h0
        · rw [C_10f hx (by omega) (bx_on hx h) hs (by omega) hd, eN]
        · rw [X_219 (by omega) hn (onX_row h (by decide) (by decide)) hxs hx0 hz, hxp, if_neg hlt]
  · have hd : ¬ aOn T n 48 57 s := fun y => h0 y.1
    have y0 := rel_nf hr h0
    refine ⟨s, xs, V, S, M, Q, z, z, hs, hxs, rel_f hr h0 (f_aFi h0) rfl, hz, fun y => absurd y y0, fun d hd' m q w u3 u4 h => ?_, fun dx hdx m q w u1 u3 u4 u5 u6 h => ⟨u3, u4, u5, u6, X_219f (by omega) hxs y0⟩⟩
    rw [C_10f hx (by omega) (bx_on hx h) hs (by omega) hd, f_aN h0]
theorem J_bk (hT : isT T) (hn : n ≤ 600) (hx : iBook x) : PBk T n x 0 := by
  have h : ∀ g z, z + g = 7 → PBk T n x z := by
    intro g
    induction g with
    | zero => exact fun z hz => J_bk_s hT hn hx (by omega) (fun y => by omega)
    | succ g ih => exact fun z hz => J_bk_s hT hn hx (by omega) (fun _ => ih (z + 1) (by omega))
  exact h 7 0 rfl
end J
