/-! ===== a picture is read by both ===== -/
def px (m : Nat → Nat → Int) (x : Nat) (P : Nat → Int) (z : Nat) : Nat → Nat → Int := wr (row m (x + 1) P) x 1 z
theorem pic_rng {x : Nat} (h : iPic x) : 190 ≤ x ∧ x ≤ 361 := (by decide +kernel : ∀ x ∈ picIds, 190 ≤ x ∧ x ≤ 361) x h
theorem px_on {m : Nat → Nat → Int} {x z : Nat} {P : Nat → Int} {T : Nat → Int} {n : Nat} (hx : iPic x) (h : onT m T n) : onT (px m x P z) T n := by
  have hr := pic_rng hx
  exact onT_wr (onT_row h (by omega) (by omega)) (by omega) (by omega)
theorem px_1 {m : Nat → Nat → Int} {x z : Nat} {P : Nat → Int} : px m x P z x 1 = z := wr_s _ _ _ _
theorem px_w {m : Nat → Nat → Int} {x z i : Nat} {v : Int} {P : Nat → Int} : wr (wr (px m x P z) (x + 1) i v) x 1 ((z + 1 : Nat) : Int) = px m x (row P i v) (z + 1) := by
  funext a b
  unfold px wr row
  by_cases h1 : a = x
  · subst h1
    by_cases h2 : b = 1
    · simp [h2]
    · simp [h2]
  · by_cases h2 : a = x + 1
    · subst h2
      simp
    · simp [h1, h2]
section J
variable {T : Nat → Int} {n x : Nat}
def rP (z : Nat) (P Q : Nat → Int) : Prop := ∀ i, i < z → P i = Q i ∧ 0 ≤ P i ∧ P i ≤ 16
theorem rP_row {z : Nat} {P Q : Nat → Int} {a b : Int} (h : rP z P Q) (h1 : a = b) (h2 : 0 ≤ a ∧ a ≤ 16) : rP (z + 1) (row P z a) (row Q z b) := by
  intro i hi
  by_cases he : i = z
  · rw [he, row_s, row_s]
    exact ⟨h1, h2⟩
  · rw [row_o _ _ _ he, row_o _ _ _ he]
    exact h i (by omega)
def PPic (T : Nat → Int) (n x z : Nat) : Prop := ∀ (P Q : Nat → Int) (s xs : rd), gd n s → gx n xs → rel s xs → rP z P Q → 
  ∃ (s' x' : rd) (P' Q' : Nat → Int) (z' zx' : Nat), gd n s' ∧ gx n x' ∧ rel (aFi T n s') x' ∧ z' ≤ 7 ∧ (x'.2.1 = -1 → zx' = z' ∧ rP z' P' Q') ∧
    (∀ (d : Nat), 11 ≤ d → ∀ (m : Nat → Nat → Int) (q : Nat → Nat → Option Nat) (w : Option (Nat → Int64)) (u3 u4 : Option Value), onT m T n → gv d rR74 7 [some (.ref x), some (.ref 101), some (.int (iI z)), u3, u4] [] (mk (tr (px m x P z) s) q w) = vV (mk (tr (px m x P' z') s') q w)) ∧
    ∀ (dx : Nat), 11 ≤ dx → ∀ (m : Nat → Nat → Int) (q : Nat → Nat → Option Nat) (w : Option (Nat → Int64)) (u1 u4 u5 : Option Value) (v : Int), onX m T n → ∃ u4' u5', gv dx rR218 55 [some (.ref 363), u1, some (.int (iI v)), some (.int (iI z)), u4, u5] [] (mk (mr (row m 379 Q) xs) q w) = gv dx rR218 134 [some (.ref 363), u1, some (.int (iI v)), some (.int (iI zx')), u4', u5'] [] (mk (mr (row m 379 Q') x') q w)
theorem C_74f {d z : Nat} {s : rd} {u3 u4 : Option Value} {m : Nat → Nat → Int} {q : Nat → Nat → Option Nat} {w : Option (Nat → Int64)} (hx : iPic x) (hd : 2 ≤ d) (h : onT m T n) (hs : gd n s) (hz : z ≤ 8) (h0 : ¬ aOn T n 48 57 s) : gv d rR74 7 [some (.ref x), some (.ref 101), some (.int (iI z)), u3, u4] [] (mk (tr m s) q w) = vV (mk (tr m (aN T n s)) q w) := by
  rw [b_74_7 hx, if_pos (by rw [iI_lt (by omega) (by omega)]; omega), U_4 hd h hs]
  simp only [rBd_v, Option.toList_some, Option.toList_none, List.cons_append, List.nil_append, List.append_nil, b_74_17 hx, zb_0]
  rw [if_pos h0, b_74_86]
theorem X_218f {d z : Nat} {xs : rd} {u1 u4 u5 : Option Value} {v : Int} {m : Nat → Nat → Int} {q : Nat → Nat → Option Nat} {w : Option (Nat → Int64)} (hd : 2 ≤ d) (hs : gx n xs) (h0 : xs.2.1 ≠ -1) : gv d rR218 55 [some (.ref 363), u1, some (.int (iI v)), some (.int (iI z)), u4, u5] [] (mk (mr m xs) q w) = gv d rR218 134 [some (.ref 363), u1, some (.int (iI v)), some (.int (iI z)), u4, u5] [] (mk (mr m xs) q w) := by
  rw [b_218_55, V_167 (by omega) hs]
  simp only [rBd_v, Option.toList_some, Option.toList_none, List.cons_append, List.nil_append, List.append_nil, b_218_59, zb_0]
  rw [if_pos h0]
theorem X_218 {d z : Nat} {xs : rd} {u1 u4 u5 : Option Value} {v : Int} {m : Nat → Nat → Int} {q : Nat → Nat → Option Nat} {w : Option (Nat → Int64)} (hd : 4 ≤ d) (hn : n ≤ 600) (hT : onX m T n) (hs : gx n xs) (h0 : xs.2.1 = -1) (hz : z ≤ 7) : gv d rR218 55 [some (.ref 363), u1, some (.int (iI v)), some (.int (iI z)), u4, u5] [] (mk (mr m xs) q w) =
    if skip T n xs.1 < n then gv d rR218 104 [some (.ref 363), u1, some (.int (iI v)), some (.int (iI z)), some (.int (iI ((skip T n xs.1 : Nat) : Int))), some (.int (iI (xNum T n 0 16 (skip T n xs.1, xs.2)).1))] [] (mk (mr m (if z = 7 then xWr 3 (skip T n xs.1) (xNum T n 0 16 (skip T n xs.1, xs.2)).2 else (xNum T n 0 16 (skip T n xs.1, xs.2)).2)) q w)
    else gv d rR218 134 [some (.ref 363), u1, some (.int (iI v)), some (.int (iI z)), u4, u5] [] (mk (mr m (skip T n xs.1, xs.2)) q w) := by
  have hsk := skip_le T hs.1
  have hs2 : gx n (skip T n xs.1, xs.2) := ⟨hsk.2, hs.2⟩
  have hg := xNum_gx (T := T) (lo := 0) (hi := 16) hn hs2
  rw [b_218_55, V_167 (by omega) hs]
  simp only [rBd_v, Option.toList_some, Option.toList_none, List.cons_append, List.nil_append, List.append_nil, b_218_59, zb_0]
  rw [if_neg (not_not_intro h0), V_177 (by omega) hT hs]
  simp only [rBd_v, Option.toList_some, Option.toList_none, List.cons_append, List.nil_append, List.append_nil, b_218_66, zb_0]
  by_cases h : skip T n xs.1 < n
  · rw [if_pos h, if_neg (not_not_intro h), mr_4, V_175 (by omega) hT hs2 (by omega) (by omega)]
    simp only [rBd_v, Option.toList_some, Option.toList_none, List.cons_append, List.nil_append, List.append_nil, b_218_82]
    rw [V_167 (by omega) hg]
    simp only [rBd_v, Option.toList_some, Option.toList_none, List.cons_append, List.nil_append, List.append_nil, b_218_88, zb_0]
    by_cases h1 : (xNum T n 0 16 (skip T n xs.1, xs.2)).2.2.1 = -1
    · rw [if_neg (not_not_intro h1)]
      simp only [iI_eq (by omega : i32 (z : Int)) (by omega : i32 7)]
      by_cases h7 : z = 7
      · rw [if_pos (by omega), if_pos h7, V_168 (by omega) hg]
        simp only [rBd_v, Option.toList_some, Option.toList_none, List.cons_append, List.nil_append, List.append_nil]
      · rw [if_neg (by omega), if_neg h7]
    · rw [if_pos h1, f_xWr h1]
      simp only [ite_self]
  · rw [if_neg h, if_pos h]
theorem C_74 {d z : Nat} {s : rd} {P : Nat → Int} {u3 u4 : Option Value} {m : Nat → Nat → Int} {q : Nat → Nat → Option Nat} {w : Option (Nat → Int64)} (hx : iPic x) (hd : 11 ≤ d) (h : onT m T n) (hs : gd n s) (hz : z ≤ 7) (h0 : aOn T n 48 57 s) : gv d rR74 7 [some (.ref x), some (.ref 101), some (.int (iI z)), u3, u4] [] (mk (tr (px m x P z) s) q w) =
    if z < 7 then gv d rR74 7 [some (.ref x), some (.ref 101), some (.int (iI ((z + 1 : Nat) : Int))), some (.int (iI ((skip T n s.1 : Nat) : Int))), some (.int (iI (aNum T n 0 16 (skip T n s.1, s.2)).1))] [] (mk (tr (px m x (row P z (aNum T n 0 16 (skip T n s.1, s.2)).1) (z + 1)) (aEx T n 59 (aNum T n 0 16 (skip T n s.1, s.2)).2)) q w)
    else vV (mk (tr (px m x P z) (aBl 3 (skip T n s.1) (aNum T n 0 16 (skip T n s.1, s.2)).2)) q w) := by
  have hr := pic_rng hx
  have hsk := skip_le T hs.1
  have hs2 : gd n (skip T n s.1, s.2) := ⟨hsk.2, hs.2⟩
  have hO : onT (px m x P z) T n := px_on hx h
  have eN : aN T n s = (skip T n s.1, s.2) := if_pos h0.1
  have hg := aNum_gd (T := T) (lo := 0) (hi := 16) hs2
  rw [b_74_7 hx, if_pos (by rw [iI_lt (by omega) (by omega)]; omega), U_4 (by omega) hO hs, eN]
  simp only [rBd_v, Option.toList_some, Option.toList_none, List.cons_append, List.nil_append, List.append_nil, b_74_17 hx, zb_0]
  rw [if_neg (not_not_intro h0), U_2 (by omega) hO hs2]
  show rBd (vI ((skip T n (skip T n s.1) : Nat) : Int) (mk (tr (px m x P z) (skip T n (skip T n s.1), s.2)) q w)) _ = _
  rw [skip_fix T hs.1]
  simp only [rBd_v, Option.toList_some, Option.toList_none, List.cons_append, List.nil_append, List.append_nil, b_74_24 hx]
  rw [U_7 (by omega) hO hs2 (by omega) (by omega)]
  simp only [rBd_v, Option.toList_some, Option.toList_none, List.cons_append, List.nil_append, List.append_nil, b_74_32 hx]
  rw [tr_o (by omega), px_1]
  simp only [iI_lt (by omega : i32 (z : Int)) (by omega : i32 ((7 : Nat) : Int))]
  by_cases h7 : z < 7
  · have e1 : tr (px m x P z) (aNum T n 0 16 (skip T n s.1, s.2)).2 x 1 = z := by rw [tr_o (by omega), px_1]
    rw [if_pos (by omega), if_pos h7, b_74_53 hx (by rw [e1]; omega) (by rw [e1]; omega), e1, Int.toNat_natCast, wr_o _ _ _ _ (show x ≠ x + 1 by omega), e1, tr_wo (by omega), tr_wo (by omega), show (z : Int) + 1 = ((z + 1 : Nat) : Int) from rfl, px_w, U_9 (by omega) (px_on hx h) hg (by omega)]
    simp only [rBd_v, Option.toList_some, Option.toList_none, List.cons_append, List.nil_append, List.append_nil, b_74_80 hx]
    rfl
  · rw [if_neg (by omega), if_neg h7, U_5 (by omega) hg]
    simp only [rBd_v, Option.toList_some, Option.toList_none, List.cons_append, List.nil_append, List.append_nil, b_74_52]
theorem J_pic_s (hT : isT T) (hn : n ≤ 600) (hx : iPic x) {z : Nat} (hz : z ≤ 7) (ih : z < 7 → PPic T n x (z + 1)) : PPic T n x z := by
  intro P Q s xs hs hxs hr hP
  by_cases h0 : s.2.1 = 0
  · have hx0 := (rel_fine hr).mp h0
    have hxp := rel_at hr h0
    have hsk := skip_le T hs.1
    have hs2 : gd n (skip T n s.1, s.2) := ⟨hsk.2, hs.2⟩
    have hx2 : gx n (skip T n s.1, xs.2) := ⟨hsk.2, hxs.2⟩
    have eN : aN T n s = (skip T n s.1, s.2) := if_pos h0
    by_cases hd : aOn T n 48 57 s
    · have hlt : skip T n s.1 < n := hd.2.1
      obtain ⟨r1, r2⟩ := rel_num (lo := 0) (hi := 16) hT hs2 (by omega) (by omega) (rel_go hr h0 (a := skip T n s.1))
      have g1 := aNum_gd (T := T) (lo := 0) (hi := 16) hs2
      have x1 := xNum_gx (T := T) (lo := 0) (hi := 16) hn hx2
      by_cases h7 : z < 7
      · have r3 := rel_sg (T := T) (n := n) (by decide : (0 : Int) < 59) r1
        have g3 := aEx_gd (T := T) (c := 59) g1
        have x3 := xSg_gx (T := T) (by decide : (0 : Int) < 59) hn x1
        by_cases q1 : (aEx T n 59 (aNum T n 0 16 (skip T n s.1, s.2)).2).2.1 = 0
        · have y1 := (rel_fine r3).mp q1
          have q2 : (aNum T n 0 16 (skip T n s.1, s.2)).2.2.1 = 0 := by
            by_cases q2 : (aNum T n 0 16 (skip T n s.1, s.2)).2.2.1 = 0
            · exact q2
            · rw [f_aEx q2] at q1
              exact absurd q1 q2
          obtain ⟨v1, v2, v3⟩ := r2 q2
          obtain ⟨s', x', P', Q', z', zx', b1, b2, b3, b4, b5, b6, b7⟩ := ih h7 _ _ _ _ g3 x3 r3 (rP_row hP v1 ⟨v2, v3⟩)
          refine ⟨s', x', P', Q', z', zx', b1, b2, b3, b4, b5, fun d hd' m q w u3 u4 h => ?_, fun dx hdx m q w u1 u4 u5 v h => ?_⟩
          · rw [C_74 hx hd' h hs hz hd, if_pos h7]
            exact b6 d hd' m q w _ _ h
          · obtain ⟨u4', u5', b8⟩ := b7 dx hdx m q w u1 (some (.int (iI ((skip T n xs.1 : Nat) : Int)))) (some (.int (iI (xNum T n 0 16 (skip T n xs.1, xs.2)).1))) v h
            refine ⟨u4', u5', ?_⟩
            rw [X_218 (by omega) hn (onX_row h (by decide) (by decide)) hxs hx0 hz, hxp, if_pos hlt, if_neg (by omega), b_218_104, V_176 (by omega) (onX_row h (by decide) (by decide)) x1 (by omega)]
            simp only [rBd_v, Option.toList_some, Option.toList_none, List.cons_append, List.nil_append, List.append_nil, b_218_110]
            rw [V_167 (by omega) x3]
            simp only [rBd_v, Option.toList_some, Option.toList_none, List.cons_append, List.nil_append, List.append_nil, b_218_114, zb_0]
            rw [if_neg (not_not_intro y1), b_218_120 (by omega) (by omega), mr_wo (by decide), Int.toNat_natCast]
            rw [hxp] at b8
            unfold wr
            rw [row_row, row_s]
            exact b8
        · have y1 := rel_nf r3 q1
          have eE : aN T n (aEx T n 59 (aNum T n 0 16 (skip T n s.1, s.2)).2) = aEx T n 59 (aNum T n 0 16 (skip T n s.1, s.2)).2 := f_aN q1
          refine ⟨_, _, row P z (aNum T n 0 16 (skip T n s.1, s.2)).1, Q, z + 1, z, g3, x3, rel_f r3 q1 (f_aFi q1) rfl, by omega, fun y => absurd y y1, fun d hd' m q w u3 u4 h => ?_, fun dx hdx m q w u1 u4 u5 v h => ⟨some (.int (iI ((skip T n xs.1 : Nat) : Int))), some (.int (iI (xNum T n 0 16 (skip T n xs.1, xs.2)).1)), ?_⟩⟩
          · rw [C_74 hx hd' h hs hz hd, if_pos h7, C_74f hx (by omega) (px_on hx h) g3 (by omega) (fun y => q1 y.1), eE]
          · rw [X_218 (by omega) hn (onX_row h (by decide) (by decide)) hxs hx0 hz, hxp, if_pos hlt, if_neg (by omega), b_218_104, V_176 (by omega) (onX_row h (by decide) (by decide)) x1 (by omega)]
            simp only [rBd_v, Option.toList_some, Option.toList_none, List.cons_append, List.nil_append, List.append_nil, b_218_110]
            rw [V_167 (by omega) x3]
            simp only [rBd_v, Option.toList_some, Option.toList_none, List.cons_append, List.nil_append, List.append_nil, b_218_114, zb_0]
            rw [if_pos y1]
      · have r3 := rel_bad (by decide : (3 : Int) ≠ 0) r1 (z := skip T n s.1)
        have g3 := aBl_gd (z := skip T n s.1) g1 (by omega : i32 3)
        have q1 : (aBl 3 (skip T n s.1) (aNum T n 0 16 (skip T n s.1, s.2)).2).2.1 ≠ 0 := by
          unfold aBl
          split
          · show (3 : Int) ≠ 0
            decide
          next h => exact h
        have y1 := rel_nf r3 q1
        have x3 : gx n (xWr 3 (skip T n s.1) (xNum T n 0 16 (skip T n s.1, xs.2)).2) := by
          unfold xWr
          split
          · exact ⟨x1.1, by show i32 ((skip T n s.1 : Nat) : Int); omega⟩
          · exact x1
        refine ⟨_, _, P, Q, z, z, g3, x3, rel_f r3 q1 (f_aFi q1) rfl, hz, fun y => absurd y y1, fun d hd' m q w u3 u4 h => ?_, fun dx hdx m q w u1 u4 u5 v h => ⟨some (.int (iI ((skip T n xs.1 : Nat) : Int))), some (.int (iI (xNum T n 0 16 (skip T n xs.1, xs.2)).1)), ?_⟩⟩
        · rw [C_74 hx hd' h hs hz hd, if_neg h7]
        · rw [X_218 (by omega) hn (onX_row h (by decide) (by decide)) hxs hx0 hz, hxp, if_pos hlt, if_pos (by omega), b_218_104, V_176 (by omega) (onX_row h (by decide) (by decide)) x3 (by omega), f_xSg y1]
          simp only [rBd_v, Option.toList_some, Option.toList_none, List.cons_append, List.nil_append, List.append_nil, b_218_110]
          rw [V_167 (by omega) x3]
          simp only [rBd_v, Option.toList_some, Option.toList_none, List.cons_append, List.nil_append, List.append_nil, b_218_114, zb_0]
          rw [if_pos y1]
    · by_cases hlt : skip T n s.1 < n
      · have hnd : ¬ (48 ≤ hv T n (skip T n (skip T n s.1)) ∧ hv T n (skip T n (skip T n s.1)) ≤ 57) := by
          rw [skip_fix T hs.1]
          exact fun y => hd ⟨h0, (hv_on (by omega)).mpr y⟩
        have eX : (xNum T n 0 16 (skip T n s.1, xs.2)).2 = (skip T n s.1, ((skip T n s.1 : Nat) : Int), 1) := by
          unfold xNum
          rw [if_pos hx0, if_neg hnd]
          show ((skip T n (skip T n s.1), (((skip T n (skip T n s.1)) : Nat) : Int), 1) : rd) = _
          rw [skip_fix T hs.1]
        have eF : aFi T n (skip T n s.1, s.2) = (skip T n s.1, 1, ((skip T n s.1 : Nat) : Int)) := by
          unfold aFi aBl
          show (if skip T n (skip T n s.1) < n then _ else _) = _
          rw [skip_fix T hs.1, if_pos hlt, if_pos h0]
        have y1 : ((skip T n s.1 : Nat) : Int) ≠ -1 := by omega
        have x3 : gx n (skip T n s.1, ((skip T n s.1 : Nat) : Int), 1) := ⟨hsk.2, by show i32 ((skip T n s.1 : Nat) : Int); omega⟩
        refine ⟨(skip T n s.1, s.2), (skip T n s.1, ((skip T n s.1 : Nat) : Int), 1), P, Q, z, z, hs2, x3, ?_, hz, fun y => absurd y y1, fun d hd' m q w u3 u4 h => ?_, fun dx hdx m q w u1 u4 u5 v h => ⟨some (.int (iI ((skip T n xs.1 : Nat) : Int))), some (.int (iI (xNum T n 0 16 (skip T n xs.1, xs.2)).1)), ?_⟩⟩
        · rw [eF]
          exact Or.inr ⟨by show (1 : Int) ≠ 0; decide, y1, rfl, rfl⟩
        · rw [C_74f hx (by omega) (px_on hx h) hs (by omega) hd, eN]
        · have eW : (if z = 7 then xWr 3 (skip T n s.1) (xNum T n 0 16 (skip T n s.1, xs.2)).2 else (xNum T n 0 16 (skip T n s.1, xs.2)).2) = (skip T n s.1, ((skip T n s.1 : Nat) : Int), 1) := by
            rw [eX, f_xWr (s := (skip T n s.1, ((skip T n s.1 : Nat) : Int), 1)) y1, ite_self]
          rw [X_218 (by omega) hn (onX_row h (by decide) (by decide)) hxs hx0 hz, hxp, if_pos hlt, eW, b_218_104, V_176 (by omega) (onX_row h (by decide) (by decide)) x3 (by omega), f_xSg y1]
          simp only [rBd_v, Option.toList_some, Option.toList_none, List.cons_append, List.nil_append, List.append_nil, b_218_110]
          rw [V_167 (by omega) x3]
          simp only [rBd_v, Option.toList_some, Option.toList_none, List.cons_append, List.nil_append, List.append_nil, b_218_114, zb_0]
          rw [if_pos y1]
      · have eF : aFi T n (skip T n s.1, s.2) = (skip T n s.1, s.2) := by
          unfold aFi
          show (if skip T n (skip T n s.1) < n then _ else _) = _
          rw [skip_fix T hs.1, if_neg hlt]
        refine ⟨(skip T n s.1, s.2), (skip T n s.1, xs.2), P, Q, z, z, hs2, hx2, ?_, hz, fun _ => ⟨rfl, hP⟩, fun d hd' m q w u3 u4 h => ?_, fun dx hdx m q w u1 u4 u5 v h => ⟨u4, u5, ?_⟩⟩
        · rw [eF]
          exact rel_go hr h0
        · rw [C_74f hx (by omega) (px_on hx h) hs (by omega) hd, eN]
        · rw [X_218 (by omega) hn (onX_row h (by decide) (by decide)) hxs hx0 hz, hxp, if_neg hlt]
  · have hd : ¬ aOn T n 48 57 s := fun y => h0 y.1
    have y0 := rel_nf hr h0
    refine ⟨s, xs, P, Q, z, z, hs, hxs, rel_f hr h0 (f_aFi h0) rfl, hz, fun y => absurd y y0, fun d hd' m q w u3 u4 h => ?_, fun dx hdx m q w u1 u4 u5 v h => ⟨u4, u5, X_218f (by omega) hxs y0⟩⟩
    rw [C_74f hx (by omega) (px_on hx h) hs (by omega) hd, f_aN h0]
theorem J_pic (hT : isT T) (hn : n ≤ 600) (hx : iPic x) : PPic T n x 0 := by
  have h : ∀ g z, z + g = 7 → PPic T n x z := by
    intro g
    induction g with
    | zero => exact fun z hz => J_pic_s hT hn hx (by omega) (fun y => by omega)
    | succ g ih => exact fun z hz => J_pic_s hT hn hx (by omega) (fun _ => ih (z + 1) (by omega))
  exact h 7 0 rfl
end J
