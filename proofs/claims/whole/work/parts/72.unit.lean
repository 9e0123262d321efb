/-! ===== a law is read by both: units ===== -/
section J
variable {T : Nat → Int} {n g : Nat}
theorem J_word (hn : n ≤ 150) (hS : ∀ g', g' < g → PJ T n 70 188 38 g') {d dx x op z : Nat} {C E F : Nat → Int} {s xs s0 x0 : rd} (hx : iLaw x) (hop : op ≤ 6) (hd : 36 ≤ d + 4 * op) (hdx : 36 ≤ dx + 4 * op) (hs0 : gd n s0) (hx00 : gx n x0) (r0 : rel s0 x0) (h00 : s0.2.1 = 0) (y00 : x0.2.1 = -1) (hxp0 : x0.1 = s0.1) (hk0 : skip T n s0.1 = s0.1) (hg0 : n - s0.1 ≤ g) (hz0 : z ≤ s0.1) (hss : s.1 ≤ s0.1) (hl : ∀ i, i < z → lk (C i) (E i) (F i))
  (cP3 : ∀ (m : Nat → Nat → Int) (q : Nat → Nat → Option Nat) (w : Option (Nat → Int64)), onT m T n → ev d 71 [.ref x, .ref 101, .int (iI op)] (mk (tr (lw m x C z) s) q w) = gv (d - 1) rR71 52 [some (.ref x), some (.ref 101), some (.int (iI op)), some (.int (iI s0.1))] [.int (iI (zb (aWd T n W12 s0)))] (mk (tr (lw m x C z) (aTw T n W12 s0)) q w))
  (xP3 : ∀ (m : Nat → Nat → Int) (q : Nat → Nat → Option Nat) (w : Option (Nat → Int64)), onX m T n → ev dx 190 [.ref 363] (mk (mr (lx m E F z op) xs) q w) = if wVal T n s0.1 = ofL 0 W12 then rBd (ev (dx - 1) 189 [.ref 363, .int (iI 5), .int (iI 6)] (mk (mr (lx m E F z op) x0) q w)) (fun v M' => gv (dx - 1) rR190 91 [some (.ref 363), none] (v.toList ++ []) M')
          else if wVal T n s0.1 = ofL 0 W13 then rBd (ev (dx - 1) 189 [.ref 363, .int (iI 4), .int (iI 7)] (mk (mr (lx m E F z op) x0) q w)) (fun v M' => gv (dx - 1) rR190 114 [some (.ref 363), none] (v.toList ++ []) M')
          else gv (dx - 1) rR190 121 [some (.ref 363), none] [.int (iI (match lkW (wVal T n s0.1) fcL with | some k => (k : Int) | none => -1))] (mk (mr (lx m E F z op) x0) q w)) :
  ∃ (s' xs' : rd) (C' E' F' : Nat → Int) (z' k' : Nat),
    (∀ (m : Nat → Nat → Int) (q : Nat → Nat → Option Nat) (w : Option (Nat → Int64)), onT m T n → ev d 71 [.ref x, .ref 101, .int (iI op)] (mk (tr (lw m x C z) s) q w) = vV (mk (tr (lw m x C' z') s') q w)) ∧
    (∀ (m : Nat → Nat → Int) (q : Nat → Nat → Option Nat) (w : Option (Nat → Int64)), onX m T n → ev dx 190 [.ref 363] (mk (mr (lx m E F z op) xs) q w) = vV (mk (mr (lx m E' F' k' op) xs') q w)) ∧
    resJ n z z s C s' xs' C' E' F' z' k' ∧ (s'.2.1 = 0 → s.1 < s'.1) := by
  have d1 : 1 ≤ d - 1 := by omega
  have d10 : 10 ≤ d - 1 := by omega
  have d11 : 11 ≤ d - 1 := by omega
  have x1 : 1 ≤ dx - 1 := by omega
  have x2 : 2 ≤ dx - 1 := by omega
  have hd35 : 35 ≤ d - 1 + 4 * op := by omega
  have hx35 : 35 ≤ dx - 1 + 4 * op := by omega
  have hn0 := hs0.1
  have hzl : z ≤ 150 := by omega
  have hn600 : n ≤ 600 := by omega
  have i12 := rel_word (T := T) hs0 W12_l r0 h00
  rw [hxp0, hk0] at i12
  have wl : ∀ l : List Nat, aWd T n l s0 → aTw T n l s0 = (s0.1 + l.length, s0.2) := by
    intro l hw
    unfold aTw
    rw [if_pos hw, hk0]
  have wn : ∀ l : List Nat, ¬ aWd T n l s0 → aTw T n l s0 = s0 := by
    intro l hw
    unfold aTw
    rw [if_neg hw, aN_fix h00 hk0]
  by_cases w1 : aWd T n W12 s0
  · have hb5 : s0.1 + 5 ≤ n := by
      have h9 := (w1.2.1 4 (by decide)).1
      rw [hk0] at h9
      exact h9
    obtain ⟨s', x', C', E', F', z', k', c1, c2, c3, c4⟩ := J_pair hn hS (d := d - 1) (dx := dx - 1) (b := 5) (c := 6) (C := C) (E := E) (F := F) hx hop hd35 hx35 hs0 hx00 r0 h00 hg0 hz0 hl (by decide) hb5 (by decide)
    refine ⟨s', x', C', E', F', z', k', ?_, ?_, ⟨c3.1, c3.2.1, c3.2.2.1, c3.2.2.2.1, fun q' => ?_⟩, fun q' => Nat.lt_of_le_of_lt hss (c4 q')⟩
    · intro m q w h
      rw [cP3 m q w h, b_71_52 hx, wl W12 w1]
      simp only [zb_0]
      rw [if_neg (not_not_intro w1)]
      refine (congrArg (fun o => rBd o _) (c1 m q w h)).trans ?_
      simp only [rBd_v, Option.toList_some, Option.toList_none, List.cons_append, List.nil_append, List.append_nil, b_71_64, b_71_94]
    · intro m q w h
      rw [xP3 m q w h, if_pos (i12.mp w1)]
      refine (congrArg (fun o => rBd o _) (c2 m q w h)).trans ?_
      simp only [rBd_v, Option.toList_some, Option.toList_none, List.cons_append, List.nil_append, List.append_nil, b_190_91, b_190_154]
    · obtain ⟨a2, b2, d2, l2, m2, w2, v2⟩ := c3.2.2.2.2 q'
      exact ⟨a2, b2, d2, Nat.le_trans (Nat.add_le_add_left hss _) l2, m2, w2, v2⟩
  · have cP4 : ∀ (m : Nat → Nat → Int) (q : Nat → Nat → Option Nat) (w : Option (Nat → Int64)), onT m T n → ev d 71 [.ref x, .ref 101, .int (iI op)] (mk (tr (lw m x C z) s) q w) = gv (d - 1) rR71 73 [some (.ref x), some (.ref 101), some (.int (iI op)), some (.int (iI s0.1))] [.int (iI (zb (aWd T n W13 s0)))] (mk (tr (lw m x C z) (aTw T n W13 s0)) q w) := by
      intro m q w h
      rw [cP3 m q w h, b_71_52 hx, wn W12 w1]
      simp only [zb_0]
      rw [if_pos w1, U_27 d10 (lw_on m C z hx h) hs0 W13_t]
      simp only [rBd_v, Option.toList_some, Option.toList_none, List.cons_append, List.nil_append, List.append_nil]
    have i13 := rel_word (T := T) hs0 W13_l r0 h00
    rw [hxp0, hk0] at i13
    by_cases w2 : aWd T n W13 s0
    · have hb5 : s0.1 + 4 ≤ n := by
        have h9 := (w2.2.1 3 (by decide)).1
        rw [hk0] at h9
        exact h9
      obtain ⟨s', x', C', E', F', z', k', c1, c2, c3, c4⟩ := J_pair hn hS (d := d - 1) (dx := dx - 1) (b := 4) (c := 7) (C := C) (E := E) (F := F) hx hop hd35 hx35 hs0 hx00 r0 h00 hg0 hz0 hl (by decide) hb5 (by decide)
      refine ⟨s', x', C', E', F', z', k', ?_, ?_, ⟨c3.1, c3.2.1, c3.2.2.1, c3.2.2.2.1, fun q' => ?_⟩, fun q' => Nat.lt_of_le_of_lt hss (c4 q')⟩
      · intro m q w h
        rw [cP4 m q w h, b_71_73 hx, wl W13 w2]
        simp only [zb_0]
        rw [if_neg (not_not_intro w2)]
        refine (congrArg (fun o => rBd o _) (c1 m q w h)).trans ?_
        simp only [rBd_v, Option.toList_some, Option.toList_none, List.cons_append, List.nil_append, List.append_nil, b_71_85, b_71_94]
      · intro m q w h
        rw [xP3 m q w h, if_neg (fun y => w1 (i12.mpr y)), if_pos (i13.mp w2)]
        refine (congrArg (fun o => rBd o _) (c2 m q w h)).trans ?_
        simp only [rBd_v, Option.toList_some, Option.toList_none, List.cons_append, List.nil_append, List.append_nil, b_190_114, b_190_154]
      · obtain ⟨a2, b2, d2, l2, m2, w2, v2⟩ := c3.2.2.2.2 q'
        exact ⟨a2, b2, d2, Nat.le_trans (Nat.add_le_add_left hss _) l2, m2, w2, v2⟩
    · obtain ⟨t1, t2, t3, t4, t5⟩ := rel_tk (T := T) (n := n) fcL fcL_l s0 x0 hs0 hx00.1 r0 h00
      rw [hxp0, hk0] at t1
      have cP5 : ∀ (m : Nat → Nat → Int) (q : Nat → Nat → Option Nat) (w : Option (Nat → Int64)), onT m T n → ev d 71 [.ref x, .ref 101, .int (iI op)] (mk (tr (lw m x C z) s) q w) = rBd (match (tkS T n fcL s0).1 with
          | some k => vV (mk (tr (lw m x (adC C z (-1 - (k : Int))) (adZ z)) (tkS T n fcL s0).2) q w)
          | none => vV (mk (tr (lw m x C z) (aBl 1 s0.1 (tkS T n fcL s0).2)) q w)) (fun v M' => gv (d - 1) rR71 94 [some (.ref x), some (.ref 101), some (.int (iI op)), some (.int (iI s0.1))] (v.toList ++ []) M') := by
        intro m q w h
        rw [cP4 m q w h, b_71_73 hx, wn W13 w2]
        simp only [zb_0]
        rw [if_pos w2, T_66 d11 hx h hs0 hzl]
        rfl
      have xP5 : ∀ (m : Nat → Nat → Int) (q : Nat → Nat → Option Nat) (w : Option (Nat → Int64)), onX m T n → ev dx 190 [.ref 363] (mk (mr (lx m E F z op) xs) q w) = gv (dx - 1) rR190 121 [some (.ref 363), none] [.int (iI (match (tkS T n fcL s0).1 with | some k => (k : Int) | none => -1))] (mk (mr (lx m E F z op) x0) q w) := by
        intro m q w h
        rw [xP3 m q w h, if_neg (fun y => w1 (i12.mpr y)), if_neg (fun y => w2 (i13.mpr y)), t1]
      have t7 := tk_lt (T := T) (n := n) (b := 7) fcL (by decide) s0
      generalize hr9 : tkS T n fcL s0 = r9 at *
      obtain ⟨o9, s9⟩ := r9
      cases o9 with
      | none =>
        have e9 : s9 = s0 := by
          have h9 := t5 rfl (fun y => nomatch y)
          rw [hk0] at h9
          exact h9
        clear i12 i13 w1 w2 t1 t4 t5 t7 wl wn cP3 cP4 xP3 t2 t3 hS
        subst e9
        have eb : aBl 1 s9.1 s9 = (s9.1, 1, (s9.1 : Int)) := by
          unfold aBl
          rw [if_pos h00]
        have ew : xWr 1 s9.1 x0 = (s9.1, (s9.1 : Int), 1) := by
          unfold xWr
          rw [if_pos y00, hxp0]
        have gxA : gx n (s9.1, (s9.1 : Int), 1) := ⟨hs0.1, by show i32 (s9.1 : Int); omega⟩
        refine ⟨(s9.1, 1, (s9.1 : Int)), (s9.1, (s9.1 : Int), 1), C, E, F, z, z, ?_, ?_, ⟨⟨hs0.1, by show i32 (1 : Int); omega⟩, gxA, Or.inr ⟨by show (1 : Int) ≠ 0; decide, by show (s9.1 : Int) ≠ -1; omega, rfl, rfl⟩, by omega, fun h => absurd h (by show ¬ (1 : Int) = 0; decide)⟩, fun h => absurd h (by show ¬ (1 : Int) = 0; decide)⟩
        · intro m q w h
          rw [cP5 m q w h]
          dsimp only
          rw [eb]
          simp only [rBd_v, Option.toList_some, Option.toList_none, List.cons_append, List.nil_append, List.append_nil, b_71_94]
        · intro m q w h
          rw [xP5 m q w h]
          dsimp only
          rw [b_190_121, if_pos rfl, mr_4, hxp0, V_168 (by omega) hx00, ew]
          simp only [rBd_v, Option.toList_some, Option.toList_none, List.cons_append, List.nil_append, List.append_nil, b_190_136]
          rw [V_167 (by omega) gxA]
          simp only [rBd_v, Option.toList_some, Option.toList_none, List.cons_append, List.nil_append, List.append_nil, b_190_140, zb_0]
          rw [if_pos (by show ¬ (s9.1 : Int) = -1; omega)]
      | some k =>
        have hk7 := t7 k rfl
        obtain ⟨u1, u2⟩ := t4 k rfl
        rw [hxp0, hk0] at u1
        rw [hk0] at u2
        have u2' : s0.1 < s9.1 := u2
        have u1' : rel s9 (wEnd T (n - s0.1) s0.1, x0.2) := u1
        have t2' : gd n s9 := t2
        have t3' : s9.2 = s0.2 := t3
        have q9 : s9.2.1 = 0 := by rw [t3']; exact h00
        clear i12 i13 w1 w2 t1 t4 t5 t7 wl wn cP3 cP4 xP3 t2 t3 hS u1 u2
        have hn9 := t2'.1
        have gxA : gx n (wEnd T (n - s0.1) s0.1, x0.2) := ⟨by have := rel_at u1' q9; have this' : wEnd T (n - s0.1) s0.1 = s9.1 := this; omega, hx00.2⟩
        have hz150 : z < 150 := by omega
        refine ⟨s9, (wEnd T (n - s0.1) s0.1, x0.2), row C z (-1 - (k : Int)), row E z 1, row F z k, z + 1, z + 1, ?_, ?_, ⟨t2', gxA, u1', by omega, fun _ => ⟨rfl, by omega, by omega, by omega, ?_, ?_, ?_⟩⟩, fun _ => by omega⟩
        · intro m q w h
          rw [cP5 m q w h]
          dsimp only
          unfold adC adZ
          rw [if_pos hz150, if_pos hz150]
          simp only [rBd_v, Option.toList_some, Option.toList_none, List.cons_append, List.nil_append, List.append_nil, b_71_94]
        · intro m q w h
          rw [xP5 m q w h]
          dsimp only
          rw [b_190_121, if_neg (by rw [iI_eq (by omega) (by omega)]; omega), b_190_136, V_167 (by omega) hx00]
          simp only [rBd_v, Option.toList_some, Option.toList_none, List.cons_append, List.nil_append, List.append_nil, b_190_140, zb_0]
          rw [if_neg (not_not_intro y00), V_174 (by omega) (lx_on m E F z op h) hx00, hxp0]
          simp only [rBd_v, Option.toList_some, Option.toList_none, List.cons_append, List.nil_append, List.append_nil, b_190_148]
          rw [V_184 (by omega) gxA (fun _ => hz150), if_pos (show ((wEnd T (n - s0.1) s0.1, x0.2) : rd).2.1 = -1 from y00)]
          simp only [rBd_v, Option.toList_some, Option.toList_none, List.cons_append, List.nil_append, List.append_nil, b_190_154]
        · intro i hi
          by_cases h9 : i = z
          · rw [h9, row_s, row_s, row_s]
            exact Or.inr (Or.inl ⟨rfl, by omega, by omega, rfl⟩)
          · rw [row_o _ _ _ h9, row_o _ _ _ h9, row_o _ _ _ h9]
            exact hl i (by omega)
        · intro i hi
          rw [row_o _ _ _ (by omega)]
        · rw [show z + 1 - z = 1 by omega]
          exact seg_one (by rw [row_s]; omega)
theorem J_unit (hT : isT T) (hn : n ≤ 150) (hS : ∀ g', g' < g → PJ T n 70 188 38 g') : PJ T n 71 190 36 g := by
  intro d dx x op z C E F s xs hx hop hd hdx hs hxs hr h0 hg hz hl
  have hx0 := (rel_fine hr).mp h0
  have hxp := rel_at hr h0
  have hsk := skip_le T hs.1
  obtain ⟨s0, e0⟩ : ∃ s0 : rd, s0 = (skip T n s.1, s.2) := ⟨_, rfl⟩
  obtain ⟨x0, f0⟩ : ∃ x0 : rd, x0 = (skip T n s.1, xs.2) := ⟨_, rfl⟩
  have hp : skip T n s.1 = s0.1 := by rw [e0]
  have hs0 : gd n s0 := by rw [e0]; exact ⟨hsk.2, hs.2⟩
  have hx00 : gx n x0 := by rw [f0]; exact ⟨hsk.2, hxs.2⟩
  have r0 : rel s0 x0 := by rw [e0, f0]; exact rel_go hr h0
  have h00 : s0.2.1 = 0 := by rw [e0]; exact h0
  have y00 : x0.2.1 = -1 := by rw [f0]; exact hx0
  have hxp0 : x0.1 = s0.1 := by rw [e0, f0]
  have hk0 : skip T n s0.1 = s0.1 := by rw [e0]; exact skip_fix T hs.1
  have hge : s.1 ≤ s0.1 := by rw [← hp]; exact hsk.1
  have hn0 := hs0.1
  have cP : ∀ (m : Nat → Nat → Int) (q : Nat → Nat → Option Nat) (w : Option (Nat → Int64)), onT m T n → ev d 71 [.ref x, .ref 101, .int (iI op)] (mk (tr (lw m x C z) s) q w) = gv (d - 1) rR71 9 [some (.ref x), some (.ref 101), some (.int (iI op)), some (.int (iI s0.1))] [.int (iI (zb (aOn T n 48 57 s0)))] (mk (tr (lw m x C z) s0) q w) := by
    intro m q w h
    have hO := lw_on m C z hx h
    rw [e_71 (by omega) _ rfl rfl rfl, b_71_0 hx, U_2 (by omega) hO hs, ← e0, hp]
    simp only [rBd_v, Option.toList_some, Option.toList_none, List.cons_append, List.nil_append, List.append_nil, b_71_4 hx]
    rw [U_4 (by omega) hO hs0, aN_fix h00 hk0]
    simp only [rBd_v, Option.toList_some, Option.toList_none, List.cons_append, List.nil_append, List.append_nil]
  have yH : ∀ (m : Nat → Nat → Int) (q : Nat → Nat → Option Nat) (w : Option (Nat → Int64)), onX m T n → ev (dx - 1) 169 [.ref 363] (mk (mr (lx m E F z op) x0) q w) = vI (hv T n s0.1) (mk (mr (lx m E F z op) x0) q w) := by
    intro m q w h
    rw [V_169 (by omega) (lx_on m E F z op h) hx00, hxp0, hk0, ← hxp0]
  have xP : ∀ (m : Nat → Nat → Int) (q : Nat → Nat → Option Nat) (w : Option (Nat → Int64)), onX m T n → ev dx 190 [.ref 363] (mk (mr (lx m E F z op) xs) q w) = gv (dx - 1) rR190 12 [some (.ref 363), none] [.int (iI (hv T n s0.1))] (mk (mr (lx m E F z op) x0) q w) := by
    intro m q w h
    rw [e_190 (by omega) _ rfl, b_190_0, V_167 (by omega) hxs]
    simp only [rBd_v, Option.toList_some, Option.toList_none, List.cons_append, List.nil_append, List.append_nil, b_190_4, zb_0]
    rw [if_neg (not_not_intro hx0), V_169 (by omega) (lx_on m E F z op h) hxs, hxp, ← f0, hp]
    simp only [rBd_v, Option.toList_some, Option.toList_none, List.cons_append, List.nil_append, List.append_nil]
  have hv0 := hv_i T n s0.1 hT
  have on48 := hv_on (T := T) (n := n) (p := s0.1) (a := 48) (b := 57) (by omega)
  have on40 := hv_on (T := T) (n := n) (p := s0.1) (a := 40) (b := 40) (by omega)
  by_cases hD : aOn T n 48 57 s0
  · -- a number
    have hD2 : aF T n s0.1 48 57 := by
      have := hD.2
      rw [hk0] at this
      exact this
    have hc := on48.mp hD2
    clear on48 on40 hS
    obtain ⟨rn, rv⟩ := rel_num (T := T) (n := n) (lo := 0) (hi := 999) hT hs0 (by omega) (by omega) r0
    have gN : gd n (aNum T n 0 999 s0).2 := aNum_gd hs0
    have gX : gx n (xNum T n 0 999 x0).2 := xNum_gx (by omega) hx00
    have hz150 : z < 150 := by have := hD2.1; omega
    have cE : ∀ (m : Nat → Nat → Int) (q : Nat → Nat → Option Nat) (w : Option (Nat → Int64)), onT m T n → ev d 71 [.ref x, .ref 101, .int (iI op)] (mk (tr (lw m x C z) s) q w) = vV (mk (tr (lw m x (row C z (aNum T n 0 999 s0).1) (z + 1)) (aNum T n 0 999 s0).2) q w) := by
      intro m q w h
      rw [cP m q w h, b_71_9 hx]
      simp only [zb_0]
      rw [if_neg (not_not_intro hD), U_7 (by omega) (lw_on m C z hx h) hs0 (by omega) (by omega)]
      simp only [rBd_v, Option.toList_some, Option.toList_none, List.cons_append, List.nil_append, List.append_nil, b_71_21 hx]
      rw [T_65 (by omega) hx (by omega)]
      simp only [rBd_v, Option.toList_some, Option.toList_none, List.cons_append, List.nil_append, List.append_nil, b_71_24, b_71_94]
      unfold adC adZ
      rw [if_pos hz150, if_pos hz150]
    have xE : ∀ (m : Nat → Nat → Int) (q : Nat → Nat → Option Nat) (w : Option (Nat → Int64)), onX m T n → ev dx 190 [.ref 363] (mk (mr (lx m E F z op) xs) q w) = if (xNum T n 0 999 x0).2.2.1 = -1 then vV (mk (mr (lx m (row E z 0) (row F z (xNum T n 0 999 x0).1) (z + 1) op) (xNum T n 0 999 x0).2) q w) else vV (mk (mr (lx m E F z op) (xNum T n 0 999 x0).2) q w) := by
      intro m q w h
      rw [xP m q w h, b_190_12, if_neg (by rw [iI_eq (by omega) (by omega)]; omega), yH m q w h]
      simp only [rBd_v, Option.toList_some, Option.toList_none, List.cons_append, List.nil_append, List.append_nil, b_190_49]
      rw [V_171 (by omega) (by omega)]
      simp only [rBd_v, Option.toList_some, Option.toList_none, List.cons_append, List.nil_append, List.append_nil, b_190_52, zb_0]
      rw [if_neg (not_not_intro hc), V_175 (by omega) (lx_on m E F z op h) hx00 (by omega) (by omega)]
      simp only [rBd_v, Option.toList_some, Option.toList_none, List.cons_append, List.nil_append, List.append_nil, b_190_65]
      rw [V_184 (by omega) gX (fun _ => hz150)]
      split
      · simp only [rBd_v, Option.toList_some, Option.toList_none, List.cons_append, List.nil_append, List.append_nil, b_190_68, b_190_154]
      · simp only [rBd_v, Option.toList_some, Option.toList_none, List.cons_append, List.nil_append, List.append_nil, b_190_68, b_190_154]
    by_cases ff : (aNum T n 0 999 s0).2.2.1 = 0
    · obtain ⟨v1, v2, v3⟩ := rv ff
      have hgt := num_gt h00 ff
      rw [hk0] at hgt
      have yy := (rel_fine rn).mp ff
      refine ⟨_, _, _, row E z 0, row F z (xNum T n 0 999 x0).1, z + 1, z + 1, cE, fun m q w h => by rw [xE m q w h, if_pos yy], ⟨gN, gX, rn, by omega, fun _ => ⟨rfl, by omega, by omega, by omega, ?_, ?_, ?_⟩⟩, fun _ => by omega⟩
      · intro i hi
        by_cases h9 : i = z
        · rw [h9, row_s, row_s, row_s]
          exact Or.inl ⟨rfl, v1, by omega, by omega⟩
        · rw [row_o _ _ _ h9, row_o _ _ _ h9, row_o _ _ _ h9]
          exact hl i (by omega)
      · intro i hi
        rw [row_o _ _ _ (by omega)]
      · rw [show z + 1 - z = 1 by omega]
        exact seg_one (by rw [row_s]; omega)
    · have yy := rel_nf rn ff
      refine ⟨_, _, _, E, F, z + 1, z, cE, fun m q w h => by rw [xE m q w h, if_neg yy], ⟨gN, gX, rn, by omega, fun h => absurd h ff⟩, fun h => absurd h ff⟩
  · have hD2 : ¬ aF T n s0.1 48 57 := fun y => hD ⟨h00, by rw [hk0]; exact y⟩
    have hc : ¬ (48 ≤ hv T n s0.1 ∧ hv T n s0.1 ≤ 57) := fun y => hD2 (on48.mpr y)
    clear on48
    have cP2 : ∀ (m : Nat → Nat → Int) (q : Nat → Nat → Option Nat) (w : Option (Nat → Int64)), onT m T n → ev d 71 [.ref x, .ref 101, .int (iI op)] (mk (tr (lw m x C z) s) q w) = gv (d - 1) rR71 33 [some (.ref x), some (.ref 101), some (.int (iI op)), some (.int (iI s0.1))] [.int (iI (zb (aOn T n 40 40 s0)))] (mk (tr (lw m x C z) (aTk T n 40 s0)) q w) := by
      intro m q w h
      rw [cP m q w h, b_71_9 hx]
      simp only [zb_0]
      rw [if_pos hD, U_8 (by omega) (lw_on m C z hx h) hs0 (by omega)]
      simp only [rBd_v, Option.toList_some, Option.toList_none, List.cons_append, List.nil_append, List.append_nil]
    by_cases hB : aOn T n 40 40 s0
    · -- a bracket
      have hB2 : aF T n s0.1 40 40 := by
        have := hB.2
        rw [hk0] at this
        exact this
      have hb40 := on40.mp hB2
      clear on40
      have hlt := hB2.1
      have eT : aTk T n 40 s0 = (s0.1 + 1, s0.2) := by
        unfold aTk
        rw [if_pos hB, hk0]
      have hsA : gd n (s0.1 + 1, s0.2) := ⟨hlt, hs0.2⟩
      have xP2 : ∀ (m : Nat → Nat → Int) (q : Nat → Nat → Option Nat) (w : Option (Nat → Int64)), onX m T n → ev dx 190 [.ref 363] (mk (mr (lx m E F z op) xs) q w) = gv (dx - 1) rR190 22 [some (.ref 363), none] [] (mk (mr (lx m E F z (op + 1)) (xOp 1 op x0)) q w) := by
        intro m q w h
        rw [xP m q w h, b_190_12, if_pos (by rw [iI_eq (by omega) (by omega)]; omega), show iI 1 = iI ((1 : Nat) : Int) from rfl, V_185 (by omega) hx00 (by omega) hop (by omega)]
        simp only [rBd_v, Option.toList_some, Option.toList_none, List.cons_append, List.nil_append, List.append_nil]
      by_cases h6 : op < 6
      · have hxA : xOp 1 op x0 = (s0.1 + 1, x0.2) := by
          unfold xOp
          rw [if_pos y00, if_neg (by omega), hxp0]
        have gxA : gx n (s0.1 + 1, x0.2) := ⟨hlt, hx00.2⟩
        obtain ⟨s2, x2, C2, E2, F2, z2, k2, c2, y2, ⟨g2, gx2, r2, z2l, i2⟩, j2⟩ := hS (n - (s0.1 + 1)) (by omega) (d - 2) (dx - 1) x (op + 1) z C E F (s0.1 + 1, s0.2) (s0.1 + 1, x0.2) hx (by omega) (by omega) (by omega) hsA gxA (rel_go r0 h00) h00 (Nat.le_refl _) (by show z ≤ s0.1 + 1; omega) hl
        obtain ⟨s3, e3⟩ : ∃ s3 : rd, s3 = aEx T n 41 s2 := ⟨_, rfl⟩
        obtain ⟨x3, f3⟩ : ∃ x3 : rd, x3 = xSg T n 41 x2 := ⟨_, rfl⟩
        have r3 : rel s3 x3 := by rw [e3, f3]; exact rel_sg (by omega) r2
        have g3 : gd n s3 := by rw [e3]; exact aEx_gd g2
        have gx3 : gx n x3 := by rw [f3]; exact xSg_gx (by omega) (by omega) gx2
        have cE : ∀ (m : Nat → Nat → Int) (q : Nat → Nat → Option Nat) (w : Option (Nat → Int64)), onT m T n → ev d 71 [.ref x, .ref 101, .int (iI op)] (mk (tr (lw m x C z) s) q w) = vV (mk (tr (lw m x C2 z2) s3) q w) := by
          intro m q w h
          rw [cP2 m q w h, b_71_33 hx, eT]
          simp only [zb_0]
          rw [if_neg (not_not_intro hB), e_67 (by omega) _ rfl rfl rfl rfl, b_67_0 hx, if_pos (by rw [iI_lt (by omega) (by omega)]; omega), show ((op : Nat) : Int) + 1 = ((op + 1 : Nat) : Int) from rfl, show d - 1 - 1 = d - 2 by omega, c2 m q w h]
          simp only [rBd_v, Option.toList_some, Option.toList_none, List.cons_append, List.nil_append, List.append_nil, b_67_21]
          rw [U_9 (by omega) (lw_on m C2 z2 hx h) g2 (by omega), ← e3]
          simp only [rBd_v, Option.toList_some, Option.toList_none, List.cons_append, List.nil_append, List.append_nil, b_67_27, b_71_43, b_71_94]
        have xE' : ∀ (m : Nat → Nat → Int) (q : Nat → Nat → Option Nat) (w : Option (Nat → Int64)), onX m T n → ev dx 190 [.ref 363] (mk (mr (lx m E F z op) xs) q w) = vV (mk (mr (lx m E2 F2 k2 op) x3) q w) := by
          intro m q w h
          have e7 : mr (lx m E2 F2 k2 (op + 1)) x3 363 7 = ((op + 1 : Nat) : Int) := by rw [mr_b _ _ (by decide) (by decide) (by decide), lx_7]
          rw [xP2 m q w h, hxA, b_190_22, y2 m q w h]
          simp only [rBd_v, Option.toList_some, Option.toList_none, List.cons_append, List.nil_append, List.append_nil, b_190_26]
          rw [V_176 (by omega) (lx_on m E2 F2 k2 (op + 1) h) gx2 (by omega), ← f3]
          simp only [rBd_v, Option.toList_some, Option.toList_none, List.cons_append, List.nil_append, List.append_nil, b_190_32]
          rw [e7, mr_wi (by decide) (by decide) (by decide), show ((op + 1 : Nat) : Int) - 1 = ((op : Nat) : Int) by omega, lx_w7, b_190_154]
        refine ⟨s3, x3, C2, E2, F2, z2, k2, cE, xE', ⟨g3, gx3, r3, z2l, fun q3 => ?_⟩, fun q3 => ?_⟩
        · have q2 : s2.2.1 = 0 := by
            by_cases q2 : s2.2.1 = 0
            · exact q2
            · exact absurd q3 (by rw [e3, f_aEx q2]; exact q2)
          have p3 := ex_gt (T := T) (n := n) (c := 41) q2 (by rw [← e3]; exact q3)
          rw [← e3] at p3
          obtain ⟨a2, b2, d2, l2, m2, w2, v2⟩ := i2 q2
          have l2' : z2 + (s0.1 + 1) ≤ z + s2.1 := l2
          exact ⟨a2, b2, d2, by omega, m2, w2, v2⟩
        · have q2 : s2.2.1 = 0 := by
            by_cases q2 : s2.2.1 = 0
            · exact q2
            · exact absurd q3 (by rw [e3, f_aEx q2]; exact q2)
          have p3 := ex_gt (T := T) (n := n) (c := 41) q2 (by rw [← e3]; exact q3)
          rw [← e3] at p3
          have := j2 q2
          have this' : s0.1 + 1 < s2.1 := this
          omega
      · have hxA : xOp 1 op x0 = (s0.1, (s0.1 : Int), 3) := by
          unfold xOp
          rw [if_pos y00, if_pos (by omega), hxp0]
        have gxA : gx n (s0.1, (s0.1 : Int), 3) := ⟨hs0.1, by show i32 (s0.1 : Int); omega⟩
        have yf : ((s0.1, (s0.1 : Int), 3) : rd).2.1 ≠ -1 := by show (s0.1 : Int) ≠ -1; omega
        refine ⟨(s0.1 + 1, 3, (s0.1 : Int)), (s0.1, (s0.1 : Int), 3), C, E, F, z, z, ?_, ?_, ⟨⟨hlt, by show i32 (3 : Int); omega⟩, gxA, Or.inr ⟨by show (3 : Int) ≠ 0; decide, by show (s0.1 : Int) ≠ -1; omega, rfl, rfl⟩, by omega, fun h => absurd h (by show ¬ (3 : Int) = 0; decide)⟩, fun h => absurd h (by show ¬ (3 : Int) = 0; decide)⟩
        · intro m q w h
          rw [cP2 m q w h, b_71_33 hx, eT]
          simp only [zb_0]
          rw [if_neg (not_not_intro hB), e_67 (by omega) _ rfl rfl rfl rfl, b_67_0 hx, if_neg (by rw [iI_lt (by omega) (by omega)]; omega), U_5 (by omega) hsA]
          simp only [rBd_v, Option.toList_some, Option.toList_none, List.cons_append, List.nil_append, List.append_nil, b_67_12, b_71_43, b_71_94]
          unfold aBl
          rw [if_pos (show ((s0.1 + 1, s0.2) : rd).2.1 = 0 from h00)]
        · intro m q w h
          have e7 : mr (lx m E F z (op + 1)) (s0.1, (s0.1 : Int), 3) 363 7 = ((op + 1 : Nat) : Int) := by rw [mr_b _ _ (by decide) (by decide) (by decide), lx_7]
          rw [xP2 m q w h, hxA, b_190_22, G_188 (by omega) gxA yf]
          simp only [rBd_v, Option.toList_some, Option.toList_none, List.cons_append, List.nil_append, List.append_nil, b_190_26]
          rw [V_176 (by omega) (lx_on m E F z (op + 1) h) gxA (by omega), f_xSg yf]
          simp only [rBd_v, Option.toList_some, Option.toList_none, List.cons_append, List.nil_append, List.append_nil, b_190_32]
          rw [e7, mr_wi (by decide) (by decide) (by decide), show ((op + 1 : Nat) : Int) - 1 = ((op : Nat) : Int) by omega, lx_w7, b_190_154]
    · -- a word
      have hb40 : ¬ hv T n s0.1 = 40 := fun y => hB ⟨h00, by rw [hk0]; exact on40.mpr (by omega)⟩
      clear on40
      have eT : aTk T n 40 s0 = s0 := by
        unfold aTk
        rw [if_neg hB, aN_fix h00 hk0]
      have cP3 : ∀ (m : Nat → Nat → Int) (q : Nat → Nat → Option Nat) (w : Option (Nat → Int64)), onT m T n → ev d 71 [.ref x, .ref 101, .int (iI op)] (mk (tr (lw m x C z) s) q w) = gv (d - 1) rR71 52 [some (.ref x), some (.ref 101), some (.int (iI op)), some (.int (iI s0.1))] [.int (iI (zb (aWd T n W12 s0)))] (mk (tr (lw m x C z) (aTw T n W12 s0)) q w) := by
        intro m q w h
        rw [cP2 m q w h, b_71_33 hx, eT]
        simp only [zb_0]
        rw [if_pos hB, U_27 (by omega) (lw_on m C z hx h) hs0 W12_t]
        simp only [rBd_v, Option.toList_some, Option.toList_none, List.cons_append, List.nil_append, List.append_nil]
      have xW : ∀ (m : Nat → Nat → Int) (q : Nat → Nat → Option Nat) (w : Option (Nat → Int64)), onX m T n → ev (dx - 1) 172 [.ref 363] (mk (mr (lx m E F z op) x0) q w) = vI (wVal T n s0.1) (mk (mr (lx m E F z op) x0) q w) := by
        intro m q w h
        rw [V_172 (by omega) (lx_on m E F z op h) hx00, hxp0, hk0, ← hxp0]
      have xP3 : ∀ (m : Nat → Nat → Int) (q : Nat → Nat → Option Nat) (w : Option (Nat → Int64)), onX m T n → ev dx 190 [.ref 363] (mk (mr (lx m E F z op) xs) q w) = if wVal T n s0.1 = ofL 0 W12 then rBd (ev (dx - 1) 189 [.ref 363, .int (iI 5), .int (iI 6)] (mk (mr (lx m E F z op) x0) q w)) (fun v M' => gv (dx - 1) rR190 91 [some (.ref 363), none] (v.toList ++ []) M')
          else if wVal T n s0.1 = ofL 0 W13 then rBd (ev (dx - 1) 189 [.ref 363, .int (iI 4), .int (iI 7)] (mk (mr (lx m E F z op) x0) q w)) (fun v M' => gv (dx - 1) rR190 114 [some (.ref 363), none] (v.toList ++ []) M')
          else gv (dx - 1) rR190 121 [some (.ref 363), none] [.int (iI (match lkW (wVal T n s0.1) fcL with | some k => (k : Int) | none => -1))] (mk (mr (lx m E F z op) x0) q w) := by
        intro m q w h
        rw [xP m q w h, b_190_12, if_neg (by rw [iI_eq (by omega) (by omega)]; omega), yH m q w h]
        simp only [rBd_v, Option.toList_some, Option.toList_none, List.cons_append, List.nil_append, List.append_nil, b_190_49]
        rw [V_171 (by omega) (by omega)]
        simp only [rBd_v, Option.toList_some, Option.toList_none, List.cons_append, List.nil_append, List.append_nil, b_190_52, zb_0]
        rw [if_pos hc, xW m q w h]
        simp only [rBd_v, Option.toList_some, Option.toList_none, List.cons_append, List.nil_append, List.append_nil, b_190_75]
        rw [V_173 (by omega) W12_t]
        simp only [rBd_v, Option.toList_some, Option.toList_none, List.cons_append, List.nil_append, List.append_nil, b_190_81, iI_eq (word_i (T := T) (n := n) (p := s0.1)) (ofL_i W12_l)]
        by_cases v1 : wVal T n s0.1 = ofL 0 W12
        · rw [if_pos v1, if_pos v1]
        · rw [if_neg v1, if_neg v1, xW m q w h]
          simp only [rBd_v, Option.toList_some, Option.toList_none, List.cons_append, List.nil_append, List.append_nil, b_190_98]
          rw [V_173 (by omega) W13_t]
          simp only [rBd_v, Option.toList_some, Option.toList_none, List.cons_append, List.nil_append, List.append_nil, b_190_104, iI_eq (word_i (T := T) (n := n) (p := s0.1)) (ofL_i W13_l)]
          by_cases v2 : wVal T n s0.1 = ofL 0 W13
          · rw [if_pos v2, if_pos v2]
          · rw [if_neg v2, if_neg v2, V_186 (by omega) (lx_on m E F z op h) hx00, hxp0, hk0, ← hxp0]
            simp only [rBd_v, Option.toList_some, Option.toList_none, List.cons_append, List.nil_append, List.append_nil]
            rfl
      exact J_word hn hS hx hop hd hdx hs0 hx00 r0 h00 y00 hxp0 hk0 (by omega) (by omega) hge hl cP3 xP3
end J
