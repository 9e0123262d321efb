/-! ===== a law is read by both ===== -/
def resJ (n a z : Nat) (s : rd) (C : Nat → Int) (s' xs' : rd) (C' E' F' : Nat → Int) (z' k' : Nat) : Prop :=
  gd n s' ∧ gx n xs' ∧ rel s' xs' ∧ z' ≤ 150 ∧ (s'.2.1 = 0 → k' = z' ∧ z ≤ z' ∧ a < z' ∧ z' + s.1 ≤ z + s'.1 ∧ (∀ i, i < z' → lk (C' i) (E' i) (F' i)) ∧ (∀ i, i < z → C' i = C i) ∧ seg C' a (z' - a))
def PJ (T : Nat → Int) (n jc jx ex g : Nat) : Prop := ∀ (d dx x op z : Nat) (C E F : Nat → Int) (s xs : rd), iLaw x → op ≤ 6 → ex ≤ d + 4 * op → ex ≤ dx + 4 * op → gd n s → gx n xs → rel s xs → s.2.1 = 0 → n - s.1 ≤ g → z ≤ s.1 → (∀ i, i < z → lk (C i) (E i) (F i)) →
  ∃ (s' xs' : rd) (C' E' F' : Nat → Int) (z' k' : Nat),
    (∀ (m : Nat → Nat → Int) (q : Nat → Nat → Option Nat) (w : Option (Nat → Int64)), onT m T n → ev d jc [.ref x, .ref 101, .int (iI op)] (mk (tr (lw m x C z) s) q w) = vV (mk (tr (lw m x C' z') s') q w)) ∧
    (∀ (m : Nat → Nat → Int) (q : Nat → Nat → Option Nat) (w : Option (Nat → Int64)), onX m T n → ev dx jx [.ref 363] (mk (mr (lx m E F z op) xs) q w) = vV (mk (mr (lx m E' F' k' op) xs') q w)) ∧
    resJ n z z s C s' xs' C' E' F' z' k' ∧ (s'.2.1 = 0 → s.1 < s'.1)
theorem ex_gt {T : Nat → Int} {n : Nat} {s : rd} {c : Int} (h0 : s.2.1 = 0) (h : (aEx T n c s).2.1 = 0) : s.1 < (aEx T n c s).1 := by
  have hk := (skp_le T (n - s.1) s.1).1
  unfold aEx at h ⊢
  by_cases h1 : aOn T n c c s
  · rw [if_pos h1]
    unfold aTk
    rw [if_pos h1]
    show s.1 < skip T n s.1 + 1
    unfold skip
    omega
  · rw [if_neg h1] at h
    unfold aBl aTk aN at h
    rw [if_neg h1, if_pos h0] at h
    dsimp only at h
    rw [if_pos h0] at h
    exact absurd h (by show ¬ (1 : Int) = 0; decide)
theorem lk_ok {c e f : Int} (h : lk c e f) : okc c := by
  unfold okc
  rcases h with ⟨h1, h2, h3, h4⟩ | ⟨h1, h2, h3, h4⟩ | ⟨h1, h2, h3⟩
  · omega
  · omega
  · have := cd_dc (e := e.toNat) (by omega)
    omega
theorem lk_cd {e : Nat} (h : 2 ≤ e ∧ e ≤ 8) : lk (cd e) e 0 := Or.inr (Or.inr ⟨by omega, by omega, by rw [Int.toNat_natCast]⟩)
theorem rel_go {s x : rd} (h : rel s x) (h0 : s.2.1 = 0) {a : Nat} : rel (a, s.2) (a, x.2) := Or.inl ⟨h0, (rel_fine h).mp h0, rfl⟩
section J
variable {T : Nat → Int} {n g : Nat}
theorem J_pair (hn : n ≤ 150) (hS : ∀ g', g' < g → PJ T n 70 188 38 g') {d dx x op z b c : Nat} {C E F : Nat → Int} {s xs : rd} (hx : iLaw x) (hop : op ≤ 6) (hd : 35 ≤ d + 4 * op) (hdx : 35 ≤ dx + 4 * op) (hs : gd n s) (hxs : gx n xs) (hr : rel s xs) (h0 : s.2.1 = 0) (hg : n - s.1 ≤ g) (hz : z ≤ s.1) (hl : ∀ i, i < z → lk (C i) (E i) (F i)) (hb : 1 ≤ b ∧ b ≤ 5) (hbn : s.1 + b ≤ n) (hc : 2 ≤ c ∧ c ≤ 8) :
  ∃ (s' xs' : rd) (C' E' F' : Nat → Int) (z' k' : Nat),
    (∀ (m : Nat → Nat → Int) (q : Nat → Nat → Option Nat) (w : Option (Nat → Int64)), onT m T n → ev d 68 [.ref x, .ref 101, .int (iI op), .int (iI s.1), .int (iI (cd c))] (mk (tr (lw m x C z) (s.1 + b, s.2)) q w) = vV (mk (tr (lw m x C' z') s') q w)) ∧
    (∀ (m : Nat → Nat → Int) (q : Nat → Nat → Option Nat) (w : Option (Nat → Int64)), onX m T n → ev dx 189 [.ref 363, .int (iI b), .int (iI c)] (mk (mr (lx m E F z op) xs) q w) = vV (mk (mr (lx m E' F' k' op) xs') q w)) ∧
    resJ n z z s C s' xs' C' E' F' z' k' ∧ (s'.2.1 = 0 → s.1 < s'.1) := by
  have hx0 := (rel_fine hr).mp h0
  have hxp := rel_at hr h0
  have hsn := hs.1
  have hx185 : ∀ (m : Nat → Nat → Int) (q : Nat → Nat → Option Nat) (w : Option (Nat → Int64)), ev dx 189 [.ref 363, .int (iI b), .int (iI c)] (mk (mr (lx m E F z op) xs) q w) = gv (dx - 1) rR189 5 [some (.ref 363), some (.int (iI b)), some (.int (iI c))] [] (mk (mr (lx m E F z (op + 1)) (xOp b op xs)) q w) := by
    intro m q w
    rw [e_189 (by omega) _ rfl rfl rfl, b_189_0, V_185 (by omega) hxs (by omega) hop hb.2]
    simp only [rBd_v, Option.toList_some, Option.toList_none, List.cons_append, List.nil_append, List.append_nil]
  by_cases h6 : op < 6
  · have hsA : gd n (s.1 + b, s.2) := ⟨hbn, hs.2⟩
    have hxA : xOp b op xs = (s.1 + b, xs.2) := by
      unfold xOp
      rw [if_pos hx0, if_neg (by omega), hxp]
    have gxA : gx n (s.1 + b, xs.2) := ⟨hbn, hxs.2⟩
    obtain ⟨s1, e1⟩ : ∃ s1 : rd, s1 = aEx T n 91 (s.1 + b, s.2) := ⟨_, rfl⟩
    obtain ⟨x1, f1⟩ : ∃ x1 : rd, x1 = xSg T n 91 (s.1 + b, xs.2) := ⟨_, rfl⟩
    have r1 : rel s1 x1 := by rw [e1, f1]; exact rel_sg (by omega) (rel_go hr h0)
    have g1 : gd n s1 := by rw [e1]; exact aEx_gd hsA
    have gx1 : gx n x1 := by rw [f1]; exact xSg_gx (by omega) (by omega) gxA
    have cP : ∀ (m : Nat → Nat → Int) (q : Nat → Nat → Option Nat) (w : Option (Nat → Int64)), onT m T n → ev d 68 [.ref x, .ref 101, .int (iI op), .int (iI s.1), .int (iI (cd c))] (mk (tr (lw m x C z) (s.1 + b, s.2)) q w) = gv (d - 1) rR68 19 [some (.ref x), some (.ref 101), some (.int (iI op)), some (.int (iI s.1)), some (.int (iI (cd c)))] [] (mk (tr (lw m x C z) s1) q w) := by
      intro m q w h
      rw [e_68 (by omega) _ rfl rfl rfl rfl rfl, b_68_0 hx, if_pos (by rw [iI_lt (by omega) (by omega)]; omega), U_9 (by omega) (lw_on m C z hx h) hsA (by omega), e1]
      simp only [rBd_v, Option.toList_some, Option.toList_none, List.cons_append, List.nil_append, List.append_nil]
    have xP : ∀ (m : Nat → Nat → Int) (q : Nat → Nat → Option Nat) (w : Option (Nat → Int64)), onX m T n → ev dx 189 [.ref 363, .int (iI b), .int (iI c)] (mk (mr (lx m E F z op) xs) q w) = gv (dx - 1) rR189 11 [some (.ref 363), some (.int (iI b)), some (.int (iI c))] [] (mk (mr (lx m E F z (op + 1)) x1) q w) := by
      intro m q w h
      rw [hx185, hxA, b_189_5, V_176 (by omega) (lx_on m E F z (op + 1) h) gxA (by omega), f1]
      simp only [rBd_v, Option.toList_some, Option.toList_none, List.cons_append, List.nil_append, List.append_nil]
    by_cases q1 : s1.2.1 = 0
    · have p1 : s.1 + b < s1.1 := by
        have := ex_gt (T := T) (n := n) (s := (s.1 + b, s.2)) (c := 91) h0 (by rw [← e1]; exact q1)
        rw [← e1] at this
        exact this
      have n1 := g1.1
      obtain ⟨s2, x2, C2, E2, F2, z2, k2, c2, y2, ⟨g2, gx2, r2, z2l, i2⟩, j2⟩ := hS (n - s1.1) (by omega) (d - 1) (dx - 1) x (op + 1) z C E F s1 x1 hx (by omega) (by omega) (by omega) g1 gx1 r1 q1 (Nat.le_refl _) (by omega) hl
      have cP2 : ∀ (m : Nat → Nat → Int) (q : Nat → Nat → Option Nat) (w : Option (Nat → Int64)), onT m T n → ev d 68 [.ref x, .ref 101, .int (iI op), .int (iI s.1), .int (iI (cd c))] (mk (tr (lw m x C z) (s.1 + b, s.2)) q w) = gv (d - 1) rR68 27 [some (.ref x), some (.ref 101), some (.int (iI op)), some (.int (iI s.1)), some (.int (iI (cd c)))] [] (mk (tr (lw m x C2 z2) s2) q w) := by
        intro m q w h
        rw [cP m q w h, b_68_19 hx, show ((op : Nat) : Int) + 1 = ((op + 1 : Nat) : Int) from rfl, c2 m q w h]
        simp only [rBd_v, Option.toList_some, Option.toList_none, List.cons_append, List.nil_append, List.append_nil]
      have xP2 : ∀ (m : Nat → Nat → Int) (q : Nat → Nat → Option Nat) (w : Option (Nat → Int64)), onX m T n → ev dx 189 [.ref 363, .int (iI b), .int (iI c)] (mk (mr (lx m E F z op) xs) q w) = gv (dx - 1) rR189 15 [some (.ref 363), some (.int (iI b)), some (.int (iI c))] [] (mk (mr (lx m E2 F2 k2 (op + 1)) x2) q w) := by
        intro m q w h
        rw [xP m q w h, b_189_11, y2 m q w h]
        simp only [rBd_v, Option.toList_some, Option.toList_none, List.cons_append, List.nil_append, List.append_nil]
      by_cases q2 : s2.2.1 = 0
      · obtain ⟨rfl, a2, b2, d2, l2, m2, w2⟩ := i2 q2
        have p2 := j2 q2
        obtain ⟨s3, e3⟩ : ∃ s3 : rd, s3 = aEx T n 44 s2 := ⟨_, rfl⟩
        obtain ⟨x3, f3⟩ : ∃ x3 : rd, x3 = xSg T n 44 x2 := ⟨_, rfl⟩
        have r3 : rel s3 x3 := by rw [e3, f3]; exact rel_sg (by omega) r2
        have g3 : gd n s3 := by rw [e3]; exact aEx_gd g2
        have gx3 : gx n x3 := by rw [f3]; exact xSg_gx (by omega) (by omega) gx2
        have cP3 : ∀ (m : Nat → Nat → Int) (q : Nat → Nat → Option Nat) (w : Option (Nat → Int64)), onT m T n → ev d 68 [.ref x, .ref 101, .int (iI op), .int (iI s.1), .int (iI (cd c))] (mk (tr (lw m x C z) (s.1 + b, s.2)) q w) = gv (d - 1) rR68 33 [some (.ref x), some (.ref 101), some (.int (iI op)), some (.int (iI s.1)), some (.int (iI (cd c)))] [] (mk (tr (lw m x C2 k2) s3) q w) := by
          intro m q w h
          rw [cP2 m q w h, b_68_27 hx, U_9 (by omega) (lw_on m C2 k2 hx h) g2 (by omega), e3]
          simp only [rBd_v, Option.toList_some, Option.toList_none, List.cons_append, List.nil_append, List.append_nil]
        have xP3 : ∀ (m : Nat → Nat → Int) (q : Nat → Nat → Option Nat) (w : Option (Nat → Int64)), onX m T n → ev dx 189 [.ref 363, .int (iI b), .int (iI c)] (mk (mr (lx m E F z op) xs) q w) = gv (dx - 1) rR189 21 [some (.ref 363), some (.int (iI b)), some (.int (iI c))] [] (mk (mr (lx m E2 F2 k2 (op + 1)) x3) q w) := by
          intro m q w h
          rw [xP2 m q w h, b_189_15, V_176 (by omega) (lx_on m E2 F2 k2 (op + 1) h) gx2 (by omega), f3]
          simp only [rBd_v, Option.toList_some, Option.toList_none, List.cons_append, List.nil_append, List.append_nil]
        by_cases q3 : s3.2.1 = 0
        · have p3 : s2.1 < s3.1 := by
            have := ex_gt (T := T) (n := n) (c := 44) q2 (by rw [← e3]; exact q3)
            rw [← e3] at this
            exact this
          have n3 := g3.1
          obtain ⟨s4, x4, C4, E4, F4, z4, k4, c4, y4, ⟨g4, gx4, r4, z4l, i4⟩, j4⟩ := hS (n - s3.1) (by omega) (d - 1) (dx - 1) x (op + 1) k2 C2 E2 F2 s3 x3 hx (by omega) (by omega) (by omega) g3 gx3 r3 q3 (Nat.le_refl _) (by omega) l2
          have cP4 : ∀ (m : Nat → Nat → Int) (q : Nat → Nat → Option Nat) (w : Option (Nat → Int64)), onT m T n → ev d 68 [.ref x, .ref 101, .int (iI op), .int (iI s.1), .int (iI (cd c))] (mk (tr (lw m x C z) (s.1 + b, s.2)) q w) = gv (d - 1) rR68 41 [some (.ref x), some (.ref 101), some (.int (iI op)), some (.int (iI s.1)), some (.int (iI (cd c)))] [] (mk (tr (lw m x C4 z4) s4) q w) := by
            intro m q w h
            rw [cP3 m q w h, b_68_33 hx, show ((op : Nat) : Int) + 1 = ((op + 1 : Nat) : Int) from rfl, c4 m q w h]
            simp only [rBd_v, Option.toList_some, Option.toList_none, List.cons_append, List.nil_append, List.append_nil]
          have xP4 : ∀ (m : Nat → Nat → Int) (q : Nat → Nat → Option Nat) (w : Option (Nat → Int64)), onX m T n → ev dx 189 [.ref 363, .int (iI b), .int (iI c)] (mk (mr (lx m E F z op) xs) q w) = gv (dx - 1) rR189 25 [some (.ref 363), some (.int (iI b)), some (.int (iI c))] [] (mk (mr (lx m E4 F4 k4 (op + 1)) x4) q w) := by
            intro m q w h
            rw [xP3 m q w h, b_189_21, y4 m q w h]
            simp only [rBd_v, Option.toList_some, Option.toList_none, List.cons_append, List.nil_append, List.append_nil]
          by_cases q4 : s4.2.1 = 0
          · obtain ⟨rfl, a4, b4, d4, l4, m4, w4⟩ := i4 q4
            have p4 := j4 q4
            obtain ⟨s5, e5⟩ : ∃ s5 : rd, s5 = aEx T n 93 s4 := ⟨_, rfl⟩
            obtain ⟨x5, f5⟩ : ∃ x5 : rd, x5 = xSg T n 93 x4 := ⟨_, rfl⟩
            have r5 : rel s5 x5 := by rw [e5, f5]; exact rel_sg (by omega) r4
            have g5 : gd n s5 := by rw [e5]; exact aEx_gd g4
            have gx5 : gx n x5 := by rw [f5]; exact xSg_gx (by omega) (by omega) gx4
            have cP5 : ∀ (m : Nat → Nat → Int) (q : Nat → Nat → Option Nat) (w : Option (Nat → Int64)), onT m T n → ev d 68 [.ref x, .ref 101, .int (iI op), .int (iI s.1), .int (iI (cd c))] (mk (tr (lw m x C z) (s.1 + b, s.2)) q w) = vV (mk (tr (lw m x (adC C4 k4 (cd c)) (adZ k4)) s5) q w) := by
              intro m q w h
              rw [cP4 m q w h, b_68_41 hx, U_9 (by omega) (lw_on m C4 k4 hx h) g4 (by omega), e5]
              simp only [rBd_v, Option.toList_some, Option.toList_none, List.cons_append, List.nil_append, List.append_nil]
              rw [b_68_47 hx, T_65 (by omega) hx z4l]
              simp only [rBd_v, Option.toList_some, Option.toList_none, List.cons_append, List.nil_append, List.append_nil, b_68_53]
            have xP5 : ∀ (m : Nat → Nat → Int) (q : Nat → Nat → Option Nat) (w : Option (Nat → Int64)), onX m T n → ev dx 189 [.ref 363, .int (iI b), .int (iI c)] (mk (mr (lx m E F z op) xs) q w) = gv (dx - 1) rR189 31 [some (.ref 363), some (.int (iI b)), some (.int (iI c))] [] (mk (mr (lx m E4 F4 k4 (op + 1)) x5) q w) := by
              intro m q w h
              rw [xP4 m q w h, b_189_25, V_176 (by omega) (lx_on m E4 F4 k4 (op + 1) h) gx4 (by omega), f5]
              simp only [rBd_v, Option.toList_some, Option.toList_none, List.cons_append, List.nil_append, List.append_nil]
            by_cases q5 : s5.2.1 = 0
            · have p5 : s4.1 < s5.1 := by
                have := ex_gt (T := T) (n := n) (c := 93) q4 (by rw [← e5]; exact q5)
                rw [← e5] at this
                exact this
              have n5 := g5.1
              have hk : k4 < 150 := by omega
              have y5 := (rel_fine r5).mp q5
              have hcd := cd_dc hc
              refine ⟨s5, x5, row C4 k4 (cd c), row E4 k4 c, row F4 k4 0, k4 + 1, k4 + 1, ?_, ?_, ⟨g5, gx5, r5, by omega, fun _ => ⟨rfl, by omega, by omega, by omega, ?_, ?_, ?_⟩⟩, fun _ => by omega⟩
              · intro m q w h
                rw [cP5 m q w h]
                unfold adC adZ
                rw [if_pos hk, if_pos hk]
              · intro m q w h
                have e7 : mr (lx m E4 F4 k4 (op + 1)) x5 363 7 = ((op + 1 : Nat) : Int) := by rw [mr_b _ _ (by decide) (by decide) (by decide), lx_7]
                rw [xP5 m q w h, b_189_31, e7, mr_wi (by decide) (by decide) (by decide), show ((op + 1 : Nat) : Int) - 1 = ((op : Nat) : Int) by omega, lx_w7, V_184 (by omega) gx5 (fun _ => hk), if_pos y5]
                simp only [rBd_v, Option.toList_some, Option.toList_none, List.cons_append, List.nil_append, List.append_nil, b_189_47]
              · intro i hi
                by_cases h9 : i = k4
                · rw [h9, row_s, row_s, row_s]
                  exact lk_cd hc
                · rw [row_o _ _ _ h9, row_o _ _ _ h9, row_o _ _ _ h9]
                  exact l4 i (by omega)
              · intro i hi
                rw [row_o _ _ _ (by omega), m4 i (by omega), m2 i hi]
              · have u1 : seg (row C4 k4 (cd c)) z (k2 - z) := seg_congr w2 (fun j j1 j3 => ⟨by rw [row_o _ _ _ (by omega), m4 j (by omega)], lk_ok (l2 j (by omega))⟩)
                have u2 : seg (row C4 k4 (cd c)) (z + (k2 - z)) (k4 - k2) := by
                  rw [show z + (k2 - z) = k2 by omega]
                  exact seg_congr w4 (fun j j1 j3 => ⟨by rw [row_o _ _ _ (by omega)], lk_ok (l4 j (by omega))⟩)
                have u3 := seg_join u1 u2 (by rw [show z + (k2 - z) + (k4 - k2) = k4 by omega, row_s]; omega)
                rw [show k2 - z + (k4 - k2) + 1 = k4 + 1 - z by omega] at u3
                exact u3
            · have y5 := rel_nf r5 q5
              refine ⟨s5, x5, _, E4, F4, _, k4, cP5, ?_, ⟨g5, gx5, r5, adZ_le z4l, fun h => absurd h q5⟩, fun h => absurd h q5⟩
              intro m q w h
              rw [xP5 m q w h]
              exact xt31 (by omega) gx5 y5
          · obtain ⟨C', z', s', t1, t2, t3, t4⟩ := tail41 (T := T) (C := C4) (z := z4) (o := (op : Nat)) (c := cd c) (show 3 ≤ d - 1 by omega) hx g4 q4 z4l
            have y4' := rel_nf r4 q4
            refine ⟨s', x4, C', E4, F4, z', k4, fun m q w h => (cP4 m q w h).trans (t1 m q w _ h), ?_, ⟨t3, gx4, rel_f r4 q4 t2 rfl, t4, fun h => absurd h (by rw [t2]; exact q4)⟩, fun h => absurd h (by rw [t2]; exact q4)⟩
            intro m q w h
            rw [xP4 m q w h]
            exact xt25 (by omega) h gx4 y4'
        · obtain ⟨C', z', s', t1, t2, t3, t4⟩ := tail33 (T := T) (C := C2) (z := k2) (o := (op : Nat)) (c := cd c) (show 14 ≤ d - 1 by omega) hx g3 q3 z2l
          have y3' := rel_nf r3 q3
          refine ⟨s', x3, C', E2, F2, z', k2, fun m q w h => (cP3 m q w h).trans (t1 m q w _ h), ?_, ⟨t3, gx3, rel_f r3 q3 t2 rfl, t4, fun h => absurd h (by rw [t2]; exact q3)⟩, fun h => absurd h (by rw [t2]; exact q3)⟩
          intro m q w h
          rw [xP3 m q w h]
          exact xt21 (by omega) h gx3 y3'
      · obtain ⟨C', z', s', t1, t2, t3, t4⟩ := tail27 (T := T) (C := C2) (z := z2) (o := (op : Nat)) (c := cd c) (show 14 ≤ d - 1 by omega) hx g2 q2 z2l
        have y2' := rel_nf r2 q2
        refine ⟨s', x2, C', E2, F2, z', k2, fun m q w h => (cP2 m q w h).trans (t1 m q w _ h), ?_, ⟨t3, gx2, rel_f r2 q2 t2 rfl, t4, fun h => absurd h (by rw [t2]; exact q2)⟩, fun h => absurd h (by rw [t2]; exact q2)⟩
        intro m q w h
        rw [xP2 m q w h]
        exact xt15 (by omega) h gx2 y2'
    · obtain ⟨C', z', s', t1, t2, t3, t4⟩ := tail19 (T := T) (C := C) (z := z) (o := (op : Nat)) (c := cd c) (show 14 ≤ d - 1 by omega) hx g1 q1 (by omega)
      have y1' := rel_nf r1 q1
      refine ⟨s', x1, C', E, F, z', z, fun m q w h => (cP m q w h).trans (t1 m q w _ h), ?_, ⟨t3, gx1, rel_f r1 q1 t2 rfl, t4, fun h => absurd h (by rw [t2]; exact q1)⟩, fun h => absurd h (by rw [t2]; exact q1)⟩
      intro m q w h
      rw [xP m q w h]
      exact xt11 (by omega) h gx1 y1'
  · have hxA : xOp b op xs = (s.1, (s.1 : Int), 3) := by
      unfold xOp
      rw [if_pos hx0, if_pos (by omega), hxp]
    have hsA : gd n (s.1 + b, s.2) := ⟨hbn, hs.2⟩
    have gxA : gx n (s.1, (s.1 : Int), 3) := ⟨hs.1, by show i32 (s.1 : Int); omega⟩
    refine ⟨(s.1 + b, 3, (s.1 : Int)), (s.1, (s.1 : Int), 3), C, E, F, z, z, ?_, ?_, ⟨⟨hbn, by show i32 (3 : Int); omega⟩, gxA, Or.inr ⟨by show (3 : Int) ≠ 0; decide, by show (s.1 : Int) ≠ -1; omega, rfl, rfl⟩, by omega, fun h => absurd h (by show ¬ (3 : Int) = 0; decide)⟩, fun h => absurd h (by show ¬ (3 : Int) = 0; decide)⟩
    · intro m q w h
      rw [e_68 (by omega) _ rfl rfl rfl rfl rfl, b_68_0 hx, if_neg (by rw [iI_lt (by omega) (by omega)]; omega), U_5 (by omega) hsA]
      simp only [rBd_v, Option.toList_some, Option.toList_none, List.cons_append, List.nil_append, List.append_nil, b_68_12]
      unfold aBl
      rw [if_pos h0]
    · intro m q w h
      rw [hx185, hxA]
      exact xt5 (by omega) h gxA (by show (s.1 : Int) ≠ -1; omega)
end J
