/-! ===== the call work, alike: begun, read ===== -/
section S
variable {d n : Nat} {m : Nat → Nat → Int} {q : Nat → Nat → Option Nat} {w : Option (Nat → Int64)}
theorem C_106 (hd : 40 ≤ d) {x y z : Nat} (hx : iFan x) (hy : iLaw y) (hz : z ≤ 37) (h3 : m 103 3 = z) {M1 : Nat → Nat → Int} (h : gv (d - 2) rR105 17 [some (.ref 103), some (.ref x), some (.ref y), some (.int (iI ((0 : Nat) : Int))), some (.int (iI (z : Int))), some (.int (iI ((0 : Nat) : Int))), some (.int (iI (z : Int))), some (.int (iI ((0 : Nat) : Int))), some (.int (iI ((0 : Nat) : Int)))] [] (mk (wr (wr (wr m 103 4 0) 103 5 0) 103 6 0) q w) = vV (mk M1 q w)) : ev d 106 [.ref 103, .ref x, .ref y] (mk m q w) = vV (mk M1 q w) := by
  have e3 : wr (wr (wr m 103 4 0) 103 5 0) 103 6 0 103 3 = z := by
    rw [wr_b _ _ _ _ (by decide), wr_b _ _ _ _ (by decide), wr_b _ _ _ _ (by decide)]
    exact h3
  have hmin : (if iI (z : Int) < iI (z : Int) then (z : Int) else (z : Int)) = (z : Int) := ite_self _
  rw [e_106 (by omega) _ rfl rfl rfl, b_106_0 hx hy, e3, e_105 (by omega) _ rfl rfl rfl rfl rfl rfl, b_105_0 hx hy (by omega), e3, hmin, show d - 1 - 1 = d - 2 by omega]
  rw [show iI 0 = iI ((0 : Nat) : Int) from rfl, h]
  simp only [rBd_v, Option.toList_some, Option.toList_none, List.cons_append, List.nil_append, List.append_nil, b_106_27]
end S
theorem RR_end {m m2 : Nat → Nat → Int} {q q1 : Nat → Nat → Option Nat} (hR : RR m q) (hq : qk m m2) (hqq : ∀ i j, i = 100 ∨ i = 181 → q1 i j = q i j) (h1 : m2 101 1 = 0) (h2 : m2 363 2 = 0) (h5 : m2 101 5 = m2 363 8) (hs : gS m2) : RR m2 q1 := by
  obtain ⟨⟨z, ⟨t1, t2⟩, -⟩, ⟨n, r, k, e, hK⟩, -⟩ := id hR
  refine RR_gK (z := 0) hR (fun a a1 a2 a3 _ a5 a6 a7 a8 => hq.1 a a5 a2 a3) ?_ ⟨hq.2 24 (by omega), hq.2 42 (by omega)⟩ hqq ⟨⟨?_, ?_⟩, ⟨by omega, h1, h2⟩, h5⟩ (gK_q hq hK) hs
  · rw [qq_a hq (by omega)]
    exact ⟨rfl, rfl⟩
  · rw [qq_a hq (by omega), qq_a hq (a := 365) (by omega)]
    exact t1
  · rw [qq_a hq (by omega)]
    exact t2
section S
variable {d n : Nat} {m : Nat → Nat → Int} {q : Nat → Nat → Option Nat} {w : Option (Nat → Int64)}
set_option maxHeartbeats 2000000 in
theorem K_work {a : Int} (ha : i32 a) : cTH 119 215 [.int (iI a)] 1 := by
  intro m q w hR d hd
  have hRR := hR
  obtain ⟨⟨z, ⟨t1, t2⟩, ⟨t3, t4, t5⟩, t6⟩, ⟨n0, r0, k, h0, ⟨k1, k2⟩, ⟨kF, k7, k16, kB⟩, k29, k30, kh, k14, k52, kI⟩, ⟨y, y', l1, l2, l3, l4, l5, lz, l6, l7⟩, -, -, -, hS⟩ := hR
  have hy := law_rng l3
  have hT102 : isT (m 102) := by rw [t1]; exact t2
  have hn7 := kF.1.2.1
  have hC := C_119 (q := q) (w := w) (d := d) (m := m) (by omega) ha t3 t4 k16 k7 hT102
  by_cases hg : 0 ≤ a ∧ a ≤ 150 ∧ a ≤ z
  case neg =>
    rw [if_neg hg] at hC
    refine Or.inr ⟨0, 0, _, noX (wr m 100 17 (m 100 17 + 1)) 1 1, Or.inl rfl, hC, ?_, noX_0, RR_no0 hRR⟩
    rw [X_215o (z := z) (by omega) ha t3 (by rw [wr_o _ _ _ _ (by decide)]; exact t5), if_neg (by omega)]
  left
  rw [if_pos hg] at hC
  obtain ⟨n, rfl⟩ : ∃ n : Nat, a = n := ⟨a.toNat, by omega⟩
  have hn : n ≤ 150 := by omega
  by_cases hk : k < 16
  case neg =>
    -- no room for one more work
    have hk6 : k = 16 := by omega
    subst hk6
    rw [if_neg hk] at hC
    obtain ⟨m1, em1⟩ : ∃ m1, m1 = tr (wr (wr m 101 2 0) 101 1 0) (0, 0, -1) := ⟨_, rfl⟩
    have a1 : ∀ e, e ≠ 101 → m1 e = m e := by
      intro e h1
      rw [em1, tr_o h1, wr_o _ _ _ _ h1, wr_o _ _ _ _ h1]
    have a2 : m1 101 1 = 0 := by rw [em1, tr_1, wr_s]
    have a3 : m1 101 5 = -1 := by rw [em1, tr_5]; rfl
    rw [← em1] at hC
    clear em1
    have e363 := a1 363 (by decide)
    have hs0 : gx n (0, -1, m 363 6) := ⟨by show 0 ≤ n; omega, by show i32 (-1); omega⟩
    have hX : ev d 215 [.ref 363, .int (iI (n : Int))] (mk m1 q w) = vI (-20) (mk (mr (wr (bgX m1 (n : Int)) 363 8 (-1)) (0, -1, m 363 6)) q w) := by
      have e29 : mr (bgX m1 (n : Int)) (0, -1, m 363 6) 363 29 = 16 := by
        rw [mr_b _ _ (by decide) (by decide) (by decide), bgX_b (by decide) (by decide) (by decide) (by decide) (by decide), e363]
        exact k29
      rw [X_215o (z := z) (by omega) ha t3 (by rw [e363]; exact t5), if_pos (by omega), e363, b_215_45, e29, if_pos rfl, V_179 (by omega) hs0]
      simp only [rBd_v, Option.toList_some, Option.toList_none, List.cons_append, List.nil_append, List.append_nil, b_215_59]
    obtain ⟨m2, em2⟩ : ∃ m2, m2 = mr (wr (bgX m1 (n : Int)) 363 8 (-1)) (0, -1, m 363 6) := ⟨_, rfl⟩
    rw [← em2] at hX
    have eo : ∀ e, e ≠ 363 → m2 e = m1 e := by
      intro e h1
      rw [em2, mr_o _ _ h1, wr_o _ _ _ _ h1, bgX_o h1]
    have eb : ∀ j, j ≠ 4 → j ≠ 5 → j ≠ 6 → j ≠ 8 → m2 363 j = bgX m1 (n : Int) 363 j := by
      intro j h4 h5 h6 h8
      rw [em2, mr_b _ _ h4 h5 h6, wr_b _ _ _ _ h8]
    have e8 : m2 363 8 = -1 := by
      rw [em2, mr_b _ _ (by decide) (by decide) (by decide), wr_s]
    clear em2
    refine ⟨-20, m1, q, m2, hC, hX, by rw [eb 0 (by decide) (by decide) (by decide) (by decide), bgX_0], RR_end hRR ⟨fun e h1 h2 h3 => by rw [eo e h3, a1 e h2], fun j hj => ?_⟩ (fun _ _ _ => rfl) (by rw [eo 101 (by decide), a2]) (by rw [eb 2 (by decide) (by decide) (by decide) (by decide), bgX_2]) (by rw [eo 101 (by decide), a3, e8]) ?_⟩
    · rw [eb j (by omega) (by omega) (by omega) (by omega), bgX_b (by omega) (by omega) (by omega) (by omega) (by omega), e363]
    · unfold gS fB at *
      rw [eo (161 + 2) (by omega), eo 161 (by omega), a1 (161 + 2) (by omega), a1 161 (by omega)]
      exact hS
  rw [if_pos hk] at hC
  have hO : onT (wr m 101 2 (n : Int)) (m 102) n := ⟨wr_o _ _ _ _ (by decide), wr_s _ _ _ _, by omega, hT102⟩
  obtain ⟨s1, x1, K', N', Bh', W', z', k', c1, -, c2, ⟨g1, g2, g3, g4⟩, g5⟩ := J_work (T := m 102) (n := n) (ns := n0) hT102 hn (by omega) n (d - 3) (d - 1) 0 0 0 (q 104) (m 105) (m 106) (m 374) (0, 0, -1) (0, -1, m 363 6) (by omega) (by omega) (by omega) ⟨by show 0 ≤ n; omega, by show i32 0; omega⟩ ⟨by show 0 ≤ n; omega, by show i32 (-1); omega⟩ (Or.inl ⟨rfl, rfl, rfl⟩) rfl (by show n - 0 ≤ n; omega) (by show 4 * 0 ≤ 0; omega) (by show 2 * 0 ≤ 0; omega) (by omega)
  have c1' := c1 (wr m 101 2 (n : Int)) q w hO
  have hm8 : wr m 101 2 (n : Int) 108 0 = n0 := by
    rw [wr_o _ _ _ _ (by decide)]
    exact kF.1.1
  rw [show m 105 = wr m 101 2 (n : Int) 105 from (wr_o _ _ _ _ (by decide)).symm, show m 106 = wr m 101 2 (n : Int) 106 from (wr_o _ _ _ _ (by decide)).symm, show d - 3 = d - 1 - 2 by omega] at c1'
  rw [C_102 (T := m 102) (n := n) (d := d - 1) (by omega) hm8 c1'] at hC
  have gaN : gd n (aN (m 102) n s1) := aN_gd g1
  have r3 := rel_Fi (T := m 102) (n := n) g3
  have eaN : aFi (m 102) n (aN (m 102) n s1) = aFi (m 102) n s1 := by
    have := (aFi_aN (T := m 102) g1.1).1
    rw [ite_self] at this
    exact this
  rw [b_119_75, T_85 (by omega) (ww_on _ _ _ _ hO) gaN, eaN] at hC
  simp only [rBd_v, Option.toList_some, Option.toList_none, List.cons_append, List.nil_append, List.append_nil] at hC
  rw [b_119_82] at hC
  simp only [zb_0] at hC
  generalize hA : aFi (m 102) n s1 = sA at *
  have hfine : sA.2.1 = 0 → s1.2.1 = 0 := by
    intro h
    by_cases h9 : s1.2.1 = 0
    · exact h9
    · have := f_aFi (T := m 102) (n := n) h9
      rw [hA] at this
      rw [this] at h
      exact absurd h h9
  have hx9 := xFi_gx (T := m 102) (by omega : n ≤ 600) g2
  obtain ⟨q1, eq1⟩ : ∃ q1, q1 = row q 104 K' := ⟨_, rfl⟩
  have hq1 : ∀ i j, i = 100 ∨ i = 181 → q1 i j = q i j := by
    intro i j h
    rw [eq1, row_o _ _ _ (by omega)]
  have hq104 : q1 104 = K' := by rw [eq1, row_s]
  rw [← eq1] at hC
  clear eq1 c1 c1'
  -- the reference, as far as the text's end
  have hX : ∀ (m1 : Nat → Nat → Int), (∀ e, 363 ≤ e → m1 e = m e) → ev d 215 [.ref 363, .int (iI (n : Int))] (mk m1 q1 w) = gv (d - 1) rR215 89 [some (.ref 363), some (.int (iI (n : Int))), none, none] [] (mk (mr (wx (bgX m1 (n : Int)) W' k' 0) (xFi (m 102) n x1)) q1 w) := by
    intro m1 h1
    have e3 := h1 363 (by decide)
    have hOX : onX (bgX m1 (n : Int)) (m 102) n := ⟨by rw [bgX_o (by decide), h1 365 (by decide), t1], bgX_3, by omega, hT102⟩
    have h15 : bgX m1 (n : Int) 363 15 = n0 := by
      rw [bgX_b (by decide) (by decide) (by decide) (by decide) (by decide), e3]
      exact k1
    have e29 : mr (bgX m1 (n : Int)) (0, -1, m 363 6) 363 29 = k := by
      rw [mr_b _ _ (by decide) (by decide) (by decide), bgX_b (by decide) (by decide) (by decide) (by decide) (by decide), e3]
      exact k29
    rw [X_215o (z := z) (by omega) ha t3 (by rw [e3]; exact t5), if_pos (by omega), e3, b_215_45, e29, if_neg (by rw [iI_eq (by omega) (by omega)]; omega), mr_wi (by decide) (by decide) (by decide), bg_wx, h1 374 (by decide)]
    refine (c2 (bgX m1 (n : Int)) q1 w _ _ _ hOX h15).trans ?_
    refine X_68 (by omega) (wx_on _ _ _ _ hOX) g2 (fun h9 hl => ?_)
    have s0 := (rel_fine g3).mpr h9
    rw [rel_at g3 s0] at hl
    exact (g5 s0).2 ⟨s0, hl⟩
  clear c2
  by_cases hf : sA.2.1 = 0
  · have hx := (rel_fine r3).mp hf
    obtain ⟨w1, -, w3, w4, -, gq, w6⟩ := g4 (hfine hf)
    subst w1
    have hn1 := g1.1
    have hz37 : z' ≤ 37 := by
      have : 4 * z' + 0 ≤ 4 * 0 + s1.1 := w3
      omega
    rw [if_pos (not_not_intro hf)] at hC
    have hM27 : tr (wr (ww (wr m 101 2 (n : Int)) N' Bh' z') 101 1 0) sA 107 2 = k := by
      rw [tr_o (by decide), wr_o _ _ _ _ (by decide), ww_o _ _ _ _ (by decide) (by decide) (by decide), wr_o _ _ _ _ (by decide)]
      exact k7
    rw [T_61 (by omega) hk hM27] at hC
    simp only [rBd_v, Option.toList_some, Option.toList_none, List.cons_append, List.nil_append, List.append_nil] at hC
    obtain ⟨M3, eM3⟩ : ∃ M3, M3 = wr (bc (tr (wr (ww (wr m 101 2 (n : Int)) N' Bh' z') 101 1 0) sA) (112 + 3 * k) 108) 107 2 ((k + 1 : Nat) : Int) := ⟨_, rfl⟩
    rw [← eM3] at hC
    have hbase : ∀ e, e ≠ 101 → e ≠ 103 → e ≠ 105 → e ≠ 106 → tr (wr (ww (wr m 101 2 (n : Int)) N' Bh' z') 101 1 0) sA e = m e := by
      intro e h1 h2 h3 h4
      rw [tr_o h1, wr_o _ _ _ _ h1, ww_o _ _ _ _ h2 h3 h4, wr_o _ _ _ _ h1]
    have F1 : ∀ e, e ≠ 101 → e ≠ 103 → e ≠ 105 → e ≠ 106 → e ≠ 107 → e ≠ 112 + 3 * k → e ≠ 113 + 3 * k → e ≠ 114 + 3 * k → M3 e = m e := by
      intro e h1 h2 h3 h4 h5 h6 h7 h8
      rw [eM3, wr_o _ _ _ _ h5, bc_o _ h6 (by omega) (by omega), hbase e h1 h2 h3 h4]
    have F2 : M3 103 3 = z' ∧ M3 105 = N' ∧ M3 106 = Bh' := by
      rw [eM3]
      refine ⟨?_, ?_, ?_⟩
      · rw [wr_o _ _ _ _ (by decide), bc_o _ (by omega) (by omega) (by omega), tr_o (by decide), wr_o _ _ _ _ (by decide), ww_3]
      · rw [wr_o _ _ _ _ (by decide), bc_o _ (by omega) (by omega) (by omega), tr_o (by decide), wr_o _ _ _ _ (by decide), ww_105]
      · rw [wr_o _ _ _ _ (by decide), bc_o _ (by omega) (by omega) (by omega), tr_o (by decide), wr_o _ _ _ _ (by decide), ww_106]
    have F3 : M3 107 2 = ((k + 1 : Nat) : Int) := by rw [eM3, wr_s]
    have F4 : (∀ j, j < 9 → M3 (112 + 3 * k) j = m 108 j) ∧ (∀ j, j < 7 → M3 (112 + 3 * k + 1) j = m 109 j) ∧ (∀ j, j < 28 → M3 (112 + 3 * k + 2) j = m 110 j) := by
      rw [eM3]
      refine ⟨fun j hj => ?_, fun j hj => ?_, fun j hj => ?_⟩
      · rw [wr_o _ _ _ _ (by omega), bc_0 _ hj, hbase 108 (by decide) (by decide) (by decide) (by decide)]
      · rw [wr_o _ _ _ _ (by omega), bc_1 _ hj, hbase 109 (by decide) (by decide) (by decide) (by decide)]
      · rw [wr_o _ _ _ _ (by omega), bc_2 _ hj, hbase 110 (by decide) (by decide) (by decide) (by decide)]
    have F5 : M3 101 1 = 0 ∧ M3 101 5 = -1 := by
      rw [eM3]
      refine ⟨?_, ?_⟩
      · rw [wr_o _ _ _ _ (by decide), bc_o _ (by omega) (by omega) (by omega), tr_1, wr_s]
      · rw [wr_o _ _ _ _ (by decide), bc_o _ (by omega) (by omega) (by omega), tr_5, if_pos hf]
    clear eM3 hM27 hbase
    obtain ⟨M4, eM4⟩ : ∃ M4, M4 = wr (wr (wr M3 103 4 0) 103 5 0) 103 6 0 := ⟨_, rfl⟩
    have H1 : ∀ e, e ≠ 103 → M4 e = M3 e := by
      intro e h1
      rw [eM4, wr_o _ _ _ _ h1, wr_o _ _ _ _ h1, wr_o _ _ _ _ h1]
    have H2 : M4 103 3 = z' ∧ M4 103 4 = 0 ∧ M4 103 5 = 0 ∧ M4 103 6 = 0 := by
      rw [eM4]
      refine ⟨?_, ?_, ?_, wr_s _ _ _ _⟩
      · rw [wr_b _ _ _ _ (by decide), wr_b _ _ _ _ (by decide), wr_b _ _ _ _ (by decide)]
        exact F2.1
      · rw [wr_b _ _ _ _ (by decide), wr_b _ _ _ _ (by decide), wr_s]
      · rw [wr_b _ _ _ _ (by decide), wr_s]
    obtain ⟨W, eW⟩ : ∃ W : Nat → Int, W = fun i => if i < 4 * z' then W' i else m 375 i := ⟨_, rfl⟩
    have hWv : ∀ i, i < 4 * z' → W i = W' i := by
      intro i hi
      rw [eW]
      exact if_pos hi
    have hok : ∀ i, i < z' → okP n0 K' N' Bh' W i := fun i hi => okP_agr (z := z') (fun i hi => ⟨rfl, rfl, rfl, rfl, rfl, hWv _ (by omega), hWv _ (by omega), hWv _ (by omega), hWv _ (by omega)⟩) hi (w4 i (Nat.zero_le _) hi)
    obtain ⟨G, eG⟩ : ∃ G : Nat → Int, G = fun j => if j < 48 then m 376 j else m 377 j := ⟨_, rfl⟩
    have hJ := J_do (n := n0) (r := r0) (x := 108) (y := y) (z := lz) (sz := z') (C := m (y + 1)) (N := N') (Bh := Bh') (W := W) (K := K') f108 hz37 hok gq (d - 1 - 2) 0 z' 0 0 (some (.int (iI ((0 : Nat) : Int)))) (some (.int (iI (z' : Int)))) w6 (Nat.le_refl _) (by omega) (by omega) (by omega)
    have h108 : M4 108 = m 108 ∧ M4 109 = m 109 ∧ M4 110 = m 110 := ⟨(H1 108 (by decide)).trans (F1 108 (by decide) (by decide) (by decide) (by decide) (by decide) (by omega) (by omega) (by omega)), (H1 109 (by decide)).trans (F1 109 (by decide) (by decide) (by decide) (by decide) (by decide) (by omega) (by omega) (by omega)), (H1 110 (by decide)).trans (F1 110 (by decide) (by decide) (by decide) (by decide) (by decide) (by omega) (by omega) (by omega))⟩
    have hFG : fnR n0 r0 400 (M4 108) (M4 (108 + 1)) (M4 (108 + 2)) G := by
      rw [h108.1, show M4 (108 + 1) = m 109 from h108.2.1, show M4 (108 + 2) = m 110 from h108.2.2]
      refine fnR_congr (fun _ _ => rfl) (fun _ _ => rfl) (fun _ _ => rfl) (fun j hj => ?_) kF
      rw [eG]
      exact if_pos hj
    obtain ⟨m9, G1, bg, dn, rf, j1, j2, j3, j4, j5, j6⟩ := hJ M4 q1 w G 0 0 0 ⟨l3, l7.1, by rw [H1 _ (by omega), F1 _ (by omega) (by omega) (by omega) (by omega) (by omega) (by omega) (by omega) (by omega)], by rw [H1 _ (by omega), F1 _ (by omega) (by omega) (by omega) (by omega) (by omega) (by omega) (by omega) (by omega)]; exact l6, H2.1, (H1 105 (by decide)).trans F2.2.1, (H1 106 (by decide)).trans F2.2.2, hq104⟩ hFG ⟨H2.2.1, H2.2.2.1, H2.2.2.2⟩ (by omega) (by omega) (by omega)
    dsimp only at j1 j6
    rw [eM4] at j1
    rw [b_119_100, hq1 100 9 (Or.inl rfl), l1] at hC
    replace hC := hC.trans (b_119_115 l3)
    rw [C_106 (d := d - 1) (by omega) f108 l3 hz37 F2.1 j1] at hC
    simp only [rBd_v, Option.toList_some, Option.toList_none, List.cons_append, List.nil_append, List.append_nil] at hC
    rw [b_119_118, wr_o _ _ _ _ (show 103 ≠ 100 by decide), j4.2.1, j4.2.2] at hC
    clear hJ j1 eM4
    obtain ⟨m1, em1⟩ : ∃ m1, m1 = wr m9 100 15 (rf : Int) := ⟨_, rfl⟩
    rw [← em1] at hC
    have A1 : ∀ e, e ≠ 100 → e ≠ 101 → e ≠ 107 → (e < 103 ∨ (114 + 3 * k < e ∧ e < 184) ∨ e = 186 ∨ e = 187 ∨ 189 < e ∨ (110 < e ∧ e < 112 + 3 * k)) → m1 e = m e := by
      intro e h1 h2 h3 h4
      rw [em1, wr_o _ _ _ _ h1, j2.1 e (by omega) (by omega) (by omega) (by omega) (by omega) (by omega) (by omega) (by omega), H1 e (by omega), F1 e h2 (by omega) (by omega) (by omega) h3 (by omega) (by omega) (by omega)]
    have A9 : ∀ e, e ≠ 100 → e ≠ 103 → (e = 101 ∨ e = 107 ∨ (112 + 3 * k ≤ e ∧ e ≤ 114 + 3 * k)) → m1 e = M3 e := by
      intro e h1 h2 h4
      rw [em1, wr_o _ _ _ _ h1, j2.1 e (by omega) (by omega) (by omega) (by omega) (by omega) (by omega) (by omega) (by omega), H1 e h2]
    have A100 : ∀ j, j ≠ 15 → m1 100 j = m 100 j := by
      intro j hj
      rw [em1, wr_b _ _ _ _ hj, j2.1 100 (by omega) (by omega) (by omega) (by omega) (by omega) (by omega) (by omega) (by omega), H1 100 (by omega), F1 100 (by omega) (by omega) (by omega) (by omega) (by omega) (by omega) (by omega) (by omega)]
    have A15 : m1 100 15 = rf := by rw [em1, wr_s]
    have A108 : m1 108 = m9 108 ∧ m1 109 = m9 109 ∧ m1 110 = m9 110 := by
      rw [em1]
      exact ⟨wr_o _ _ _ _ (by decide), wr_o _ _ _ _ (by decide), wr_o _ _ _ _ (by decide)⟩
    clear em1 j2 H1 H2 F1 F2
    have hm363 : ∀ e, 363 ≤ e → m1 e = m e := fun e he => A1 e (by omega) (by omega) (by omega) (by omega)
    have e363 := hm363 363 (by decide)
    have hX1 := hX m1 hm363
    obtain ⟨M', u2', u3', y1, y2, y3, ⟨y4, y5, y6, y7, y8⟩, y9, y10, y11, y12⟩ := X_215m (q := q1) (w := w) (d := d - 1) (M := wx (bgX m1 (n : Int)) W' (4 * z') 0) (xs := xFi (m 102) n x1) (n := n) (u1 := some (.int (iI (n : Int)))) (u2 := none) (u3 := none) (k := k) (k' := 4 * z') (by omega) hk (by omega) hx9 hx (wx_28 _ _ _ _) (by rw [wx_b _ _ _ _ (by decide) (by decide), bgX_b (by decide) (by decide) (by decide) (by decide) (by decide), e363]; exact k29)
    have B1 : ∀ e, 363 < e → e ≠ 374 → wx (bgX m1 (n : Int)) W' (4 * z') 0 e = m e := by
      intro e h1 h2
      rw [wx_o _ _ _ _ (by omega) h2, bgX_o (by omega), hm363 e (by omega)]
    have B3 : ∀ j, j ≠ 28 → j ≠ 0 → j ≠ 2 → j ≠ 8 → j ≠ 3 → j ≠ 7 → wx (bgX m1 (n : Int)) W' (4 * z') 0 363 j = m 363 j := by
      intro j h28 h0 h2 h8 h3 h7
      rw [wx_b _ _ _ _ h28 h7, bgX_b h0 h2 h8 h3 h7, e363]
    have hG : M' 377 = G := by
      rw [y10, eG, B1 376 (by decide) (by decide), B1 377 (by decide) (by decide)]
    have hW : M' 375 = W := by
      rw [y9, eW, wx_374, B1 375 (by decide) (by decide)]
    have hxI : xI n0 r0 lz (m (y + 1)) W M' := by
      refine ⟨⟨?_, ?_, ?_⟩, hW⟩
      · rw [y3 15 (by decide) (by decide) (by decide) (by decide) (by decide) (by decide) (by decide) (by decide), B3 15 (by decide) (by decide) (by decide) (by decide) (by decide) (by decide)]
        exact k1
      · rw [y3 16 (by decide) (by decide) (by decide) (by decide) (by decide) (by decide) (by decide) (by decide), B3 16 (by decide) (by decide) (by decide) (by decide) (by decide) (by decide)]
        exact k2
      · rw [y2 370 (by decide) (by decide) (by decide) (by decide), y2 371 (by decide) (by decide) (by decide) (by decide), B1 370 (by decide) (by decide), B1 371 (by decide) (by decide), y3 24 (by decide) (by decide) (by decide) (by decide) (by decide) (by decide) (by decide) (by decide), B3 24 (by decide) (by decide) (by decide) (by decide) (by decide) (by decide)]
        exact l7
    obtain ⟨m8, v1, v2, v3, v4⟩ := j6 (d - 1 - 1) (by omega) M' q1 w (some (.int (iI 0))) none none hG hxI ⟨y6, y7, y8⟩
    obtain ⟨m2, z1, z2, z3, z4, z5⟩ := X_193 (m := m8) (q := q1) (w := w) (d := d - 1) (u1 := some (.int (iI (n : Int)))) (u2 := u2') (u3 := u3') (by omega)
    have h214 : ev (d - 1) 214 [.ref 363, .int (iI 0), .int (iI ((4 * z' : Nat) : Int))] (mk M' q1 w) = vV (mk m8 q1 w) := by
      rw [e_214 (by omega) _ rfl rfl rfl, b_214_0]
      exact v1
    have hXf : ev d 215 [.ref 363, .int (iI (n : Int))] (mk m1 q1 w) = vI dn (mk m2 q1 w) := by
      rw [hX1, y1, h214]
      simp only [rBd_v, Option.toList_some, Option.toList_none, List.cons_append, List.nil_append, List.append_nil]
      rw [z1, v3.2.1]
    clear hX hX1 h214 v1 y1 j6 z1
    -- where the reference ends
    have D1 : ∀ e, e ≠ 363 → e ≠ 372 → e ≠ 373 → e ≠ 374 → e ≠ 375 → e ≠ 376 → e ≠ 377 → e ≠ 378 → m2 e = m1 e := by
      intro e h1 h2 h3 h4 h5 h6 h7 h8
      rw [z2 e h1 h6, v4.1 e h7 h2 h3 h1, y2 e h1 h5 h7 h8, wx_o _ _ _ _ h1 h4, bgX_o h1]
    have D3 : ∀ j, j ≠ 4 → j ≠ 5 → j ≠ 6 → j ≠ 8 → j ≠ 29 → j ≠ 30 → j ≠ 31 → j ≠ 32 → j ≠ 33 → m2 363 j = wx (bgX m1 (n : Int)) W' (4 * z') 0 363 j := by
      intro j h4 h5 h6 h8 h29 h30 h31 h32 h33
      rw [z3 j h30, v4.2 j h31 h32 h33, y3 j h4 h5 h6 h8 h29 h31 h32 h33]
    have D8 : m2 363 8 = -1 := by rw [z3 8 (by decide), v4.2 8 (by decide) (by decide) (by decide), y4]
    have D29 : m2 363 29 = ((k + 1 : Nat) : Int) := by rw [z3 29 (by decide), v4.2 29 (by decide) (by decide) (by decide), y5]
    have D30 : m2 363 30 = rf := by rw [z4, v3.2.2]
    have D376 : ∀ j, j < 48 → m2 376 j = G1 j := by
      intro j hj
      rw [z5 j hj, v2]
    have D378 : (∀ j, j < 48 → m2 378 (48 * k + j) = m 376 j) ∧ (∀ j, j < 48 * k → m2 378 j = m 378 j) := by
      have e0 : m2 378 = M' 378 := by rw [z2 378 (by decide) (by decide), v4.1 378 (by decide) (by decide) (by decide) (by decide)]
      rw [e0]
      exact ⟨fun j hj => by rw [y11 j hj, B1 376 (by decide) (by decide)], fun j hj => by rw [y12 j hj, B1 378 (by decide) (by decide)]⟩
    have D0 : m2 363 0 = 0 := by
      rw [D3 0 (by decide) (by decide) (by decide) (by decide) (by decide) (by decide) (by decide) (by decide) (by decide), wx_b _ _ _ _ (by decide) (by decide), bgX_0]
    have D2 : m2 363 2 = 0 := by
      rw [D3 2 (by decide) (by decide) (by decide) (by decide) (by decide) (by decide) (by decide) (by decide) (by decide), wx_b _ _ _ _ (by decide) (by decide), bgX_2]
    have DB : ∀ j, j = 15 ∨ j = 16 ∨ j = 24 ∨ j = 42 ∨ j = 52 → m2 363 j = m 363 j := by
      intro j hj
      rw [D3 j (by omega) (by omega) (by omega) (by omega) (by omega) (by omega) (by omega) (by omega) (by omega), B3 j (by omega) (by omega) (by omega) (by omega) (by omega) (by omega)]
    clear y2 y3 y4 y5 y6 y7 y8 y9 y10 y11 y12 v2 v3 v4 z2 z3 z4 z5 hxI hG hW B1 B3 D3 eG eW
    have E1 : ∀ e, e ≠ 100 → e ≠ 101 → e ≠ 107 → (e < 103 ∨ (114 + 3 * k < e ∧ e < 184) ∨ e = 186 ∨ e = 187 ∨ (189 < e ∧ e < 363) ∨ (110 < e ∧ e < 112 + 3 * k) ∨ e = 364 ∨ e = 365 ∨ e = 370 ∨ e = 371 ∨ 378 < e) → m2 e = m e := by
      intro e h1 h2 h3 h4
      rw [D1 e (by omega) (by omega) (by omega) (by omega) (by omega) (by omega) (by omega) (by omega), A1 e h1 h2 h3 (by omega)]
    refine ⟨dn, m1, q1, m2, hC, hXf, D0, ?_⟩
    have E100 : m2 100 = m1 100 := D1 100 (by decide) (by decide) (by decide) (by decide) (by decide) (by decide) (by decide) (by decide)
    refine RR_gK (n := n0) (r := r0) (k := k + 1) (e := h0) (z := 0) hRR (fun e h1 h2 h3 h4 h5 h6 h7 h8 => ?_) ⟨by rw [E100, A100 16 (by decide)], by rw [E100, A100 17 (by decide)]⟩ ⟨DB 24 (by omega), DB 42 (by omega)⟩ hq1 ⟨⟨?_, ?_⟩, ⟨by omega, ?_, D2⟩, ?_⟩ ⟨⟨by rw [DB 15 (by omega)]; exact k1, by rw [DB 16 (by omega)]; exact k2⟩, ⟨?_, ?_, by omega, ?_⟩, D29, by rw [E100, A15, D30], kh, by rw [E100, A100 14 (by decide)]; exact k14, by rw [DB 52 (by omega)]; exact k52, fun i hi => ?_⟩ ?_
    · unfold scr at h5
      exact E1 e h1 h2 (by omega) (by omega)
    · rw [E1 102 (by omega) (by omega) (by omega) (by omega), E1 365 (by omega) (by omega) (by omega) (by omega)]
      exact t1
    · rw [E1 365 (by omega) (by omega) (by omega) (by omega)]
      exact t2
    · rw [D1 101 (by decide) (by decide) (by decide) (by decide) (by decide) (by decide) (by decide) (by decide), A9 101 (by decide) (by decide) (by omega), F5.1]
      rfl
    · rw [D1 101 (by decide) (by decide) (by decide) (by decide) (by decide) (by decide) (by decide) (by decide), A9 101 (by decide) (by decide) (by omega), F5.2, D8]
    · show fnR n0 r0 400 (m2 108) (m2 109) (m2 110) (m2 376)
      rw [D1 108 (by decide) (by decide) (by decide) (by decide) (by decide) (by decide) (by decide) (by decide), D1 109 (by decide) (by decide) (by decide) (by decide) (by decide) (by decide) (by decide) (by decide), D1 110 (by decide) (by decide) (by decide) (by decide) (by decide) (by decide) (by decide) (by decide), A108.1, A108.2.1, A108.2.2]
      exact fnR_congr (fun _ _ => rfl) (fun _ _ => rfl) (fun _ _ => rfl) D376 j3
    · rw [D1 107 (by decide) (by decide) (by decide) (by decide) (by decide) (by decide) (by decide) (by decide), A9 107 (by decide) (by decide) (by omega), F3]
    · intro i hi
      show fnR n0 r0 400 (m2 (112 + 3 * i)) (m2 (113 + 3 * i)) (m2 (114 + 3 * i)) (fun j => m2 378 (48 * i + j))
      by_cases hik : i = k
      · subst hik
        have e1 : ∀ e, 112 + 3 * i ≤ e → e ≤ 114 + 3 * i → m2 e = M3 e := by
          intro e h1 h2
          rw [D1 e (by omega) (by omega) (by omega) (by omega) (by omega) (by omega) (by omega) (by omega), A9 e (by omega) (by omega) (by omega)]
        rw [e1 (112 + 3 * i) (by omega) (by omega), e1 (113 + 3 * i) (by omega) (by omega), e1 (114 + 3 * i) (by omega) (by omega)]
        exact fnR_congr F4.1 (fun j hj => by rw [show 113 + 3 * i = 112 + 3 * i + 1 by omega]; exact F4.2.1 j hj) (fun j hj => by rw [show 114 + 3 * i = 112 + 3 * i + 2 by omega]; exact F4.2.2 j hj) D378.1 kF
      · rw [E1 (112 + 3 * i) (by omega) (by omega) (by omega) (by omega), E1 (113 + 3 * i) (by omega) (by omega) (by omega) (by omega), E1 (114 + 3 * i) (by omega) (by omega) (by omega) (by omega)]
        exact fnR_congr (fun _ _ => rfl) (fun _ _ => rfl) (fun _ _ => rfl) (fun j hj => D378.2 (48 * i + j) (by omega)) (kB i (by omega))
    · obtain ⟨e9, e1, e2⟩ := kI i hi
      rw [E1 390 (by omega) (by omega) (by omega) (by omega)]
      exact ⟨e9, kpR_q (fun e h1 h2 => E1 e (by omega) (by omega) (by omega) (by omega)) rfl rfl e1, e2⟩
    · unfold gS fB at *
      rw [E1 (161 + 2) (by omega) (by omega) (by omega) (by omega), E1 161 (by omega) (by omega) (by omega) (by omega)]
      exact hS
  · have hx := rel_nf r3 hf
    rw [if_neg (fun z => z hf), T_86 (by omega)] at hC
    simp only [rBd_v, Option.toList_some, Option.toList_none, List.cons_append, List.nil_append, List.append_nil] at hC
    rw [b_119_92] at hC
    obtain ⟨m1, em1⟩ : ∃ m1, m1 = tr (wr (ww (wr m 101 2 (n : Int)) N' Bh' z') 101 1 0) sA := ⟨_, rfl⟩
    have a1 : ∀ e, e ≠ 101 → e ≠ 103 → e ≠ 105 → e ≠ 106 → m1 e = m e := by
      intro e h1 h2 h3 h4
      rw [em1, tr_o h1, wr_o _ _ _ _ h1, ww_o _ _ _ _ h2 h3 h4, wr_o _ _ _ _ h1]
    have a2 : m1 101 1 = 0 := by rw [em1, tr_1, wr_s]
    have a3 : m1 101 5 = sA.2.2 := by rw [em1, tr_5, if_neg hf]
    rw [← em1] at hC
    clear em1
    have hX1 := hX m1 (fun e he => a1 e (by omega) (by omega) (by omega) (by omega))
    rw [X_215f (by omega) hx9 hx] at hX1
    obtain ⟨m2, em2⟩ : ∃ m2, m2 = mr (wr (wx (bgX m1 (n : Int)) W' k' 0) 363 8 (xFi (m 102) n x1).2.1) (xFi (m 102) n x1) := ⟨_, rfl⟩
    rw [← em2] at hX1
    rcases r3 with ⟨o1, -, -⟩ | ⟨-, -, o3, o4⟩
    · exact absurd o1 hf
    have eo : ∀ e, e ≠ 363 → e ≠ 374 → m2 e = m1 e := by
      intro e h1 h2
      rw [em2, mr_o _ _ h1, wr_o _ _ _ _ h1, wx_o _ _ _ _ h1 h2, bgX_o h1]
    have eb : ∀ j, j ≠ 4 → j ≠ 5 → j ≠ 6 → j ≠ 8 → j ≠ 28 → j ≠ 7 → m2 363 j = bgX m1 (n : Int) 363 j := by
      intro j h4 h5 h6 h8 h28 h7
      rw [em2, mr_b _ _ h4 h5 h6, wr_b _ _ _ _ h8, wx_b _ _ _ _ h28 h7]
    have e8 : m2 363 8 = (xFi (m 102) n x1).2.1 := by
      rw [em2, mr_b _ _ (by decide) (by decide) (by decide), wr_s]
    clear em2
    refine ⟨sA.2.1 - 10, m1, q1, m2, hC, by rw [hX1, o4], by rw [eb 0 (by decide) (by decide) (by decide) (by decide) (by decide) (by decide), bgX_0], RR_end hRR ⟨fun e h1 h2 h3 => ?_, fun j hj => ?_⟩ hq1 (by rw [eo 101 (by decide) (by decide), a2]) (by rw [eb 2 (by decide) (by decide) (by decide) (by decide) (by decide) (by decide), bgX_2]) (by rw [eo 101 (by decide) (by decide), a3, e8, o3]) ?_⟩
    · unfold scr at h1
      rw [eo e h3 (by omega), a1 e h2 (by omega) (by omega) (by omega)]
    · rw [eb j (by omega) (by omega) (by omega) (by omega) (by omega) (by omega), bgX_b (by omega) (by omega) (by omega) (by omega) (by omega), a1 363 (by omega) (by omega) (by omega) (by omega)]
    · unfold gS fB at *
      rw [eo (161 + 2) (by omega) (by omega), eo 161 (by omega) (by omega), a1 (161 + 2) (by omega) (by omega) (by omega) (by omega), a1 161 (by omega) (by omega) (by omega) (by omega)]
      exact hS
end S
