/-! ===== a work is read by both: loops ===== -/
theorem agr_refl {z : Nat} {K : Nat → Option Nat} {N Bh W : Nat → Int} : agr z K N Bh W K N Bh W := fun _ _ => ⟨rfl, rfl, rfl, rfl, rfl, rfl, rfl, rfl, rfl⟩
section J
variable {T : Nat → Int} {n ns g : Nat}
set_option maxHeartbeats 4000000 in
theorem J_loop (hT : isT T) (hn : n ≤ 150) (hU : PS T n ns g) : PL T n ns g := by
  intro d dx op z i K N Bh W s x hop hd hdx hs hx hr h0 hg hz hi hi150
  have key : ∀ (h z i : Nat) (K : Nat → Option Nat) (N Bh W : Nat → Int) (s x : rd), gd n s → gx n x → rel s x → s.2.1 = 0 → n - s.1 ≤ h → h ≤ g → 4 * z ≤ s.1 → 2 * i ≤ s.1 → ∃ (s1 x1 : rd) (K' : Nat → Option Nat) (N' Bh' W' : Nat → Int) (z' k' : Nat),
    (∀ (m : Nat → Nat → Int) (q : Nat → Nat → Option Nat) (w : Option (Nat → Int64)), onT m T n → gv d rR101 3 [some (.ref 103), some (.ref 101), some (.int (iI ns)), some (.int (iI op)), some (.int (iI i))] [] (mk (tr (ww m N Bh z) s) (row q 104 K) w) = vV (mk (tr (ww m N' Bh' z') (aN T n s1)) (row q 104 K') w)) ∧
    (∀ (m : Nat → Nat → Int) (q : Nat → Nat → Option Nat) (w : Option (Nat → Int64)) (a : Option Value) (b : Int), onX m T n → m 363 15 = ns → gv dx rR198 33 [some (.ref 363), a, some (.int (iI b))] [] (mk (mr (wx m W (4 * z) op) x) q w) = gv dx rR198 33 [some (.ref 363), a, some (.int (iI b))] [] (mk (mr (wx m W' k' op) x1) q w)) ∧
    (∀ (m : Nat → Nat → Int) (q : Nat → Nat → Option Nat) (w : Option (Nat → Int64)) (a b c : Option Value), onX m T n → m 363 15 = ns → gv dx rR215 68 [some (.ref 363), a, b, c] [] (mk (mr (wx m W (4 * z) op) x) q w) = gv dx rR215 68 [some (.ref 363), a, b, c] [] (mk (mr (wx m W' k' op) x1) q w)) ∧
    resW n ns z op s K N Bh W s1 x1 K' N' Bh' W' z' k' ∧ (s1.2.1 = 0 → s.1 ≤ s1.1 ∧ ¬ aOn T n 97 122 s1) := by
    intro h
    induction h using Nat.strongRecOn with
    | _ h ih =>
      intro z i K N Bh W s x hs hx hr h0 hg hhg hz hi
      have hx0 := (rel_fine hr).mp h0
      have hxp := rel_at hr h0
      have hsk := skip_le T hs.1
      have hsn := hs.1
      have hv0 := hv_i T n (skip T n s.1) hT
      have hi9 : i < 150 := by omega
      have eN : aN T n s = (skip T n s.1, s.2) := by
        unfold aN
        rw [if_pos h0]
      have hk := skip_fix T (n := n) hs.1
      by_cases hlet : aOn T n 97 122 s
      · have hle : 97 ≤ hv T n (skip T n s.1) := ((hv_on (T := T) (n := n) (p := skip T n s.1) (a := 97) (b := 122) (by omega)).mp hlet.2).1
        have hlt : skip T n s.1 < n := hlet.2.1
        have hs0 : gd n (skip T n s.1, s.2) := ⟨hsk.2, hs.2⟩
        have hx00 : gx n (skip T n s.1, x.2) := ⟨hsk.2, hx.2⟩
        have hlet2 : aOn T n 97 122 (skip T n s.1, s.2) := ⟨h0, by show aF T n (skip T n (skip T n s.1)) 97 122; rw [hk]; exact hlet.2⟩
        obtain ⟨s1, x', K1, N1, Bh1, W1, z1, k1, c1, y1, g1, ⟨g2, gx2, r2, w2⟩, p2⟩ := hU d dx op z K N Bh W (skip T n s.1, s.2) (skip T n s.1, x.2) hop hd hdx hs0 hx00 (rel_go hr h0) h0 (by show n - skip T n s.1 ≤ g; omega) (by show 4 * z ≤ skip T n s.1; omega) hlet2
        obtain ⟨s2, e2⟩ : ∃ s2 : rd, s2 = aEx T n 59 s1 := ⟨_, rfl⟩
        rw [← e2] at g2 r2 w2 p2
        have cS : ∀ (m : Nat → Nat → Int) (q : Nat → Nat → Option Nat) (w : Option (Nat → Int64)), onT m T n → gv d rR101 3 [some (.ref 103), some (.ref 101), some (.int (iI ns)), some (.int (iI op)), some (.int (iI i))] [] (mk (tr (ww m N Bh z) s) (row q 104 K) w) = gv d rR101 3 [some (.ref 103), some (.ref 101), some (.int (iI ns)), some (.int (iI op)), some (.int (iI ((i + 1 : Nat) : Int)))] [] (mk (tr (ww m N1 Bh1 z1) s2) (row q 104 K1) w) := by
          intro m q w h
          rw [b_101_3, if_pos (by rw [iI_lt (by omega) (by omega)]; omega), U_26 (by omega) (ww_on _ _ _ _ h) hs, eN]
          simp only [rBd_v, Option.toList_some, Option.toList_none, List.cons_append, List.nil_append, List.append_nil, b_101_15, zb_0]
          rw [if_neg (not_not_intro hlet), c1 m q w h]
          simp only [rBd_v, Option.toList_some, Option.toList_none, List.cons_append, List.nil_append, List.append_nil, b_101_25]
          rw [U_9 (by omega) (ww_on _ _ _ _ h) g1 (by omega), ← e2]
          simp only [rBd_v, Option.toList_some, Option.toList_none, List.cons_append, List.nil_append, List.append_nil, b_101_31]
          rfl
        have yI : ∀ (m : Nat → Nat → Int) (q : Nat → Nat → Option Nat) (w : Option (Nat → Int64)) (a : Option Value) (b : Int), onX m T n → m 363 15 = ns → gv dx rR198 33 [some (.ref 363), a, some (.int (iI b))] [] (mk (mr (wx m W (4 * z) op) x) q w) = gv dx rR198 33 [some (.ref 363), a, some (.int (iI b))] [] (mk (mr (wx m W1 k1 op) x') q w) := by
          intro m q w a b h h15
          rw [b_198_33, V_167 (by omega) hx]
          simp only [rBd_v, Option.toList_some, Option.toList_none, List.cons_append, List.nil_append, List.append_nil, b_198_37, zb_0]
          rw [if_neg (not_not_intro hx0), V_169 (by omega) (wx_on _ _ _ _ h) hx, hxp]
          simp only [rBd_v, Option.toList_some, Option.toList_none, List.cons_append, List.nil_append, List.append_nil, b_198_44]
          rw [if_neg (by rw [iI_eq (by omega) (by omega)]; omega), y1 m q w h h15]
          simp only [rBd_v, Option.toList_some, Option.toList_none, List.cons_append, List.nil_append, List.append_nil, b_198_53]
        have yT : ∀ (m : Nat → Nat → Int) (q : Nat → Nat → Option Nat) (w : Option (Nat → Int64)) (a b c : Option Value), onX m T n → m 363 15 = ns → gv dx rR215 68 [some (.ref 363), a, b, c] [] (mk (mr (wx m W (4 * z) op) x) q w) = gv dx rR215 68 [some (.ref 363), a, b, c] [] (mk (mr (wx m W1 k1 op) x') q w) := by
          intro m q w a b c h h15
          rw [b_215_68, V_167 (by omega) hx]
          simp only [rBd_v, Option.toList_some, Option.toList_none, List.cons_append, List.nil_append, List.append_nil, b_215_72, zb_0]
          rw [if_neg (not_not_intro hx0), V_177 (by omega) (wx_on _ _ _ _ h) hx, hxp]
          simp only [rBd_v, Option.toList_some, Option.toList_none, List.cons_append, List.nil_append, List.append_nil, b_215_79, zb_0]
          rw [if_neg (not_not_intro hlt), y1 m q w h h15]
          simp only [rBd_v, Option.toList_some, Option.toList_none, List.cons_append, List.nil_append, List.append_nil, b_215_86]
        by_cases f2 : s2.2.1 = 0
        · obtain ⟨rfl, a2, d2, o2, ag2, g2n, nst2⟩ := w2 f2
          have pp : skip T n s.1 + 2 ≤ s2.1 := p2 f2
          have d2' : 4 * z1 + skip T n s.1 ≤ 4 * z + s2.1 := d2
          have n2 := g2.1
          obtain ⟨s', x1, K', N', Bh', W', z', k', c', i', t', ⟨v1, v2, v3, v4⟩, v5⟩ := ih (n - s2.1) (by omega) z1 (i + 1) K1 N1 Bh1 W1 s2 x' g2 gx2 r2 f2 (Nat.le_refl _) (by omega) (by omega) (by omega)
          refine ⟨s', x1, K', N', Bh', W', z', k', fun m q w h => (cS m q w h).trans (c' m q w h), fun m q w a b h h15 => (yI m q w a b h h15).trans (i' m q w a b h h15), fun m q w a b c h h15 => (yT m q w a b c h h15).trans (t' m q w a b c h h15), ⟨v1, v2, v3, fun q' => ?_⟩, fun q' => ⟨by have := (v5 q').1; omega, (v5 q').2⟩⟩
          obtain ⟨t1, t2, t3, t4, t5, t6, t7⟩ := v4 q'
          obtain ⟨g9, hg9⟩ := nest_app _ _ _ _ _ _ (nest_congr _ _ _ _ nst2 (fun j j1 j2 => ⟨(t5 j j2).1, (t5 j j2).2.1⟩)) t7
          refine ⟨t1, by omega, by omega, fun j j1 j2 => ?_, agr_trans a2 ag2 t5, g9, hg9⟩
          by_cases hj : j < z1
          · exact okP_agr t5 hj (o2 j j1 hj)
          · exact t4 j (by omega) j2
        · refine ⟨s2, x', K1, N1, Bh1, W1, z1, k1, fun m q w h => ?_, yI, yT, ⟨g2, gx2, r2, fun q' => absurd q' f2⟩, fun q' => absurd q' f2⟩
          rw [cS m q w h, f_aN f2]
          exact F_101_3 (by omega) (ww_on _ _ _ _ h) g2 f2 (by omega)
      · refine ⟨s, x, K, N, Bh, W, z, 4 * z, fun m q w h => ?_, fun _ _ _ _ _ _ _ => rfl, fun _ _ _ _ _ _ _ _ => rfl, ⟨hs, hx, hr, fun _ => ⟨rfl, Nat.le_refl _, Nat.le_refl _, fun j j1 j2 => by omega, agr_refl, 0, rfl⟩⟩, fun _ => ⟨Nat.le_refl _, hlet⟩⟩
        rw [b_101_3, if_pos (by rw [iI_lt (by omega) (by omega)]; omega), U_26 (by omega) (ww_on _ _ _ _ h) hs]
        simp only [rBd_v, Option.toList_some, Option.toList_none, List.cons_append, List.nil_append, List.append_nil, b_101_15, zb_0]
        rw [if_pos hlet, b_101_37]
  exact key (n - s.1) z i K N Bh W s x hs hx hr h0 (Nat.le_refl _) hg hz hi
theorem J_work (hT : isT T) (hn : n ≤ 150) (hns : ns ≤ 7) : ∀ g, PL T n ns g := by
  intro g
  induction g using Nat.strongRecOn with
  | _ g ih => exact J_loop hT hn (J_step hT hn hns ih)
end J
