/-! ===== the calls year and span, alike ===== -/
theorem rem4 : ∀ k : Nat, k < 200 → zRem (k : Int) 4 = ((k % 4 : Nat) : Int) := by decide +kernel
theorem qZ_pass {m : Nat → Nat → Int} {G1 : Nat → Int} : qZ m (row m 377 G1) := ⟨fun a a1 _ _ _ => row_o _ _ _ a1, fun j _ => by rw [row_o _ _ _ (by decide)]⟩
theorem ww2 (mm : Nat → Nat → Int) (x j : Nat) (u v : Int) : wr (wr mm x j u) x j v = wr mm x j v := by
  unfold wr
  rw [row_s, row_row]
  congr 1
  funext t
  by_cases e : t = j
  · subst e
    rw [row_s, row_s]
  · rw [row_o _ _ _ e, row_o _ _ _ e, row_o _ _ _ e]
section S
variable {d n : Nat} {m : Nat → Nat → Int} {q : Nat → Nat → Option Nat} {w : Option (Nat → Int64)} {y : Nat} {r Q z : Nat} {G : Nat → Int}
/-- one time of four -/
theorem J_a (hd : 22 ≤ d) (hF : fnR n r Q (m 178) (m 179) (m 180) G) (hy : clsL m y z) {S : Int} (hS : m 177 2 = S) {t i K many : Nat} (ht : i32 (t : Int)) (hi : i < 4) (hK : K < 4 * many) (hm : many ≤ 48) {qv : Int} (hq : 0 ≤ qv ∧ qv ≤ 16) {u3 : Option Value} : ∃ (m1 : Nat → Nat → Int) (G1 : Nat → Int) (S1 : Int),
    gv d rR113 26 [some (.ref 177), some (.ref 108), some (.ref y), u3, some (.int (iI qv)), some (.int (iI (many : Int))), some (.int (iI (t : Int))), some (.int (iI (i : Int)))] [] (mk m q w) = gv d rR113 58 [some (.ref 177), some (.ref 108), some (.ref y), u3, some (.int (iI qv)), some (.int (iI (many : Int))), some (.int (iI (t : Int))), some (.int (iI (i : Int)))] [] (mk m1 q w) ∧
    qY m m1 ∧ m1 177 2 = S1 ∧ fnR n r Q (m1 178) (m1 179) (m1 180) G1 ∧ (m1 178 5 = m 178 5 ∨ m1 178 5 = m 178 5 + 1) ∧
    ∀ (m' : Nat → Nat → Int) (q' : Nat → Nat → Option Nat) (w' : Option (Nat → Int64)) (u1 : Option Value), m' 377 = G → xR m' n r (m (y + 1)) z → m' 363 50 = S → ∃ m2, gv d rR264 12 [some (.ref 363), u1, some (.int (iI qv)), some (.int (iI (many : Int))), some (.int (iI (K : Int)))] [] (mk m' q' w') = gv d rR264 47 [some (.ref 363), u1, some (.int (iI qv)), some (.int (iI (many : Int))), some (.int (iI (K : Int)))] [] (mk m2 q' w') ∧ m2 377 = G1 ∧ m2 363 50 = S1 ∧ qZ m' m2 := by
  have hn7 := hF.1.2.1
  have o1 : ∀ v : Int, ∀ a, a ≠ 177 → wr m 177 2 v a = m a := fun v a ha => wr_o _ _ _ _ ha
  have v1 := dw_lt (S := S) (k := 16) (by decide)
  have hcl : gv d rR113 26 [some (.ref 177), some (.ref 108), some (.ref y), u3, some (.int (iI qv)), some (.int (iI (many : Int))), some (.int (iI (t : Int))), some (.int (iI (i : Int)))] [] (mk m q w) = if ((dw S 16 : Nat) : Int) < qv ∧ 0 < n then rBd (ev d 112 [.ref 177, .ref y] (mk (wr m 177 2 (nx S)) q w)) (fun v M' => gv d rR113 58 [some (.ref 177), some (.ref 108), some (.ref y), u3, some (.int (iI qv)), some (.int (iI (many : Int))), some (.int (iI (t : Int))), some (.int (iI (i : Int)))] (v.toList ++ []) M') else gv d rR113 58 [some (.ref 177), some (.ref 108), some (.ref y), u3, some (.int (iI qv)), some (.int (iI (many : Int))), some (.int (iI (t : Int))), some (.int (iI (i : Int)))] [] (mk (wr m 177 2 (nx S)) q w) := by
    rw [b_113_26 f108 hy.1, if_pos (by rw [iI_lt (by omega) (by omega)]; omega), show iI 16 = iI ((16 : Nat) : Int) from rfl, T_108 (by omega) (by decide) (by decide), hS]
    simp only [rBd_v, Option.toList_some, Option.toList_none, List.cons_append, List.nil_append, List.append_nil]
    rw [b_113_38 f108 hy.1, o1 _ 178 (by decide), hF.1.1]
    simp only [iI_lt (show i32 ((dw S 16 : Nat) : Int) by omega) (show i32 qv by omega), iI_lt (show i32 0 by omega) (show i32 (n : Int) by omega)]
    by_cases c1 : ((dw S 16 : Nat) : Int) < qv
    · rw [if_pos c1]
      by_cases c2 : 0 < n
      · rw [if_pos (by omega), if_pos ⟨c1, c2⟩]
        simp only [List.append_nil]
      · rw [if_neg (by omega), if_neg (fun y => c2 y.2)]
    · rw [if_neg c1, if_neg (fun y => c1 y.1)]
  have hcx : ∀ (m' : Nat → Nat → Int) (q' : Nat → Nat → Option Nat) (w' : Option (Nat → Int64)) (u1 : Option Value), xR m' n r (m (y + 1)) z → m' 363 50 = S → gv d rR264 12 [some (.ref 363), u1, some (.int (iI qv)), some (.int (iI (many : Int))), some (.int (iI (K : Int)))] [] (mk m' q' w') = if ((dw S 16 : Nat) : Int) < qv ∧ 0 < n then rBd (ev d 262 [.ref 363, .int (iI 6)] (mk (wr m' 363 50 (nx S)) q' w')) (fun v M' => gv d rR264 44 [some (.ref 363), u1, some (.int (iI qv)), some (.int (iI (many : Int))), some (.int (iI (K : Int)))] (v.toList ++ [.ref 363]) M') else gv d rR264 47 [some (.ref 363), u1, some (.int (iI qv)), some (.int (iI (many : Int))), some (.int (iI (K : Int)))] [] (mk (wr m' 363 50 (nx S)) q' w') := by
    intro m' q' w' u1 hx h50
    rw [b_264_12, if_pos (by rw [iI_lt (by omega) (by omega)]; omega), show iI 16 = iI ((16 : Nat) : Int) from rfl, V_262 (by omega) (by decide) (by decide), h50]
    simp only [rBd_v, Option.toList_some, Option.toList_none, List.cons_append, List.nil_append, List.append_nil]
    rw [b_264_26, wr_b _ _ _ _ (by decide), hx.1]
    simp only [iI_lt (show i32 ((dw S 16 : Nat) : Int) by omega) (show i32 qv by omega), iI_lt (show i32 0 by omega) (show i32 (n : Int) by omega)]
    by_cases c1 : ((dw S 16 : Nat) : Int) < qv
    · rw [if_pos c1]
      by_cases c2 : 0 < n
      · rw [if_pos (by omega), if_pos ⟨c1, c2⟩]
      · rw [if_neg (by omega), if_neg (fun y => c2 y.2)]
    · rw [if_neg c1, if_neg (fun y => c1 y.1)]
  by_cases c : ((dw S 16 : Nat) : Int) < qv ∧ 0 < n
  · have v2 := dw_lt (S := nx S) (k := 6) (by decide)
    obtain ⟨m1, G1, S1, g1, g2, g3, g4, g5, g6⟩ := J_act (d := d - 1) (m := wr m 177 2 (nx (nx S))) (q := q) (w := w) (n := n) (r := r) (Q := Q) (y := y) (z := z) (G := G) (by omega) (by omega) (by rw [o1 _ 178 (by decide), o1 _ 179 (by decide), o1 _ 180 (by decide)]; exact hF) (clsL_y (fun a a1 _ _ _ _ _ _ _ => o1 _ a a1) hy).1 (wr_s _ _ _ _) (k := dw (nx S) 6) v2
    have hyy := (clsL_y (m1 := wr m 177 2 (nx (nx S))) (fun a a1 _ _ _ _ _ _ _ => o1 _ a a1) hy).2
    rw [hyy] at g6
    refine ⟨m1, G1, S1, ?_, qY_trans (fun a a1 _ _ _ _ _ _ _ => o1 _ a a1) g2, g3, g4, by rw [o1 _ 178 (by decide)] at g5; exact g5, fun m' q' w' u1 hG hx h50 => ?_⟩
    · rw [hcl, if_pos c, e_112 (by omega) _ rfl rfl, b_112_0 hy.1, show iI 6 = iI ((6 : Nat) : Int) from rfl, T_108 (by omega) (by decide) (by decide), wr_s, ww2]
      simp only [rBd_v, Option.toList_some, Option.toList_none, List.cons_append, List.nil_append, List.append_nil]
      rw [g1]
      simp only [rBd_v, Option.toList_some, Option.toList_none, List.cons_append, List.nil_append, List.append_nil]
    · obtain ⟨m2, f1, f2, f3, f4⟩ := g6 (wr m' 363 50 (nx (nx S))) q' w' (by rw [wr_o _ _ _ _ (by decide)]; exact hG) (xR_z qZ_50 hx) (wr_s _ _ _ _)
      refine ⟨m2, ?_, f2, f3, qZ_trans qZ_50 f4⟩
      rw [hcx m' q' w' u1 hx h50, if_pos c, show iI 6 = iI ((6 : Nat) : Int) from rfl, V_262 (by omega) (by decide) (by decide), wr_s, ww2]
      simp only [rBd_v, Option.toList_some, Option.toList_none, List.cons_append, List.nil_append, List.append_nil]
      rw [b_264_44, e_263 (by omega) _ rfl rfl, f1]
      simp only [rBd_v, Option.toList_some, Option.toList_none, List.cons_append, List.nil_append, List.append_nil]
  · refine ⟨wr m 177 2 (nx S), G, nx S, ?_, fun a a1 _ _ _ _ _ _ _ => o1 _ a a1, wr_s _ _ _ _, by rw [o1 _ 178 (by decide), o1 _ 179 (by decide), o1 _ 180 (by decide)]; exact hF, Or.inl (by rw [o1 _ 178 (by decide)]), fun m' q' w' u1 hG hx h50 => ⟨wr m' 363 50 (nx S), ?_, by rw [wr_o _ _ _ _ (by decide)]; exact hG, wr_s _ _ _ _, qZ_50⟩⟩
    · rw [hcl, if_neg c]
    · rw [hcx m' q' w' u1 hx h50, if_neg c]
/-- one season -/
theorem J_yi (hd : 22 ≤ d) {t many : Nat} (ht : t < many) (hm : many ≤ 48) {qv : Int} (hq : 0 ≤ qv ∧ qv ≤ 16) {u3 : Option Value} : ∀ (g i : Nat) (m : Nat → Nat → Int) (G : Nat → Int) (S : Int), i + g = 3 → fnR n r Q (m 178) (m 179) (m 180) G → clsL m y z → m 177 2 = S → ∃ (m1 : Nat → Nat → Int) (G1 : Nat → Int) (S1 : Int) (u7 : Option Value),
    gv d rR113 26 [some (.ref 177), some (.ref 108), some (.ref y), u3, some (.int (iI qv)), some (.int (iI (many : Int))), some (.int (iI (t : Int))), some (.int (iI (i : Int)))] [] (mk m q w) = gv d rR113 16 [some (.ref 177), some (.ref 108), some (.ref y), u3, some (.int (iI qv)), some (.int (iI (many : Int))), some (.int (iI ((t + 1 : Nat) : Int))), u7] [] (mk m1 q w) ∧
    qY m m1 ∧ m1 177 2 = S1 ∧ fnR n r (Q + 1) (m1 178) (m1 179) (m1 180) G1 ∧ (m 178 5 ≤ m1 178 5 ∧ m1 178 5 ≤ m 178 5 + (g + 1)) ∧
    ∀ (m' : Nat → Nat → Int) (q' : Nat → Nat → Option Nat) (w' : Option (Nat → Int64)) (u1 : Option Value), m' 377 = G → xR m' n r (m (y + 1)) z → m' 363 50 = S → ∃ m2, gv d rR264 12 [some (.ref 363), u1, some (.int (iI qv)), some (.int (iI (many : Int))), some (.int (iI ((4 * t + i : Nat) : Int)))] [] (mk m' q' w') = gv d rR264 12 [some (.ref 363), u1, some (.int (iI qv)), some (.int (iI (many : Int))), some (.int (iI ((4 * (t + 1) : Nat) : Int)))] [] (mk m2 q' w') ∧ m2 377 = G1 ∧ m2 363 50 = S1 ∧ qZ m' m2 := by
  intro g
  induction g with
  | zero =>
    intro i m G S hg hF hy hS
    obtain rfl : i = 3 := by omega
    obtain ⟨m1, G1, S1, g1, g2, g3, g4, g5, g6⟩ := J_a (d := d) (q := q) (w := w) (u3 := u3) hd hF hy hS (t := t) (i := 3) (K := 4 * t + 3) (many := many) (by omega) (by omega) (by omega) hm hq
    obtain ⟨m3, G3, p1, p2, p3, -, p4, p5, -⟩ := M_pass2 (d := d) (q := q) (w := w) (by omega) f178 g4
    refine ⟨m3, G3, S1, some (.int (iI ((4 : Nat) : Int))), ?_, qY_trans g2 (fun a _ a2 _ _ _ _ _ _ => p2 a a2), by rw [p2 177 (by decide)]; exact g3, p3, by omega, fun m' q' w' u1 hG hx h50 => ?_⟩
    · rw [g1, b_113_58 f108 hy.1, show ((3 : Nat) : Int) + 1 = ((4 : Nat) : Int) from rfl, b_113_26 f108 hy.1, if_neg (by decide), p1]
      simp only [rBd_v, Option.toList_some, Option.toList_none, List.cons_append, List.nil_append, List.append_nil]
      rw [b_113_71 f108 hy.1]
      rfl
    · obtain ⟨m2, f1, f2, f3, f4⟩ := g6 m' q' w' u1 hG hx h50
      refine ⟨row m2 377 G3, ?_, row_s _ _ _, by rw [row_o _ _ _ (by decide)]; exact f3, qZ_trans f4 qZ_pass⟩
      rw [f1, b_264_47, rem4 _ (by omega), if_pos (by rw [show (4 * t + 3) % 4 = 3 by omega]; rfl), p4 m2 q' w' f2]
      simp only [rBd_v, Option.toList_some, Option.toList_none, List.cons_append, List.nil_append, List.append_nil]
      rw [b_264_59, show ((4 * t + 3 : Nat) : Int) + 1 = ((4 * (t + 1) : Nat) : Int) by omega]
  | succ g ih =>
    intro i m G S hg hF hy hS
    obtain ⟨m1, G1, S1, g1, g2, g3, g4, g5, g6⟩ := J_a (d := d) (q := q) (w := w) (u3 := u3) hd hF hy hS (t := t) (i := i) (K := 4 * t + i) (many := many) (by omega) (by omega) (by omega) hm hq
    obtain ⟨hy1, hC1⟩ := clsL_y g2 hy
    obtain ⟨m3, G3, S3, u7, p1, p2, p3, p4, p5, p6⟩ := ih (i + 1) m1 G1 S1 (by omega) g4 hy1 g3
    refine ⟨m3, G3, S3, u7, ?_, qY_trans g2 p2, p3, p4, by omega, fun m' q' w' u1 hG hx h50 => ?_⟩
    · rw [g1, b_113_58 f108 hy.1, show (i : Int) + 1 = ((i + 1 : Nat) : Int) from rfl, p1]
    · obtain ⟨m2, f1, f2, f3, f4⟩ := g6 m' q' w' u1 hG hx h50
      obtain ⟨m4, f5, f6, f7, f8⟩ := p6 m2 q' w' u1 f2 (by rw [hC1]; exact xR_z f4 hx) f3
      refine ⟨m4, ?_, f6, f7, qZ_trans f4 f8⟩
      rw [f1, b_264_47, rem4 _ (by omega), if_neg (by rw [iI_eq (by omega) (by omega)]; omega), b_264_59, show ((4 * t + i : Nat) : Int) + 1 = ((4 * t + (i + 1) : Nat) : Int) by omega, f5]
theorem J_y (hd : 22 ≤ d) {many : Nat} (hm : many ≤ 48) {qv : Int} (hq : 0 ≤ qv ∧ qv ≤ 16) {u3 : Option Value} : ∀ (g t : Nat) (m : Nat → Nat → Int) (G : Nat → Int) (S : Int) (Q : Nat) (u7 : Option Value), t + g = many → fnR n r Q (m 178) (m 179) (m 180) G → clsL m y z → m 177 2 = S → ∃ (m1 : Nat → Nat → Int) (G1 : Nat → Int),
    gv d rR113 16 [some (.ref 177), some (.ref 108), some (.ref y), u3, some (.int (iI qv)), some (.int (iI (many : Int))), some (.int (iI (t : Int))), u7] [] (mk m q w) = vV (mk m1 q w) ∧
    qY m m1 ∧ fnR n r (Q + g) (m1 178) (m1 179) (m1 180) G1 ∧ (m 178 5 ≤ m1 178 5 ∧ m1 178 5 ≤ m 178 5 + 4 * g) ∧ m1 177 1 = m1 178 5 - m 108 5 ∧
    ∀ (m' : Nat → Nat → Int) (q' : Nat → Nat → Option Nat) (w' : Option (Nat → Int64)) (u1 : Option Value), m' 377 = G → xR m' n r (m (y + 1)) z → m' 363 50 = S → ∃ m2, gv d rR264 12 [some (.ref 363), u1, some (.int (iI qv)), some (.int (iI (many : Int))), some (.int (iI ((4 * t : Nat) : Int)))] [] (mk m' q' w') = vV (mk m2 q' w') ∧ m2 377 = G1 ∧ qZ m' m2 := by
  intro g
  induction g with
  | zero =>
    intro t m G S Q u7 hg hF hy hS
    refine ⟨wr m 177 1 (m 178 5 - m 108 5), G, ?_, fun a a1 _ _ _ _ _ _ _ => wr_o _ _ _ _ a1, by rw [wr_o _ _ _ _ (by decide), wr_o _ _ _ _ (by decide), wr_o _ _ _ _ (by decide)]; exact hF, by rw [wr_o _ _ _ _ (by decide)]; omega, by rw [wr_s, wr_o _ _ _ _ (by decide)], fun m' q' w' u1 hG hx h50 => ⟨m', ?_, hG, qZ_refl⟩⟩
    · rw [b_113_16 f108 hy.1, if_neg (by rw [iI_lt (by omega) (by omega)]; omega)]
    · rw [b_264_12, if_neg (by rw [iI_lt (by omega) (by omega)]; omega)]
  | succ g ih =>
    intro t m G S Q u7 hg hF hy hS
    obtain ⟨m1, G1, S1, u7', g1, g2, g3, g4, g5, g6⟩ := J_yi (d := d) (q := q) (w := w) (u3 := u3) (y := y) (z := z) hd (t := t) (many := many) (by omega) hm hq 3 0 m G S (by omega) hF hy hS
    obtain ⟨hy1, hC1⟩ := clsL_y g2 hy
    obtain ⟨m3, G3, p1, p2, p3, p4, p5, p6⟩ := ih (t + 1) m1 G1 S1 (Q + 1) u7' (by omega) g4 hy1 g3
    refine ⟨m3, G3, ?_, qY_trans g2 p2, ?_, ?_, ?_, fun m' q' w' u1 hG hx h50 => ?_⟩
    · rw [b_113_16 f108 hy.1, if_pos (by rw [iI_lt (by omega) (by omega)]; omega), show iI 0 = iI ((0 : Nat) : Int) from rfl, g1, p1]
    · rw [show Q + (g + 1) = Q + 1 + g by omega]
      exact p3
    · omega
    · rw [p5, g2 108 (by decide) (by decide) (by decide) (by decide) (by decide) (by decide) (by decide) (by decide)]
    · obtain ⟨m2, f1, f2, f3, f4⟩ := g6 m' q' w' u1 hG hx h50
      obtain ⟨m4, f5, f6, f7⟩ := p6 m2 q' w' u1 f2 (by rw [hC1]; exact xR_z f4 hx) f3
      exact ⟨m4, f1.trans f5, f6, qZ_trans f4 f7⟩
theorem J_live (hd : 23 ≤ d) {P H : Nat → Int} (hF : fnR n r 400 (m 108) (m 109) (m 110) P) (hy : clsL m y z) {seed : Int} {many : Nat} (hm : many ≤ 48) {qv : Int} (hq : 0 ≤ qv ∧ qv ≤ 16) : ∃ (m1 : Nat → Nat → Int) (G1 : Nat → Int),
    ev d 113 [.ref 177, .ref 108, .ref y, .int (iI seed), .int (iI qv), .int (iI (many : Int))] (mk m q w) = vV (mk m1 q w) ∧ qY m m1 ∧ fnR n r 448 (m1 178) (m1 179) (m1 180) G1 ∧ m1 177 1 = m1 178 5 - m 108 5 ∧ (0 ≤ m1 177 1 ∧ m1 177 1 ≤ 192) ∧
    ∀ (m' : Nat → Nat → Int) (q' : Nat → Nat → Option Nat) (w' : Option (Nat → Int64)), m' 376 = P → m' 377 = H → xR m' n r (m (y + 1)) z → ∃ m2, ev d 264 [.ref 363, .int (iI seed), .int (iI qv), .int (iI (many : Int))] (mk m' q' w') = vV (mk m2 q' w') ∧ m2 377 = G1 ∧ qZ m' m2 := by
  have hFb := fnR_bc (m := m) (x := 178) (y := 108) hF
  obtain ⟨mb, emb⟩ : ∃ mb, mb = wr (bc m 178 108) 177 2 seed := ⟨_, rfl⟩
  have hbo : ∀ a, a ≠ 177 → mb a = bc m 178 108 a := fun a ha => by rw [emb, wr_o _ _ _ _ ha]
  have hqY : qY m mb := fun a a1 a2 a3 a4 _ _ _ _ => (hbo a a1).trans (bc_o m a2 a3 a4)
  obtain ⟨hy1, hC1⟩ := clsL_y hqY hy
  have hFm : fnR n r 400 (mb 178) (mb 179) (mb 180) (fun j => if j < 48 then P j else H j) := by
    rw [hbo 178 (by decide), hbo 179 (by decide), hbo 180 (by decide)]
    exact fnR_congr (fun _ _ => rfl) (fun _ _ => rfl) (fun _ _ => rfl) (fun j hj => if_pos hj) hFb
  obtain ⟨m1, G1, g1, g2, g3, g4, g5, g6⟩ := J_y (d := d - 1) (q := q) (w := w) (u3 := some (.int (iI seed))) (y := y) (z := z) (by omega) (many := many) hm hq many 0 mb _ seed 400 none (by omega) hFm hy1 (by rw [emb, wr_s])
  have e5 : mb 178 5 = m 108 5 := by rw [hbo 178 (by decide)]; exact bc_0 m (by decide)
  have e108 : mb 108 = m 108 := hqY 108 (by decide) (by decide) (by decide) (by decide) (by decide) (by decide) (by decide) (by decide)
  rw [e108] at g5
  rw [e5] at g4
  refine ⟨m1, G1, ?_, qY_trans hqY g2, fnR_Q g3 (by omega), g5, by omega, fun m' q' w' h1 h2 hx => ?_⟩
  · rw [e_113 (by omega) _ rfl rfl rfl rfl rfl rfl, b_113_0 f108 hy.1, T_22 (by omega) f178 f108 (by decide)]
    simp only [rBd_v, Option.toList_some, Option.toList_none, List.cons_append, List.nil_append, List.append_nil]
    rw [b_113_8 f108 hy.1, ← emb]
    exact g1
  · obtain ⟨m2, f1, f2, f3⟩ := g6 (wr (cp m' 376 377 48) 363 50 seed) q' w' (some (.int (iI seed))) (by
      rw [wr_o _ _ _ _ (by decide)]
      unfold cp
      rw [row_s, h1, h2]) (by
      rw [hC1]
      refine xR_z qZ_50 (xR_z ⟨fun a a1 _ _ _ => ?_, fun j _ => ?_⟩ hx)
      · unfold cp
        rw [row_o _ _ _ a1]
      · unfold cp
        rw [row_o _ _ _ (by decide)]) (wr_s _ _ _ _)
    refine ⟨m2, ?_, f2, qZ_trans (qZ_trans ⟨fun a a1 _ _ _ => ?_, fun j _ => ?_⟩ qZ_50) f3⟩
    · rw [e_264 (by omega) _ rfl rfl rfl rfl, b_264_0, V_200 (by omega)]
      simp only [rBd_v, Option.toList_some, Option.toList_none, List.cons_append, List.nil_append, List.append_nil]
      rw [b_264_4]
      exact f1
    · unfold cp
      rw [row_o _ _ _ a1]
    · unfold cp
      rw [row_o _ _ _ (by decide)]
theorem V_265 (hd : 1 ≤ d) {a b : Int} (ha : i32 a) (hb : i32 b) : ev d 265 [.int (iI a), .int (iI b)] (mk m q w) = vI (zb ((0 ≤ a ∧ a ≤ 16) ∧ (1 ≤ b ∧ b ≤ 48))) (mk m q w) := by
  rw [e_265 hd _ rfl rfl, b_265_0]
  simp only [b_265_25, b_265_26 (Or.inl rfl), b_265_26 (Or.inr rfl), iI_lt ha (show i32 0 by omega), iI_lt (show i32 16 by omega) ha, iI_lt hb (show i32 1 by omega), iI_lt (show i32 48 by omega) hb]
  by_cases h : (0 ≤ a ∧ a ≤ 16) ∧ (1 ≤ b ∧ b ≤ 48)
  · rw [zb_t h, if_neg (by omega), if_neg (by omega), if_neg (by omega), if_neg (by omega)]
  · rw [zb_f h]
    by_cases c1 : a < 0
    · rw [if_pos c1]
    · rw [if_neg c1]
      by_cases c2 : 16 < a
      · rw [if_pos c2]
      · rw [if_neg c2]
        by_cases c3 : b < 1
        · rw [if_pos c3]
        · rw [if_neg c3, if_pos (by omega)]
theorem qY_RR {m1 : Nat → Nat → Int} (hR : RR m q) (h : qY m m1) : RR m1 q := RR_s ⟨fun a a1 _ => h a (by unfold scr at a1; omega) (by unfold scr at a1; omega) (by unfold scr at a1; omega) (by unfold scr at a1; omega) (by unfold scr at a1; omega) (by unfold scr at a1; omega) (by unfold scr at a1; omega) (by unfold scr at a1; omega), fun j _ => by rw [h 363 (by decide) (by decide) (by decide) (by decide) (by decide) (by decide) (by decide) (by decide)]⟩ (gS_o (h 161 (by decide) (by decide) (by decide) (by decide) (by decide) (by decide) (by decide) (by decide)) (h 163 (by decide) (by decide) (by decide) (by decide) (by decide) (by decide) (by decide) (by decide)) hR.2.2.2.2.2.2) hR
theorem qZ_RR {m1 : Nat → Nat → Int} (hR : RR m q) (h : qZ m m1) : RR m1 q := RR_s ⟨fun a a1 a2 => h.1 a (by unfold scr at a1; omega) (by unfold scr at a1; omega) (by unfold scr at a1; omega) a2, fun j hj => h.2 j (by omega)⟩ (gS_o (h.1 161 (by decide) (by decide) (by decide) (by decide)) (h.1 163 (by decide) (by decide) (by decide) (by decide)) hR.2.2.2.2.2.2) hR
theorem K_year {a b c e : Int} (ha : i32 a) (hb : i32 b) (hc : i32 c) (he : i32 e) : cTH 153 266 [.int (iI a), .int (iI b), .int (iI c), .int (iI e)] 1 := by
  intro m q w hR d hd
  obtain ⟨n, r, o, hF, k15, k16, hn7, hfk, hfl, hCi, ho, hbt⟩ := RR_fan hR
  obtain ⟨-, -, ⟨y, y', l1, l2, l3, l4, l5, lz, l6, l7⟩, -, -, -, hS⟩ := id hR
  have hyc : clsL m y lz := ⟨l3, l7.1, l6⟩
  have hE : gv (d - 1) rR153 35 [some (.ref 100), some (.int (iI a)), some (.int (iI b)), some (.int (iI c)), some (.int (iI e))] [.ref 100] (mk m q w) = some (.inr 0, (mk (wr m 100 17 (m 100 17 + 1)) q w, (1, 6))) := by
    rw [b_153_35, b_153_36, T_116 (by omega), if_pos rfl]
    rfl
  have hC : ev d 153 [.ref 100, .int (iI a), .int (iI b), .int (iI c), .int (iI e)] (mk m q w) = if ((0 ≤ b ∧ b ≤ 16) ∧ (1 ≤ c ∧ c ≤ 48)) ∧ (0 ≤ e ∧ e ≤ 3) then gv (d - 1) rR153 39 [some (.ref 100), some (.int (iI a)), some (.int (iI b)), some (.int (iI c)), some (.int (iI e))] [] (mk m q w) else some (.inr 0, (mk (wr m 100 17 (m 100 17 + 1)) q w, (1, 6))) := by
    rw [e_153 (by omega) _ rfl rfl rfl rfl rfl, b_153_0, T_6 (by omega) hb (by omega) (by omega)]
    simp only [rBd_v, Option.toList_some, Option.toList_none, List.cons_append, List.nil_append, List.append_nil]
    rw [b_153_8]
    simp only [zb_0]
    by_cases h1 : 0 ≤ b ∧ b ≤ 16
    · rw [if_neg (not_not_intro h1), T_6 (by omega) hc (by omega) (by omega)]
      simp only [rBd_v, Option.toList_some, Option.toList_none, List.cons_append, List.nil_append, List.append_nil]
      rw [b_153_18]
      simp only [zb_0]
      by_cases h2 : 1 ≤ c ∧ c ≤ 48
      · rw [if_neg (not_not_intro h2), T_6 (by omega) he (by omega) (by omega)]
        simp only [rBd_v, Option.toList_some, Option.toList_none, List.cons_append, List.nil_append, List.append_nil]
        rw [b_153_28]
        simp only [zb_0]
        by_cases h3 : 0 ≤ e ∧ e ≤ 3
        · rw [if_neg (not_not_intro h3), if_pos ⟨⟨h1, h2⟩, h3⟩, b_153_36, T_116 (by omega), if_neg (by decide)]
          simp only [rBd_v, Option.toList_some, Option.toList_none, List.cons_append, List.nil_append, List.append_nil]
        · rw [if_pos h3, if_neg (fun z => h3 z.2), hE]
      · rw [if_pos h2, if_neg (fun z => h2 z.1.2), hE]
    · rw [if_pos h1, if_neg (fun z => h1 z.1.1), hE]
  have hX : ∀ m1 : Nat → Nat → Int, ev d 266 [.ref 363, .int (iI a), .int (iI b), .int (iI c), .int (iI e)] (mk m1 q w) = if ((0 ≤ b ∧ b ≤ 16) ∧ (1 ≤ c ∧ c ≤ 48)) ∧ (0 ≤ e ∧ e ≤ 3) then rBd (ev (d - 1) 264 [.ref 363, .int (iI a), .int (iI b), .int (iI c)] (mk (wr m1 363 0 0) q w)) (fun v M' => gv (d - 1) rR266 46 [some (.ref 363), some (.int (iI a)), some (.int (iI b)), some (.int (iI c)), some (.int (iI e))] (v.toList ++ []) M') else vI 0 (mk (noX m1 1 1) q w) := by
    intro m1
    have key : ∀ (P : Prop) [Decidable P], gv (d - 1) rR266 29 [some (.ref 363), some (.int (iI a)), some (.int (iI b)), some (.int (iI c)), some (.int (iI e))] [.int (iI (zb P)), .ref 363] (mk (wr m1 363 0 0) q w) = if P then rBd (ev (d - 1) 264 [.ref 363, .int (iI a), .int (iI b), .int (iI c)] (mk (wr m1 363 0 0) q w)) (fun v M' => gv (d - 1) rR266 46 [some (.ref 363), some (.int (iI a)), some (.int (iI b)), some (.int (iI c)), some (.int (iI e))] (v.toList ++ []) M') else vI 0 (mk (noX m1 1 1) q w) := by
      intro P _
      rw [b_266_29, V_160 (by omega) (Or.inr rfl) (by omega) (by decide) (wr_s _ _ _ _)]
      by_cases h : P
      · rw [if_pos h, if_pos h]
        simp only [rBd_v, Option.toList_some, Option.toList_none, List.cons_append, List.nil_append, List.append_nil]
        rw [b_266_34, if_neg (by decide)]
        simp only [List.append_nil]
      · rw [if_neg h, if_neg h]
        simp only [rBd_v, Option.toList_some, Option.toList_none, List.cons_append, List.nil_append, List.append_nil]
        rw [b_266_34, if_pos rfl]
        rfl
    have hE2 : gv (d - 1) rR266 28 [some (.ref 363), some (.int (iI a)), some (.int (iI b)), some (.int (iI c)), some (.int (iI e))] [.ref 363] (mk (wr m1 363 0 0) q w) = vI 0 (mk (noX m1 1 1) q w) := by
      rw [b_266_28, show iI 0 = iI (zb False) from rfl, key, if_neg not_false]
    rw [e_266 (by omega) _ rfl rfl rfl rfl rfl, b_266_0, V_265 (by omega) hb hc]
    simp only [rBd_v, Option.toList_some, Option.toList_none, List.cons_append, List.nil_append, List.append_nil]
    rw [b_266_11]
    simp only [zb_0]
    by_cases h1 : (0 ≤ b ∧ b ≤ 16) ∧ (1 ≤ c ∧ c ≤ 48)
    · rw [if_neg (not_not_intro h1), V_161 (by omega) he (by omega) (by omega)]
      simp only [rBd_v, Option.toList_some, Option.toList_none, List.cons_append, List.nil_append, List.append_nil]
      rw [b_266_21]
      simp only [zb_0]
      by_cases h3 : 0 ≤ e ∧ e ≤ 3
      · rw [if_neg (not_not_intro h3), show iI 1 = iI (zb True) from rfl, key, if_pos trivial, if_pos ⟨h1, h3⟩]
        simp only [List.append_nil]
      · rw [if_pos h3, if_neg (fun z => h3 z.2), hE2]
    · rw [if_pos h1, if_neg (fun z => h1 z.1), hE2]
  by_cases h : ((0 ≤ b ∧ b ≤ 16) ∧ (1 ≤ c ∧ c ≤ 48)) ∧ (0 ≤ e ∧ e ≤ 3)
  · rw [if_pos h] at hC
    obtain ⟨cn, rfl⟩ : ∃ cn : Nat, c = cn := ⟨c.toNat, by omega⟩
    obtain ⟨m1, G1, g1, g2, g3, g4, g5, g6⟩ := J_live (d := d - 1) (m := m) (q := q) (w := w) (H := m 377) (by omega) hF hyc (seed := a) (many := cn) (by omega) h.1.1
    have hms : ∀ e, 363 ≤ e → m1 e = m e := fun e he => g2 e (by omega) (by omega) (by omega) (by omega) (by omega) (by omega) (by omega) (by omega)
    obtain ⟨m2, f1, f2, f3⟩ := g6 (wr m1 363 0 0) q w (by rw [wr_o _ _ _ _ (by decide), hms 376 (by decide)]) (by rw [wr_o _ _ _ _ (by decide), hms 377 (by decide)]) (by
      unfold xR
      rw [wr_b _ _ _ _ (by decide), wr_b _ _ _ _ (by decide), wr_b _ _ _ _ (by decide), wr_o _ _ _ _ (by decide), wr_o _ _ _ _ (by decide), hms 363 (by decide), hms 370 (by decide), hms 371 (by decide)]
      exact ⟨k15, k16, l7⟩)
    have hX1 := hX m1
    rw [if_pos h, f1] at hX1
    simp only [rBd_v, Option.toList_some, Option.toList_none, List.cons_append, List.nil_append, List.append_nil] at hX1
    have hR2 : RR m2 q := qZ_RR (RR_0 (qY_RR hR g2)) f3
    have h00 : m2 363 0 = 0 := by rw [f3.2 0 (by decide), wr_s]
    rw [b_153_39, l1] at hC
    have hC1 := hC.trans (b_153_54 l3)
    rw [g1] at hC1
    simp only [rBd_v, Option.toList_some, Option.toList_none, List.cons_append, List.nil_append, List.append_nil] at hC1
    rw [b_153_60] at hC1
    rw [b_266_46, f2, f3.1 376 (by decide) (by decide) (by decide) (by decide), wr_o _ _ _ _ (by decide), hms 376 (by decide)] at hX1
    obtain ⟨o1, q1, q2, q3, q4, q5⟩ := fnR_k g3
    rcases (show e = 0 ∨ e = 1 ∨ e = 2 ∨ e = 3 by omega) with rfl | rfl | rfl | rfl
    · rw [b_153_62_0, b_153_88] at hC1
      rw [if_pos rfl, b_266_105, ← g3.2.2.2.2.1, ← hF.2.2.2.2.1, ← g4] at hX1
      exact q_in hC1 hX1 h00 hR2
    · rw [b_153_62_1, b_153_96] at hC1
      rw [if_neg (by decide), if_pos rfl, b_266_105, ← g3.2.1.1] at hX1
      exact q_in hC1 hX1 h00 hR2
    · rw [b_153_62_2, b_153_107] at hC1
      rw [if_neg (by decide), if_neg (by decide), if_pos rfl, b_266_105, ← g3.2.2.1.1] at hX1
      exact q_in hC1 hX1 h00 hR2
    · rw [b_153_62_d (by decide) (by decide), b_153_118, q1.2.2.1] at hC1
      rw [if_neg (by decide), if_neg (by decide), if_neg (by decide), V_221 (by omega) hn7 (by rw [f3.2 15 (by decide), wr_b _ _ _ _ (by decide), hms 363 (by decide)]; exact k15) q4 (fun s hs => by rw [f2]; exact q5 s hs)] at hX1
      simp only [rBd_v, Option.toList_some, Option.toList_none, List.cons_append, List.nil_append, List.append_nil] at hX1
      rw [b_266_105] at hX1
      exact q_in hC1 hX1 h00 hR2
  · rw [if_neg h] at hC
    have hX1 := hX (wr m 100 17 (m 100 17 + 1))
    rw [if_neg h] at hX1
    exact q_no hR hC hX1
end S
