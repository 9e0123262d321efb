/-! ===== a work is read by both: steps ===== -/
def resW (n ns z op : Nat) (s : rd) (K : Nat → Option Nat) (N Bh W : Nat → Int) (s' x' : rd) (K' : Nat → Option Nat) (N' Bh' W' : Nat → Int) (z' k' : Nat) : Prop :=
  gd n s' ∧ gx n x' ∧ rel s' x' ∧ (s'.2.1 = 0 → k' = 4 * z' ∧ z ≤ z' ∧ 4 * z' + s.1 ≤ 4 * z + s'.1 ∧ (∀ i, z ≤ i → i < z' → okP ns K' N' Bh' W' i) ∧ agr z K N Bh W K' N' Bh' W' ∧ ∃ g, nest K' Bh' g z z' op)
def PS (T : Nat → Int) (n ns g : Nat) : Prop := ∀ (d dx op z : Nat) (K : Nat → Option Nat) (N Bh W : Nat → Int) (s x : rd), op ≤ 6 → 24 ≤ d + 2 * op → 24 ≤ dx + 2 * op → gd n s → gx n x → rel s x → s.2.1 = 0 → n - s.1 ≤ g → 4 * z ≤ s.1 → aOn T n 97 122 s →
  ∃ (s1 x' : rd) (K' : Nat → Option Nat) (N' Bh' W' : Nat → Int) (z' k' : Nat),
    (∀ (m : Nat → Nat → Int) (q : Nat → Nat → Option Nat) (w : Option (Nat → Int64)), onT m T n → ev d 100 [.ref 103, .ref 101, .int (iI ns), .int (iI op)] (mk (tr (ww m N Bh z) s) (row q 104 K) w) = vV (mk (tr (ww m N' Bh' z') s1) (row q 104 K') w)) ∧
    (∀ (m : Nat → Nat → Int) (q : Nat → Nat → Option Nat) (w : Option (Nat → Int64)), onX m T n → m 363 15 = ns → ev dx 199 [.ref 363] (mk (mr (wx m W (4 * z) op) x) q w) = vV (mk (mr (wx m W' k' op) x') q w)) ∧
    gd n s1 ∧ resW n ns z op s K N Bh W (aEx T n 59 s1) x' K' N' Bh' W' z' k' ∧ ((aEx T n 59 s1).2.1 = 0 → s.1 + 2 ≤ (aEx T n 59 s1).1)
def PL (T : Nat → Int) (n ns g : Nat) : Prop := ∀ (d dx op z i : Nat) (K : Nat → Option Nat) (N Bh W : Nat → Int) (s x : rd), op ≤ 6 → 24 ≤ d + 2 * op → 24 ≤ dx + 2 * op → gd n s → gx n x → rel s x → s.2.1 = 0 → n - s.1 ≤ g → 4 * z ≤ s.1 → 2 * i ≤ s.1 → i < 150 →
  ∃ (s1 x1 : rd) (K' : Nat → Option Nat) (N' Bh' W' : Nat → Int) (z' k' : Nat),
    (∀ (m : Nat → Nat → Int) (q : Nat → Nat → Option Nat) (w : Option (Nat → Int64)), onT m T n → gv d rR101 3 [some (.ref 103), some (.ref 101), some (.int (iI ns)), some (.int (iI op)), some (.int (iI i))] [] (mk (tr (ww m N Bh z) s) (row q 104 K) w) = vV (mk (tr (ww m N' Bh' z') (aN T n s1)) (row q 104 K') w)) ∧
    (∀ (m : Nat → Nat → Int) (q : Nat → Nat → Option Nat) (w : Option (Nat → Int64)) (a : Option Value) (b : Int), onX m T n → m 363 15 = ns → gv dx rR198 33 [some (.ref 363), a, some (.int (iI b))] [] (mk (mr (wx m W (4 * z) op) x) q w) = gv dx rR198 33 [some (.ref 363), a, some (.int (iI b))] [] (mk (mr (wx m W' k' op) x1) q w)) ∧
    (∀ (m : Nat → Nat → Int) (q : Nat → Nat → Option Nat) (w : Option (Nat → Int64)) (a b c : Option Value), onX m T n → m 363 15 = ns → gv dx rR215 68 [some (.ref 363), a, b, c] [] (mk (mr (wx m W (4 * z) op) x) q w) = gv dx rR215 68 [some (.ref 363), a, b, c] [] (mk (mr (wx m W' k' op) x1) q w)) ∧
    resW n ns z op s K N Bh W s1 x1 K' N' Bh' W' z' k' ∧ (s1.2.1 = 0 → s.1 ≤ s1.1 ∧ ¬ aOn T n 97 122 s1)
theorem okS_of {T : Nat → Int} {n ns k : Nat} (hk : k < 7) {a b c : Int} (h0 : ∀ e, slt ns k 0 = some e → e.1 ≤ a ∧ a ≤ e.2) (h1 : ∀ e, slt ns k 1 = some e → e.1 ≤ b ∧ b ≤ e.2) (h2 : ∀ e, slt ns k 2 = some e → e.1 ≤ c ∧ c ≤ e.2) : okS ns k a b c := by
  have hc : k = 0 ∨ k = 1 ∨ k = 2 ∨ k = 3 ∨ k = 4 ∨ k = 5 ∨ k = 6 := by omega
  unfold okS
  rcases hc with rfl | rfl | rfl | rfl | rfl | rfl | rfl
  · have e0 : (0 : Int) ≤ a ∧ a ≤ 3 := h0 (0, 3) rfl
    have e1 : (1 : Int) ≤ b ∧ b ≤ 7 := h1 (1, 7) rfl
    omega
  · omega
  · have e0 : (0 : Int) ≤ a ∧ a ≤ (ns : Int) - 1 := h0 (0, (ns : Int) - 1) rfl
    have e1 : (0 : Int) ≤ b ∧ b ≤ (ns : Int) - 1 := h1 (0, (ns : Int) - 1) rfl
    omega
  · have e0 : (0 : Int) ≤ a ∧ a ≤ (ns : Int) - 1 := h0 (0, (ns : Int) - 1) rfl
    omega
  · have e0 : (0 : Int) ≤ a ∧ a ≤ (ns : Int) - 1 := h0 (0, (ns : Int) - 1) rfl
    have e1 : (0 : Int) ≤ b ∧ b ≤ 3 := h1 (0, 3) rfl
    have e2 : (0 : Int) ≤ c ∧ c ≤ 15 := h2 (0, 15) rfl
    omega
  · omega
  · omega
section J
variable {T : Nat → Int} {n ns g : Nat}
set_option maxHeartbeats 4000000 in
theorem J_step (hT : isT T) (hn : n ≤ 150) (hns : ns ≤ 7) (hL : ∀ g', g' < g → PL T n ns g') : PS T n ns g := by
  intro d dx op z K N Bh W s x hop hd hdx hs hx hr h0 hg hz hlet
  have hx0 := (rel_fine hr).mp h0
  have hxp := rel_at hr h0
  have hsk := skip_le T hs.1
  obtain ⟨s0, e0⟩ : ∃ s0 : rd, s0 = (skip T n s.1, s.2) := ⟨_, rfl⟩
  obtain ⟨x0, f0⟩ : ∃ x0 : rd, x0 = (skip T n s.1, x.2) := ⟨_, rfl⟩
  have hp : skip T n s.1 = s0.1 := by rw [e0]
  have hs0 : gd n s0 := by rw [e0]; exact ⟨hsk.2, hs.2⟩
  have hx00 : gx n x0 := by rw [f0]; exact ⟨hsk.2, hx.2⟩
  have r0 : rel s0 x0 := by rw [e0, f0]; exact rel_go hr h0
  have h00 : s0.2.1 = 0 := by rw [e0]; exact h0
  have y00 : x0.2.1 = -1 := by rw [f0]; exact hx0
  have hxp0 : x0.1 = s0.1 := by rw [e0, f0]
  have hk0 : skip T n s0.1 = s0.1 := by rw [e0]; exact skip_fix T hs.1
  have hge : s.1 ≤ s0.1 := by rw [← hp]; exact hsk.1
  have hlt : s0.1 < n := by rw [← hp]; exact hlet.2.1
  clear hlet
  have hz150 : z < 150 := by omega
  have hy200 : 4 * z + 3 < 200 := by omega
  have hnI : (0 : Int) ≤ (ns : Int) ∧ (ns : Int) ≤ 7 := by omega
  obtain ⟨t1, t2, t3, t4, t5⟩ := rel_tk (T := T) (n := n) stL stL_l s0 x0 hs0 hx00.1 r0 h00
  rw [hxp0, hk0] at t1
  have t7 := tk_lt (T := T) (n := n) (b := 8) stL (by decide) s0
  have t8 := tk_pl (T := T) (n := n) stL s0 hs0 h00
  have cP : ∀ (m : Nat → Nat → Int) (q : Nat → Nat → Option Nat) (w : Option (Nat → Int64)), onT m T n → ev d 100 [.ref 103, .ref 101, .int (iI ns), .int (iI op)] (mk (tr (ww m N Bh z) s) (row q 104 K) w) = gv (d - 1) rR100 10 [some (.ref 103), some (.ref 101), some (.int (iI ns)), some (.int (iI op)), some (.int (iI s0.1)), none, none, none] [rOv (tkS T n stL s0).1] (mk (tr (ww m N Bh z) (tkS T n stL s0).2) (row q 104 K) w) := by
    intro m q w h
    have hO := ww_on m N Bh z h
    rw [e_100 (by omega), b_100_0, U_2 (by omega) hO hs, ← e0, hp]
    simp only [rBd_v, Option.toList_some, Option.toList_none, List.cons_append, List.nil_append, List.append_nil, b_100_4]
    rw [T_78 (by omega) hO hs0]
    simp only [rBd_v, Option.toList_some, Option.toList_none, List.cons_append, List.nil_append, List.append_nil]
  have xP : ∀ (m : Nat → Nat → Int) (q : Nat → Nat → Option Nat) (w : Option (Nat → Int64)), onX m T n → ev dx 199 [.ref 363] (mk (mr (wx m W (4 * z) op) x) q w) = gv (dx - 1) rR199 7 [some (.ref 363), none, none, none] [.int (iI (match (tkS T n stL s0).1 with | some k => (k : Int) | none => -1))] (mk (mr (wx m W (4 * z) op) x0) q w) := by
    intro m q w h
    rw [e_199 (by omega) _ rfl, b_199_0, V_172 (by omega) (wx_on m W (4 * z) op h) hx, hxp, ← f0, hp]
    simp only [rBd_v, Option.toList_some, Option.toList_none, List.cons_append, List.nil_append, List.append_nil, b_199_4]
    rw [V_196 (by omega) word_i, t1]
    simp only [rBd_v, Option.toList_some, Option.toList_none, List.cons_append, List.nil_append, List.append_nil]
    rfl
  generalize hr9 : tkS T n stL s0 = r9 at *
  obtain ⟨o9, s9⟩ := r9
  cases o9 with
  | none =>
    have e9 : s9 = s0 := by
      have h9 := t5 rfl (fun y => nomatch y)
      rw [hk0] at h9
      exact h9
    clear t1 t2 t3 t4 t5 t7 t8 hL
    subst e9
    have gxA : gx n (s9.1, (s9.1 : Int), 1) := ⟨hs0.1, by show i32 (s9.1 : Int); omega⟩
    have eb : aBl 1 s9.1 s9 = (s9.1, 1, (s9.1 : Int)) := by
      unfold aBl
      rw [if_pos h00]
    have ew : xWr 1 s9.1 x0 = (s9.1, (s9.1 : Int), 1) := by
      unfold xWr
      rw [if_pos y00, hxp0]
    have nf : ((s9.1, (1 : Int), (s9.1 : Int)) : rd).2.1 ≠ 0 := by show (1 : Int) ≠ 0; decide
    have gs : gd n (s9.1, 1, (s9.1 : Int)) := ⟨hs0.1, by show i32 (1 : Int); omega⟩
    refine ⟨(s9.1, 1, (s9.1 : Int)), (s9.1, (s9.1 : Int), 1), K, N, Bh, W, z, 4 * z, ?_, ?_, gs, ?_, ?_⟩
    · intro m q w h
      rw [cP m q w h]
      refine Eq.trans b_100_10n ?_
      rw [b_100_31, U_5 (by omega) hs0, eb]
      simp only [rBd_v, Option.toList_some, Option.toList_none, List.cons_append, List.nil_append, List.append_nil, b_100_38]
    · intro m q w h h15
      rw [xP m q w h]
      dsimp only
      rw [b_199_7, if_pos rfl, mr_4, hxp0, V_168 (by omega) hx00, ew]
      simp only [rBd_v, Option.toList_some, Option.toList_none, List.cons_append, List.nil_append, List.append_nil, b_199_22, b_199_144]
      rw [V_176 (by omega) (wx_on m W (4 * z) op h) gxA (by omega), f_xSg (by show (s9.1 : Int) ≠ -1; omega)]
      simp only [rBd_v, Option.toList_some, Option.toList_none, List.cons_append, List.nil_append, List.append_nil, b_199_150]
    · rw [f_aEx nf]
      exact ⟨gs, gxA, Or.inr ⟨by show (1 : Int) ≠ 0; decide, by show (s9.1 : Int) ≠ -1; omega, rfl, rfl⟩, fun h => absurd h nf⟩
    · rw [f_aEx nf]
      exact fun h => absurd h nf
  | some k =>
    have hk8 : k < 8 := t7 k rfl
    obtain ⟨l, l1, l2⟩ := t8 k rfl
    obtain ⟨l3, l4⟩ := stL_len _ l1
    have l3' : 3 ≤ l.length := l3
    have l4' : k = 7 → l.length = 5 := l4
    have l2' : s9 = (s0.1 + l.length, s0.2) := by
      have h9 : s9 = (skip T n s0.1 + l.length, s0.2) := l2
      rw [hk0] at h9
      exact h9
    have g9 : gd n s9 := t2
    have u1 := (t4 k rfl).1
    rw [hxp0, hk0] at u1
    have u1' : rel s9 (wEnd T (n - s0.1) s0.1, x0.2) := u1
    clear t1 t2 t3 t4 t5 t7 t8 l1 l2 l3 l4 u1
    have h90 : s9.2.1 = 0 := by rw [l2']; exact h00
    have p9 : s9.1 = s0.1 + l.length := by rw [l2']
    have n9 := g9.1
    have cP2 : ∀ (m : Nat → Nat → Int) (q : Nat → Nat → Option Nat) (w : Option (Nat → Int64)), onT m T n → ev d 100 [.ref 103, .ref 101, .int (iI ns), .int (iI op)] (mk (tr (ww m N Bh z) s) (row q 104 K) w) = gv (d - 1) rR100 39 [some (.ref 103), some (.ref 101), some (.int (iI ns)), some (.int (iI op)), some (.int (iI s0.1)), some (.ref k), some (.int (iI z)), none] [] (mk (tr (ww m N Bh z) s9) (row q 104 K) w) := by
      intro m q w h
      rw [cP m q w h]
      refine Eq.trans b_100_10r ?_
      have e3 : tr (ww m N Bh z) s9 103 3 = z := by rw [tr_o (by decide), ww_3]
      rw [e3, if_pos (by rw [iI_lt (by omega) (by omega)]; omega)]
    have cP3 : ∀ (m : Nat → Nat → Int) (q : Nat → Nat → Option Nat) (w : Option (Nat → Int64)), onT m T n → gv (d - 1) rR100 61 [some (.ref 103), some (.ref 101), some (.int (iI ns)), some (.int (iI op)), some (.int (iI s0.1)), some (.ref k), some (.int (iI z)), none] [] (mk (tr (ww m N Bh z) s9) (row q 104 K) w) = gv (d - 1) rR100 139 [some (.ref 103), some (.ref 101), some (.int (iI ns)), some (.int (iI op)), some (.int (iI s0.1)), some (.ref k), some (.int (iI z)), some (.int (iI 3))] [] (mk (tr (ww m (row (row (row N (3 * z) (v0 T n ns k s9)) (3 * z + 1) (v1 T n ns k s9)) (3 * z + 2) (v2 T n ns k s9)) Bh (z + 1)) (a3 T n ns k s9)) (row q 104 (row K z (some k))) w) := by
      intro m q w h
      have e3 : tr (ww m N Bh z) s9 103 3 = z := by rw [tr_o (by decide), ww_3]
      rw [b_100_61 hk8 (by omega) (by omega), e3, tr_wo (by decide), show ((z : Nat) : Int) + 1 = ((z + 1 : Nat) : Int) from rfl, ww_w3, wq_row, Int.toNat_natCast]
      exact S3_100 (by omega) h g9 hnI hk8 hz150
    by_cases hk7 : k = 7
    · -- an again
      subst hk7
      have l5 : l.length = 5 := l4' rfl
      by_cases h6 : op < 6
      · have cP4 : ∀ (m : Nat → Nat → Int) (q : Nat → Nat → Option Nat) (w : Option (Nat → Int64)), onT m T n → ev d 100 [.ref 103, .ref 101, .int (iI ns), .int (iI op)] (mk (tr (ww m N Bh z) s) (row q 104 K) w) = gv (d - 1) rR100 139 [some (.ref 103), some (.ref 101), some (.int (iI ns)), some (.int (iI op)), some (.int (iI s0.1)), some (.ref 7), some (.int (iI z)), some (.int (iI 3))] [] (mk (tr (ww m (row (row (row N (3 * z) (v0 T n ns 7 s9)) (3 * z + 1) (v1 T n ns 7 s9)) (3 * z + 2) (v2 T n ns 7 s9)) Bh (z + 1)) (a3 T n ns 7 s9)) (row q 104 (row K z (some 7))) w) := by
          intro m q w h
          rw [cP2 m q w h, b_100_39 (by decide), if_pos rfl, if_pos (by rw [iI_lt (by omega) (by omega)]; omega), cP3 m q w h]
        have gxA : gx n (s0.1 + 5, x0.2) := ⟨by show s0.1 + 5 ≤ n; omega, hx00.2⟩
        have r9 : rel s9 (s0.1 + 5, x0.2) := by
          rw [l2', l5]
          exact rel_go r0 h00
        obtain ⟨q1, q2, q3, q4⟩ := rel_3 (T := T) hT (show n ≤ 600 by omega) (ns := (ns : Int)) (by omega) 7 g9 gxA r9
        obtain ⟨sA, eA⟩ : ∃ sA : rd, sA = a3 T n ns 7 s9 := ⟨_, rfl⟩
        obtain ⟨xA, fA⟩ : ∃ xA : rd, xA = y3 T n ns 7 (s0.1 + 5, x0.2) := ⟨_, rfl⟩
        rw [← eA] at q1 q2 q4
        rw [← fA] at q1 q3
        have xP2 : ∀ (m : Nat → Nat → Int) (q : Nat → Nat → Option Nat) (w : Option (Nat → Int64)), onX m T n → ev dx 199 [.ref 363] (mk (mr (wx m W (4 * z) op) x) q w) = rBd (gv (dx - 2) rR198 12 [some (.ref 363), none, none] [.int (iI (u0 T n ns 7 (s0.1 + 5, x0.2)))] (mk (mr (wx m W (4 * z) (op + 1)) xA) q w)) (fun v M' => gv (dx - 1) rR199 35 [some (.ref 363), some (.int (iI ((7 : Nat) : Int))), none, none] (v.toList ++ []) M') := by
          intro m q w h
          have e7 : wx m W (4 * z) op 363 7 = op := wx_7 m W (4 * z) op
          rw [xP m q w h]
          dsimp only
          rw [b_199_7, if_neg (show ¬ iI ((7 : Nat) : Int) = iI (-1) by decide), if_pos (show iI ((7 : Nat) : Int) = iI 7 from rfl), e_198 (by omega) _ rfl, b_198_0, show iI 5 = iI ((5 : Nat) : Int) from rfl, V_185g (by omega) hx00 (by omega) e7 hop (by omega), wx_w7]
          have ex : xOp 5 op x0 = (s0.1 + 5, x0.2) := by
            unfold xOp
            rw [if_pos y00, if_neg (by omega), hxp0]
          rw [ex]
          simp only [rBd_v, Option.toList_some, Option.toList_none, List.cons_append, List.nil_append, List.append_nil, b_198_5]
          rw [V_175 (by omega) (wx_on _ _ _ _ h) gxA (by omega) (by omega), fA, show dx - 1 - 1 = dx - 2 by omega]
          simp only [rBd_v, Option.toList_some, Option.toList_none, List.cons_append, List.nil_append, List.append_nil]
          rfl
        obtain ⟨sB, eB⟩ : ∃ sB : rd, sB = aEx T n 91 sA := ⟨_, rfl⟩
        obtain ⟨xB, fB⟩ : ∃ xB : rd, xB = xSg T n 91 xA := ⟨_, rfl⟩
        have rB : rel sB xB := by rw [eB, fB]; exact rel_sg (by omega) q1
        have gB : gd n sB := by rw [eB]; exact aEx_gd q2
        have gxB : gx n xB := by rw [fB]; exact xSg_gx (by omega) (by omega) q3
        have xP3 : ∀ (m : Nat → Nat → Int) (q : Nat → Nat → Option Nat) (w : Option (Nat → Int64)), onX m T n → ev dx 199 [.ref 363] (mk (mr (wx m W (4 * z) op) x) q w) = rBd (gv (dx - 2) rR198 19 [some (.ref 363), some (.int (iI (u0 T n ns 7 (s0.1 + 5, x0.2)))), none] [] (mk (mr (wx m W (4 * z) (op + 1)) xB) q w)) (fun v M' => gv (dx - 1) rR199 35 [some (.ref 363), some (.int (iI ((7 : Nat) : Int))), none, none] (v.toList ++ []) M') := by
          intro m q w h
          rw [xP2 m q w h, b_198_12, V_176 (by omega) (wx_on _ _ _ _ h) q3 (by omega), ← fB]
          simp only [rBd_v, Option.toList_some, Option.toList_none, List.cons_append, List.nil_append, List.append_nil]
        have xEnd : ∀ (m : Nat → Nat → Int) (q : Nat → Nat → Option Nat) (w : Option (Nat → Int64)) (W' : Nat → Int) (k' : Nat) (x' : rd), onX m T n → gx n x' → rBd (vV (mk (mr (wx m W' k' op) x') q w)) (fun v M' => gv (dx - 1) rR199 35 [some (.ref 363), some (.int (iI ((7 : Nat) : Int))), none, none] (v.toList ++ []) M') = vV (mk (mr (wx m W' k' op) (xSg T n 59 x')) q w) := by
          intro m q w W' k' x' h hx'
          simp only [rBd_v, Option.toList_some, Option.toList_none, List.cons_append, List.nil_append, List.append_nil, b_199_35, b_199_144]
          rw [V_176 (by omega) (wx_on _ _ _ _ h) hx' (by omega)]
          simp only [rBd_v, Option.toList_some, Option.toList_none, List.cons_append, List.nil_append, List.append_nil, b_199_150]
        by_cases fineB : sB.2.1 = 0
        · have fineA : sA.2.1 = 0 := by
            by_cases fA' : sA.2.1 = 0
            · exact fA'
            · exact absurd fineB (by rw [eB, f_aEx fA']; exact fA')
          obtain ⟨-, pA, v0e, v1e, v2e, b0, -, -, z1, z2⟩ := q4 fineA
          have v1z := z1 rfl
          have v2z := z2 rfl
          have v0b : (0 : Int) ≤ v0 T n ns 7 s9 ∧ v0 T n ns 7 s9 ≤ 40 := b0 (0, 40) rfl
          have pB : sA.1 < sB.1 := by
            have := ex_gt (T := T) (n := n) (c := 91) fineA (by rw [← eB]; exact fineB)
            rw [← eB] at this
            exact this
          have yB := (rel_fine rB).mp fineB
          have nB := gB.1
          obtain ⟨s5, x5, K5, N5, Bh5, W5, z5, k5, c5, i5, -, ⟨g5, gx5, r5, w5⟩, l5'⟩ := hL (n - sB.1) (by omega) (d - 2) (dx - 2) (op + 1) (z + 1) 0 (row K z (some 7)) (row (row (row N (3 * z) (v0 T n ns 7 s9)) (3 * z + 1) (v1 T n ns 7 s9)) (3 * z + 2) (v2 T n ns 7 s9)) Bh (w4 W (4 * z) 7 (u0 T n ns 7 (s0.1 + 5, x0.2)) 0 0) sB xB (by omega) (by omega) (by omega) gB gxB rB fineB (Nat.le_refl _) (by omega) (by omega) (by omega)
          obtain ⟨x6, gx6, r6, i6⟩ := X_in (d := dx - 2) (show 12 ≤ dx - 2 by omega) (show n ≤ 600 by omega) hT g5 gx5 r5 (fun h => (l5' h).2)
          obtain ⟨s6, e6⟩ : ∃ s6 : rd, s6 = aEx T n 93 (aN T n s5) := ⟨_, rfl⟩
          rw [← e6] at r6
          have g6 : gd n s6 := by rw [e6]; exact aEx_gd (aN_gd g5)
          have cP5 : ∀ (m : Nat → Nat → Int) (q : Nat → Nat → Option Nat) (w : Option (Nat → Int64)), onT m T n → ev d 100 [.ref 103, .ref 101, .int (iI ns), .int (iI op)] (mk (tr (ww m N Bh z) s) (row q 104 K) w) = vV (mk (tr (ww m N5 (row Bh5 z z5) z5) s6) (row q 104 K5) w) := by
            intro m q w h
            have hO := ww_on m (row (row (row N (3 * z) (v0 T n ns 7 s9)) (3 * z + 1) (v1 T n ns 7 s9)) (3 * z + 2) (v2 T n ns 7 s9)) Bh (z + 1) h
            rw [cP4 m q w h, ← eA, b_100_139 (by decide), if_pos rfl, U_9 (by omega) hO q2 (by omega), ← eB]
            simp only [rBd_v, Option.toList_some, Option.toList_none, List.cons_append, List.nil_append, List.append_nil, b_100_153]
            rw [e_101 (by omega) _ rfl rfl rfl rfl, b_101_0, show ((op : Nat) : Int) + 1 = ((op + 1 : Nat) : Int) from rfl, show d - 1 - 1 = d - 2 by omega]
            refine (congrArg (fun o => rBd o _) (c5 m q w h)).trans ?_
            simp only [rBd_v, Option.toList_some, Option.toList_none, List.cons_append, List.nil_append, List.append_nil, b_100_162]
            rw [U_9 (by omega) (ww_on _ _ _ _ h) (aN_gd g5) (by omega), ← e6]
            simp only [rBd_v, Option.toList_some, Option.toList_none, List.cons_append, List.nil_append, List.append_nil]
            rw [b_100_168 (by omega) (by omega), tr_o (by decide), ww_3, tr_wo (by decide), Int.toNat_natCast, ww_w6]
          have xP4 : ∀ (m : Nat → Nat → Int) (q : Nat → Nat → Option Nat) (w : Option (Nat → Int64)), onX m T n → m 363 15 = ns → ev dx 199 [.ref 363] (mk (mr (wx m W (4 * z) op) x) q w) = rBd (gv (dx - 2) rR198 62 [some (.ref 363), some (.int (iI (u0 T n ns 7 (s0.1 + 5, x0.2)))), some (.int (iI ((4 * z : Nat) : Int)))] [] (mk (mr (wx m W5 k5 (op + 1)) x6) q w)) (fun v M' => gv (dx - 1) rR199 35 [some (.ref 363), some (.int (iI ((7 : Nat) : Int))), none, none] (v.toList ++ []) M') := by
            intro m q w h h15
            have e28 : mr (wx m W (4 * z) (op + 1)) xB 363 28 = ((4 * z : Nat) : Int) := by rw [mr_b _ _ (by decide) (by decide) (by decide), wx_28]
            rw [xP3 m q w h, b_198_19, e28, V_195 (by omega) gxB (fun _ => hy200), if_pos yB]
            simp only [rBd_v, Option.toList_some, Option.toList_none, List.cons_append, List.nil_append, List.append_nil]
            have i5' := i5 m q w (some (.int (iI (u0 T n ns 7 (s0.1 + 5, x0.2))))) ((4 * z : Nat) : Int) h h15
            rw [show 4 * (z + 1) = 4 * z + 4 by omega] at i5'
            rw [i5', i6 _ q w _ _ (wx_on _ _ _ _ h)]
          by_cases fine6 : s6.2.1 = 0
          · have fine5 : s5.2.1 = 0 := by
              by_cases f5 : s5.2.1 = 0
              · exact f5
              · exact absurd fine6 (by rw [e6, f_aN f5, f_aEx f5]; exact f5)
            obtain ⟨rfl, a5, d5, o5, ag5, g5n, nst5⟩ := w5 fine5
            have p5 := (l5' fine5).1
            have y6 := (rel_fine r6).mp fine6
            have n5 := g5.1
            have eN : aN T n s5 = (skip T n s5.1, s5.2) := by
              unfold aN
              rw [if_pos fine5]
            have p6 : s5.1 < s6.1 := by
              have h9 := ex_gt (T := T) (n := n) (s := aN T n s5) (c := 93) (by rw [eN]; exact fine5) (by rw [← e6]; exact fine6)
              rw [← e6, eN] at h9
              have h8 := (skip_le T g5.1).1
              have h7 : skip T n s5.1 < s6.1 := h9
              omega
            have n6 := g6.1
            refine ⟨s6, xSg T n 59 x6, K5, N5, row Bh5 z z5, row W5 (4 * z + 2) ((4 * z5 : Nat) : Int), z5, 4 * z5, cP5, ?_, g6, ⟨aEx_gd g6, xSg_gx (by omega) (by omega) gx6, rel_sg (by omega) r6, fun f59 => ⟨rfl, by omega, ?_, ?_, ?_, ?_⟩⟩, fun f59 => ?_⟩
            · intro m q w h h15
              have e7 : mr (wx m W5 (4 * z5) (op + 1)) x6 363 7 = ((op + 1 : Nat) : Int) := by rw [mr_b _ _ (by decide) (by decide) (by decide), wx_7]
              have e28 : mr (wx m W5 (4 * z5) op) x6 363 28 = ((4 * z5 : Nat) : Int) := by rw [mr_b _ _ (by decide) (by decide) (by decide), wx_28]
              rw [xP4 m q w h h15, b_198_62, e7, mr_wi (by decide) (by decide) (by decide), show ((op + 1 : Nat) : Int) - 1 = ((op : Nat) : Int) by omega, wx_w7, V_167 (by omega) gx6]
              simp only [rBd_v, Option.toList_some, Option.toList_none, List.cons_append, List.nil_append, List.append_nil, b_198_76, zb_0]
              rw [if_neg (not_not_intro y6), b_198_79 (by omega) (by omega), e28, mr_wo (by decide), show (((4 * z : Nat) : Int) + 2).toNat = 4 * z + 2 by omega, wx_w4, b_198_91]
              exact xEnd m q w _ _ x6 h gx6
            · have h9 := ex_gt (T := T) (n := n) (c := 59) fine6 f59
              omega
            · intro i i1 i2
              by_cases hi : i = z
              · subst hi
                obtain ⟨c1, c2, c3, c4, c5', c6, c7, c8, c9⟩ := ag5 i (by omega)
                refine ⟨7, by rw [c1, row_s], by decide, ?_, ?_, Or.inl ⟨rfl, ?_, ?_, ?_⟩⟩
                · rw [row_o _ _ _ (by omega), c6]
                  unfold w4
                  rw [row_o _ _ _ (by omega), row_o _ _ _ (by omega), row_o _ _ _ (by omega), row_s]
                  rfl
                · rw [row_o _ _ _ (by omega), c7, c3]
                  unfold w4
                  rw [row_o _ _ _ (by omega), row_o _ _ _ (by omega), row_s, row_o _ _ _ (by omega), row_o _ _ _ (by omega), row_s, v0e]
                · rw [c3, row_o _ _ _ (by omega), row_o _ _ _ (by omega), row_s]
                  exact v0b.1
                · rw [c3, row_o _ _ _ (by omega), row_o _ _ _ (by omega), row_s]
                  exact v0b.2
                · rw [row_s, row_s]
                  omega
              · have h9 := o5 i (by omega) i2
                unfold okP at h9 ⊢
                rw [row_o _ _ _ (show 4 * i ≠ 4 * z + 2 by omega), row_o _ _ _ (show 4 * i + 1 ≠ 4 * z + 2 by omega), row_o _ _ _ (show 4 * i + 2 ≠ 4 * z + 2 by omega), row_o _ _ _ (show 4 * i + 3 ≠ 4 * z + 2 by omega), row_o _ _ _ (show i ≠ z by omega)]
                exact h9
            · intro i hi
              obtain ⟨c1, c2, c3, c4, c5', c6, c7, c8, c9⟩ := ag5 i (by omega)
              unfold w4 at c6 c7 c8 c9
              refine ⟨by rw [c1, row_o _ _ _ (by omega)], by rw [row_o _ _ _ (by omega), c2], ?_, ?_, ?_, ?_, ?_, ?_, ?_⟩
              · rw [c3, row_o _ _ _ (by omega), row_o _ _ _ (by omega), row_o _ _ _ (by omega)]
              · rw [c4, row_o _ _ _ (by omega), row_o _ _ _ (by omega), row_o _ _ _ (by omega)]
              · rw [c5', row_o _ _ _ (by omega), row_o _ _ _ (by omega), row_o _ _ _ (by omega)]
              · rw [row_o _ _ _ (by omega), c6, row_o _ _ _ (by omega), row_o _ _ _ (by omega), row_o _ _ _ (by omega), row_o _ _ _ (by omega)]
              · rw [row_o _ _ _ (by omega), c7, row_o _ _ _ (by omega), row_o _ _ _ (by omega), row_o _ _ _ (by omega), row_o _ _ _ (by omega)]
              · rw [row_o _ _ _ (by omega), c8, row_o _ _ _ (by omega), row_o _ _ _ (by omega), row_o _ _ _ (by omega), row_o _ _ _ (by omega)]
              · rw [row_o _ _ _ (by omega), c9, row_o _ _ _ (by omega), row_o _ _ _ (by omega), row_o _ _ _ (by omega), row_o _ _ _ (by omega)]
            · refine ⟨g5n + 1, Or.inr ⟨by omega, z5, by rw [row_s], by omega, Nat.le_refl _, fun _ => ⟨h6, ?_⟩, ?_⟩⟩
              · exact nest_congr _ _ _ _ nst5 (fun i i1 i2 => ⟨rfl, by rw [row_o _ _ _ (by omega)]⟩)
              · cases g5n with
                | zero => exact rfl
                | succ g => exact Or.inl rfl
            · have h9 := ex_gt (T := T) (n := n) (c := 59) fine6 f59
              omega
          · have y6 := rel_nf r6 fine6
            have f59 : aEx T n 59 s6 = s6 := f_aEx fine6
            refine ⟨s6, x6, K5, N5, row Bh5 z z5, W5, z5, k5, cP5, ?_, g6, ?_, ?_⟩
            · intro m q w h h15
              rw [xP4 m q w h h15, Y62 (by omega) gx6 y6, xEnd m q w _ _ x6 h gx6, f_xSg y6]
            · rw [f59]
              exact ⟨g6, gx6, r6, fun h => absurd h fine6⟩
            · rw [f59]
              exact fun h => absurd h fine6
        · have yB := rel_nf rB fineB
          have f59 : aEx T n 59 sB = sB := f_aEx fineB
          refine ⟨sB, xB, row K z (some 7), row (row (row N (3 * z) (v0 T n ns 7 s9)) (3 * z + 1) (v1 T n ns 7 s9)) (3 * z + 2) (v2 T n ns 7 s9), row Bh z ((z + 1 : Nat) : Int), W, z + 1, 4 * z, ?_, ?_, gB, ?_, ?_⟩
          · intro m q w h
            have hO := ww_on m (row (row (row N (3 * z) (v0 T n ns 7 s9)) (3 * z + 1) (v1 T n ns 7 s9)) (3 * z + 2) (v2 T n ns 7 s9)) Bh (z + 1) h
            rw [cP4 m q w h, ← eA, b_100_139 (by decide), if_pos rfl, U_9 (by omega) hO q2 (by omega), ← eB]
            simp only [rBd_v, Option.toList_some, Option.toList_none, List.cons_append, List.nil_append, List.append_nil, b_100_153]
            rw [F_101 (by omega) hO gB fineB]
            simp only [rBd_v, Option.toList_some, Option.toList_none, List.cons_append, List.nil_append, List.append_nil, b_100_162]
            rw [U_9 (by omega) hO gB (by omega), f_aEx fineB]
            simp only [rBd_v, Option.toList_some, Option.toList_none, List.cons_append, List.nil_append, List.append_nil]
            rw [b_100_168 (by omega) (by omega), tr_o (by decide), ww_3, tr_wo (by decide), Int.toNat_natCast, ww_w6]
          · intro m q w h h15
            rw [xP3 m q w h, Y19 (by omega) h gxB yB, xEnd m q w _ _ xB h gxB, f_xSg yB]
          · rw [f59]
            exact ⟨gB, gxB, rB, fun h => absurd h fineB⟩
          · rw [f59]
            exact fun h => absurd h fineB
      · have nf : ((s9.1, (3 : Int), (s0.1 : Int)) : rd).2.1 ≠ 0 := by show (3 : Int) ≠ 0; decide
        have gs : gd n (s9.1, 3, (s0.1 : Int)) := ⟨n9, by show i32 (3 : Int); omega⟩
        have gxA : gx n (s0.1, (s0.1 : Int), 3) := ⟨hs0.1, by show i32 (s0.1 : Int); omega⟩
        have yf : ((s0.1, (s0.1 : Int), 3) : rd).2.1 ≠ -1 := by show (s0.1 : Int) ≠ -1; omega
        have eb : aBl 3 s0.1 s9 = (s9.1, 3, (s0.1 : Int)) := by
          unfold aBl
          rw [if_pos h90]
        refine ⟨(s9.1, 3, (s0.1 : Int)), (s0.1, (s0.1 : Int), 3), K, N, Bh, W, z, 4 * z, ?_, ?_, gs, ?_, ?_⟩
        · intro m q w h
          rw [cP2 m q w h, b_100_39 (by decide), if_pos rfl, if_neg (by rw [iI_lt (by omega) (by omega)]; omega), U_5 (by omega) g9, eb]
          simp only [rBd_v, Option.toList_some, Option.toList_none, List.cons_append, List.nil_append, List.append_nil, b_100_60]
        · intro m q w h h15
          have e7 : wx m W (4 * z) op 363 7 = op := wx_7 m W (4 * z) op
          rw [xP m q w h]
          dsimp only
          rw [b_199_7, if_neg (show ¬ iI ((7 : Nat) : Int) = iI (-1) by decide), if_pos (show iI ((7 : Nat) : Int) = iI 7 from rfl), e_198 (by omega) _ rfl, b_198_0, show iI 5 = iI ((5 : Nat) : Int) from rfl, V_185g (by omega) hx00 (by omega) e7 hop (by omega), wx_w7]
          have ex : xOp 5 op x0 = (s0.1, (s0.1 : Int), 3) := by
            unfold xOp
            rw [if_pos y00, if_pos (by omega), hxp0]
          rw [ex]
          simp only [rBd_v, Option.toList_some, Option.toList_none, List.cons_append, List.nil_append, List.append_nil, b_198_5]
          rw [V_175 (by omega) (wx_on _ _ _ _ h) gxA (by omega) (by omega), f_xNum yf]
          simp only [rBd_v, Option.toList_some, Option.toList_none, List.cons_append, List.nil_append, List.append_nil, b_198_12]
          rw [V_176 (by omega) (wx_on _ _ _ _ h) gxA (by omega), f_xSg yf]
          simp only [rBd_v, Option.toList_some, Option.toList_none, List.cons_append, List.nil_append, List.append_nil]
          rw [Y19 (by omega) h gxA yf]
          simp only [rBd_v, Option.toList_some, Option.toList_none, List.cons_append, List.nil_append, List.append_nil, b_199_35, b_199_144]
          rw [V_176 (by omega) (wx_on _ _ _ _ h) gxA (by omega), f_xSg yf]
          simp only [rBd_v, Option.toList_some, Option.toList_none, List.cons_append, List.nil_append, List.append_nil, b_199_150]
        · rw [f_aEx nf]
          exact ⟨gs, gxA, Or.inr ⟨by show (3 : Int) ≠ 0; decide, by show (s0.1 : Int) ≠ -1; omega, rfl, rfl⟩, fun h => absurd h nf⟩
        · rw [f_aEx nf]
          exact fun h => absurd h nf
    · -- a plain step
      clear hL
      have hk77 : k < 7 := by omega
      have gxA : gx n (wEnd T (n - s0.1) s0.1, x0.2) := ⟨by have h9 := rel_at u1' h90; have h8 : wEnd T (n - s0.1) s0.1 = s9.1 := h9; omega, hx00.2⟩
      obtain ⟨q1, q2, q3, q4⟩ := rel_3 (T := T) hT (show n ≤ 600 by omega) (ns := (ns : Int)) (by omega) k g9 gxA u1'
      have cE : ∀ (m : Nat → Nat → Int) (q : Nat → Nat → Option Nat) (w : Option (Nat → Int64)), onT m T n → ev d 100 [.ref 103, .ref 101, .int (iI ns), .int (iI op)] (mk (tr (ww m N Bh z) s) (row q 104 K) w) = vV (mk (tr (ww m (row (row (row N (3 * z) (v0 T n ns k s9)) (3 * z + 1) (v1 T n ns k s9)) (3 * z + 2) (v2 T n ns k s9)) (row Bh z ((z + 1 : Nat) : Int)) (z + 1)) (a3 T n ns k s9)) (row q 104 (row K z (some k))) w) := by
        intro m q w h
        rw [cP2 m q w h, b_100_39 hk8, if_neg hk7, cP3 m q w h, b_100_139 hk8, if_neg hk7, b_100_168 (by omega) (by omega), tr_o (by decide), ww_3, tr_wo (by decide), Int.toNat_natCast, ww_w6]
      have xE : ∀ (m : Nat → Nat → Int) (q : Nat → Nat → Option Nat) (w : Option (Nat → Int64)), onX m T n → m 363 15 = ns → ev dx 199 [.ref 363] (mk (mr (wx m W (4 * z) op) x) q w) = if (y3 T n ns k (wEnd T (n - s0.1) s0.1, x0.2)).2.1 = -1 then vV (mk (mr (wx m (w4 W (4 * z) k (u0 T n ns k (wEnd T (n - s0.1) s0.1, x0.2)) (u1 T n ns k (wEnd T (n - s0.1) s0.1, x0.2)) (u2 T n ns k (wEnd T (n - s0.1) s0.1, x0.2))) (4 * z + 4) op) (xSg T n 59 (y3 T n ns k (wEnd T (n - s0.1) s0.1, x0.2)))) q w) else vV (mk (mr (wx m W (4 * z) op) (y3 T n ns k (wEnd T (n - s0.1) s0.1, x0.2))) q w) := by
        intro m q w h h15
        rw [xP m q w h]
        dsimp only
        rw [b_199_7, if_neg (by rw [iI_eq (by omega) (by omega)]; omega), if_neg (by rw [iI_eq (by omega) (by omega)]; omega), V_174 (by omega) (wx_on _ _ _ _ h) hx00, hxp0]
        simp only [rBd_v, Option.toList_some, Option.toList_none, List.cons_append, List.nil_append, List.append_nil]
        exact X_199k (by omega) (by omega) h gxA h15 hnI hk77 hy200
      obtain ⟨s3, e3⟩ : ∃ s3 : rd, s3 = a3 T n ns k s9 := ⟨_, rfl⟩
      obtain ⟨x3, f3⟩ : ∃ x3 : rd, x3 = y3 T n ns k (wEnd T (n - s0.1) s0.1, x0.2) := ⟨_, rfl⟩
      rw [← e3] at q1 q2 q4 cE
      rw [← f3] at q1 q3 xE
      by_cases fine3 : s3.2.1 = 0
      · obtain ⟨-, p3, v0e, v1e, v2e, b0, b1, b2, -, -⟩ := q4 fine3
        have y3' := (rel_fine q1).mp fine3
        have hok : okS ns k (v0 T n ns k s9) (v1 T n ns k s9) (v2 T n ns k s9) := okS_of (T := T) (n := n) hk77 b0 b1 b2
        refine ⟨s3, xSg T n 59 x3, _, _, _, _, z + 1, 4 * z + 4, cE, fun m q w h h15 => by rw [xE m q w h h15, if_pos y3'], q2, ⟨aEx_gd q2, xSg_gx (by omega) (by omega) q3, rel_sg (by omega) q1, fun f59 => ⟨by omega, by omega, ?_, ?_, ?_, ?_⟩⟩, fun f59 => ?_⟩
        · have h9 := ex_gt (T := T) (n := n) (c := 59) fine3 f59
          omega
        · intro i i1 i2
          have hi : i = z := by omega
          subst hi
          refine ⟨k, by rw [row_s], hk8, ?_, ?_, Or.inr ⟨hk7, ?_, ?_, ?_, ?_⟩⟩
          · unfold w4
            rw [row_o _ _ _ (by omega), row_o _ _ _ (by omega), row_o _ _ _ (by omega), row_s]
          · unfold w4
            rw [row_o _ _ _ (by omega), row_o _ _ _ (by omega), row_s, row_o _ _ _ (by omega), row_o _ _ _ (by omega), row_s, v0e]
          · unfold w4
            rw [row_o _ _ _ (by omega), row_s, row_o _ _ _ (by omega), row_s, v1e]
          · unfold w4
            rw [row_s, row_s, v2e]
          · have c0 : row (row (row N (3 * i) (v0 T n ns k s9)) (3 * i + 1) (v1 T n ns k s9)) (3 * i + 2) (v2 T n ns k s9) (3 * i) = v0 T n ns k s9 := by rw [row_o _ _ _ (by omega), row_o _ _ _ (by omega), row_s]
            have c1 : row (row (row N (3 * i) (v0 T n ns k s9)) (3 * i + 1) (v1 T n ns k s9)) (3 * i + 2) (v2 T n ns k s9) (3 * i + 1) = v1 T n ns k s9 := by rw [row_o _ _ _ (by omega), row_s]
            rw [c0, c1, row_s]
            exact hok
          · rw [row_s]
            rfl
        · intro i hi
          unfold w4
          refine ⟨by rw [row_o _ _ _ (by omega)], by rw [row_o _ _ _ (by omega)], ?_, ?_, ?_, ?_, ?_, ?_, ?_⟩
          · rw [row_o _ _ _ (by omega), row_o _ _ _ (by omega), row_o _ _ _ (by omega)]
          · rw [row_o _ _ _ (by omega), row_o _ _ _ (by omega), row_o _ _ _ (by omega)]
          · rw [row_o _ _ _ (by omega), row_o _ _ _ (by omega), row_o _ _ _ (by omega)]
          · rw [row_o _ _ _ (by omega), row_o _ _ _ (by omega), row_o _ _ _ (by omega), row_o _ _ _ (by omega)]
          · rw [row_o _ _ _ (by omega), row_o _ _ _ (by omega), row_o _ _ _ (by omega), row_o _ _ _ (by omega)]
          · rw [row_o _ _ _ (by omega), row_o _ _ _ (by omega), row_o _ _ _ (by omega), row_o _ _ _ (by omega)]
          · rw [row_o _ _ _ (by omega), row_o _ _ _ (by omega), row_o _ _ _ (by omega), row_o _ _ _ (by omega)]
        · exact ⟨1, Or.inr ⟨by omega, z + 1, by rw [row_s], by omega, Nat.le_refl _, fun hK => by rw [row_s] at hK; cases hK; exact absurd rfl hk7, rfl⟩⟩
        · have h9 := ex_gt (T := T) (n := n) (c := 59) fine3 f59
          omega
      · have y3' := rel_nf q1 fine3
        have f59 : aEx T n 59 s3 = s3 := f_aEx fine3
        refine ⟨s3, x3, _, _, _, W, z + 1, 4 * z, cE, fun m q w h h15 => by rw [xE m q w h h15, if_neg y3'], q2, ?_, ?_⟩
        · rw [f59]
          exact ⟨q2, q3, q1, fun h => absurd h fine3⟩
        · rw [f59]
          exact fun h => absurd h fine3
end J
