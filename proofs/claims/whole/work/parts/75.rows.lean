/-! ===== a work is read by both ===== -/
def okP (ns : Nat) (K : Nat → Option Nat) (N Bh W : Nat → Int) (i : Nat) : Prop := ∃ k, K i = some k ∧ k < 8 ∧ W (4 * i) = k ∧ W (4 * i + 1) = N (3 * i) ∧ ((k = 7 ∧ 0 ≤ N (3 * i) ∧ N (3 * i) ≤ 40 ∧ W (4 * i + 2) = 4 * Bh i) ∨ (k ≠ 7 ∧ W (4 * i + 2) = N (3 * i + 1) ∧ W (4 * i + 3) = N (3 * i + 2) ∧ okS ns k (N (3 * i)) (N (3 * i + 1)) (N (3 * i + 2)) ∧ Bh i = i + 1))
/-- steps f .. t - 1 stand at level L -/
def nest (K : Nat → Option Nat) (Bh : Nat → Int) : Nat → Nat → Nat → Nat → Prop
  | 0, f, t, _ => f = t
  | g + 1, f, t, L => f = t ∨ (f < t ∧ ∃ e : Nat, Bh f = e ∧ f < e ∧ e ≤ t ∧ (K f = some 7 → L < 6 ∧ nest K Bh g (f + 1) e (L + 1)) ∧ nest K Bh g e t L)
theorem nest_ord {K : Nat → Option Nat} {Bh : Nat → Int} : ∀ (g f t L : Nat), nest K Bh g f t L → f ≤ t := by
  intro g
  cases g with
  | zero => intro f t L h; exact Nat.le_of_eq h
  | succ g =>
    intro f t L h
    rcases h with h | ⟨h, -⟩
    · omega
    · omega
theorem nest_congr {K K2 : Nat → Option Nat} {Bh Bh2 : Nat → Int} : ∀ (g f t L : Nat), nest K Bh g f t L → (∀ i, f ≤ i → i < t → K2 i = K i ∧ Bh2 i = Bh i) → nest K2 Bh2 g f t L := by
  intro g
  induction g with
  | zero => intro f t L h _; exact h
  | succ g ih =>
    intro f t L h hc
    rcases h with h | ⟨h1, e, h2, h3, h4, h5, h6⟩
    · exact Or.inl h
    · obtain ⟨c1, c2⟩ := hc f (Nat.le_refl _) h1
      refine Or.inr ⟨h1, e, c2.trans h2, h3, h4, fun hk => ?_, ih e t L h6 (fun i i1 i2 => hc i (by omega) i2)⟩
      rw [c1] at hk
      obtain ⟨l1, l2⟩ := h5 hk
      exact ⟨l1, ih _ _ _ l2 (fun i i1 i2 => hc i (by omega) (by omega))⟩
theorem nest_mono {K : Nat → Option Nat} {Bh : Nat → Int} : ∀ (g f t L : Nat), nest K Bh g f t L → nest K Bh (g + 1) f t L := by
  intro g
  induction g with
  | zero => intro f t L h; exact Or.inl h
  | succ g ih =>
    intro f t L h
    rcases h with h | ⟨h1, e, h2, h3, h4, h5, h6⟩
    · exact Or.inl h
    · exact Or.inr ⟨h1, e, h2, h3, h4, fun hk => ⟨(h5 hk).1, ih _ _ _ (h5 hk).2⟩, ih _ _ _ h6⟩
theorem nest_le {K : Nat → Option Nat} {Bh : Nat → Int} {g g2 f t L : Nat} (hg : g ≤ g2) (h : nest K Bh g f t L) : nest K Bh g2 f t L := by
  obtain ⟨k, rfl⟩ : ∃ k, g2 = g + k := ⟨g2 - g, by omega⟩
  clear hg
  induction k with
  | zero => exact h
  | succ k ih => exact nest_mono _ _ _ _ ih
theorem nest_app {K : Nat → Option Nat} {Bh : Nat → Int} : ∀ (g f e t L g2 : Nat), nest K Bh g f e L → nest K Bh g2 e t L → ∃ g3, nest K Bh g3 f t L := by
  intro g
  induction g with
  | zero =>
    intro f e t L g2 h h2
    have h9 : f = e := h
    subst h9
    exact ⟨g2, h2⟩
  | succ g ih =>
    intro f e t L g2 h h2
    rcases h with h | ⟨h1, a, a2, a3, a4, a5, a6⟩
    · subst h
      exact ⟨g2, h2⟩
    · obtain ⟨g3, h3⟩ := ih a e t L g2 a6 h2
      have := nest_ord _ _ _ _ h2
      exact ⟨g + g3 + 1, Or.inr ⟨by omega, a, a2, a3, by omega, fun hk => ⟨(a5 hk).1, nest_le (by omega) (a5 hk).2⟩, nest_le (by omega) h3⟩⟩
/-- the rows below z are as they were -/
def agr (z : Nat) (K : Nat → Option Nat) (N Bh W : Nat → Int) (K' : Nat → Option Nat) (N' Bh' W' : Nat → Int) : Prop := ∀ i, i < z → K' i = K i ∧ Bh' i = Bh i ∧ N' (3 * i) = N (3 * i) ∧ N' (3 * i + 1) = N (3 * i + 1) ∧ N' (3 * i + 2) = N (3 * i + 2) ∧ W' (4 * i) = W (4 * i) ∧ W' (4 * i + 1) = W (4 * i + 1) ∧ W' (4 * i + 2) = W (4 * i + 2) ∧ W' (4 * i + 3) = W (4 * i + 3)
theorem agr_trans {z z2 : Nat} (hz : z ≤ z2) {K K1 K2 : Nat → Option Nat} {N Bh W N1 Bh1 W1 N2 Bh2 W2 : Nat → Int} (h1 : agr z K N Bh W K1 N1 Bh1 W1) (h2 : agr z2 K1 N1 Bh1 W1 K2 N2 Bh2 W2) : agr z K N Bh W K2 N2 Bh2 W2 := by
  intro i hi
  obtain ⟨a1, a2, a3, a4, a5, a6, a7, a8, a9⟩ := h1 i hi
  obtain ⟨b1, b2, b3, b4, b5, b6, b7, b8, b9⟩ := h2 i (by omega)
  exact ⟨b1.trans a1, b2.trans a2, b3.trans a3, b4.trans a4, b5.trans a5, b6.trans a6, b7.trans a7, b8.trans a8, b9.trans a9⟩
theorem okP_agr {ns z : Nat} {K K1 : Nat → Option Nat} {N Bh W N1 Bh1 W1 : Nat → Int} (h1 : agr z K N Bh W K1 N1 Bh1 W1) {i : Nat} (hi : i < z) (h : okP ns K N Bh W i) : okP ns K1 N1 Bh1 W1 i := by
  obtain ⟨a1, a2, a3, a4, a5, a6, a7, a8, a9⟩ := h1 i hi
  unfold okP at *
  rw [a1, a2, a3, a4, a5, a6, a7, a8, a9]
  exact h
theorem tk_pl {T : Nat → Int} {n : Nat} : ∀ (L : List (Nat × List Nat)) (s : rd), gd n s → s.2.1 = 0 → ∀ k, (tkS T n L s).1 = some k → ∃ l, (k, l) ∈ L ∧ (tkS T n L s).2 = (skip T n s.1 + l.length, s.2) := by
  intro L
  induction L with
  | nil => intro s _ _ k h; cases h
  | cons e L ih =>
    intro s hs h0 k h
    obtain ⟨j, l⟩ := e
    unfold tkS at h ⊢
    by_cases hw : aWd T n l s
    · rw [if_pos hw] at h ⊢
      cases h
      refine ⟨l, List.mem_cons_self, ?_⟩
      unfold aTw
      rw [if_pos hw]
    · rw [if_neg hw] at h ⊢
      have e1 : aTw T n l s = (skip T n s.1, s.2) := by
        unfold aTw aN
        rw [if_neg hw, if_pos h0]
      obtain ⟨l2, m2, e2⟩ := ih _ (aTw_gd' hs) (by rw [e1]; exact h0) k h
      refine ⟨l2, List.mem_cons_of_mem _ m2, ?_⟩
      rw [e2, e1]
      show (skip T n (skip T n s.1) + l2.length, s.2) = _
      rw [skip_fix T hs.1]
theorem stL_len : ∀ e ∈ stL, 3 ≤ e.2.length ∧ (e.1 = 7 → e.2.length = 5) := by decide
theorem wVal_0 {T : Nat → Int} {n p : Nat} (h : ¬ aF T n p 97 122) : wVal T n p = 0 := by
  unfold wVal
  have h1 : wrd T (n - p) p 0 0 = (0, 0) := by
    cases hg : n - p with
    | zero => rfl
    | succ g =>
      unfold wrd
      rw [if_neg (fun z => h ⟨by omega, z⟩)]
  rw [h1]
  rfl
theorem lkW_0 : lkW 0 stL = none := by decide +kernel
section S
variable {d n : Nat} {m : Nat → Nat → Int} {q : Nat → Nat → Option Nat} {w : Option (Nat → Int64)} {T : Nat → Int} {s x : rd} {z op k : Nat} {N Bh W : Nat → Int} {K : Nat → Option Nat}
theorem F_101_3 (hd : 3 ≤ d) (h : onT m T n) (hs : gd n s) (h0 : s.2.1 ≠ 0) {a b i : Int} (hi : i32 i) : gv d rR101 3 [some (.ref 103), some (.ref 101), some (.int (iI a)), some (.int (iI b)), some (.int (iI i))] [] (mk (tr m s) q w) = vV (mk (tr m s) q w) := by
  simp only [b_101_3, iI_lt hi (by omega : i32 150), U_26 (show 2 ≤ d by omega) h hs, f_aN h0, rBd_v, Option.toList_some, Option.toList_none, List.cons_append, List.nil_append, List.append_nil, b_101_15, zb_0, b_101_37]
  split
  · rw [if_pos (fun z => h0 z.1)]
  · rfl
theorem F_101 (hd : 4 ≤ d) (h : onT m T n) (hs : gd n s) (h0 : s.2.1 ≠ 0) {a b : Int} : ev d 101 [.ref 103, .ref 101, .int (iI a), .int (iI b)] (mk (tr m s) q w) = vV (mk (tr m s) q w) := by
  rw [e_101 (by omega) _ rfl rfl rfl rfl, b_101_0]
  exact F_101_3 (by omega) h hs h0 (by omega)
/-- behind an again's words, with a fault: the class -/
theorem H_139 (hd : 5 ≤ d) (h : onT m T n) (hs : gd n s) (h0 : s.2.1 ≠ 0) {a b c e : Int} {y : Nat} (hy : y < 150) : gv d rR100 139 [some (.ref 103), some (.ref 101), some (.int (iI a)), some (.int (iI b)), some (.int (iI c)), some (.ref 7), some (.int (iI y)), some (.int (iI e))] [] (mk (tr (ww m N Bh z) s) q w) = vV (mk (tr (ww m N (row Bh y z) z) s) q w) := by
  have hO := ww_on m N Bh z h
  rw [b_100_139 (by decide), if_pos rfl, U_9 (by omega) hO hs (by omega), f_aEx h0]
  simp only [rBd_v, Option.toList_some, Option.toList_none, List.cons_append, List.nil_append, List.append_nil, b_100_153]
  rw [F_101 (by omega) hO hs h0]
  simp only [rBd_v, Option.toList_some, Option.toList_none, List.cons_append, List.nil_append, List.append_nil, b_100_162]
  rw [U_9 (by omega) hO hs (by omega), f_aEx h0]
  simp only [rBd_v, Option.toList_some, Option.toList_none, List.cons_append, List.nil_append, List.append_nil]
  rw [b_100_168 (by omega) (by omega), tr_o (by decide), ww_3, tr_wo (by decide), Int.toNat_natCast, ww_w6]
/-- the reference, behind a fault -/
theorem Y62 (hd : 1 ≤ d) (hs : gx n x) (h0 : x.2.1 ≠ -1) {u : Option Value} {v : Int} : gv d rR198 62 [some (.ref 363), u, some (.int (iI v))] [] (mk (mr (wx m W k (op + 1)) x) q w) = vV (mk (mr (wx m W k op) x) q w) := by
  have e7 : mr (wx m W k (op + 1)) x 363 7 = ((op + 1 : Nat) : Int) := by rw [mr_b _ _ (by decide) (by decide) (by decide), wx_7]
  rw [b_198_62, e7, mr_wi (by decide) (by decide) (by decide), show ((op + 1 : Nat) : Int) - 1 = ((op : Nat) : Int) by omega, wx_w7, V_167 hd hs]
  simp only [rBd_v, Option.toList_some, Option.toList_none, List.cons_append, List.nil_append, List.append_nil, b_198_76, zb_0]
  rw [if_pos h0, b_198_91]
theorem Y33 (hd : 2 ≤ d) (h : onX m T n) (hs : gx n x) (h0 : x.2.1 ≠ -1) {u : Option Value} {v : Int} : gv d rR198 33 [some (.ref 363), u, some (.int (iI v))] [] (mk (mr m x) q w) = gv d rR198 62 [some (.ref 363), u, some (.int (iI v))] [] (mk (mr m x) q w) := by
  rw [b_198_33, V_167 (by omega) hs]
  simp only [rBd_v, Option.toList_some, Option.toList_none, List.cons_append, List.nil_append, List.append_nil, b_198_37, zb_0]
  rw [if_pos h0, b_198_56, V_176 hd h hs (by omega), f_xSg h0]
  simp only [rBd_v, Option.toList_some, Option.toList_none, List.cons_append, List.nil_append, List.append_nil]
theorem Y19 (hd : 3 ≤ d) (h : onX m T n) (hs : gx n x) (h0 : x.2.1 ≠ -1) {t : Int} {u : Option Value} : gv d rR198 19 [some (.ref 363), some (.int (iI t)), u] [] (mk (mr (wx m W k (op + 1)) x) q w) = vV (mk (mr (wx m W k op) x) q w) := by
  have e28 : mr (wx m W k (op + 1)) x 363 28 = k := by rw [mr_b _ _ (by decide) (by decide) (by decide), wx_28]
  rw [b_198_19, e28, show iI 7 = iI ((7 : Nat) : Int) from rfl, V_195 (by omega) hs (fun z => absurd z h0), if_neg h0]
  simp only [rBd_v, Option.toList_some, Option.toList_none, List.cons_append, List.nil_append, List.append_nil]
  rw [Y33 (by omega) (wx_on m W k (op + 1) h) hs h0]
  exact Y62 (by omega) hs h0
theorem X_199n (hd : 12 ≤ d) (h : onX m T n) (hs : gx n x) (hn : n ≤ 600) (h0 : x.2.1 = -1) (hl : ¬ aF T n (skip T n x.1) 97 122) : ev d 199 [.ref 363] (mk (mr m x) q w) = vV (mk (mr m (skip T n x.1, ((skip T n x.1 : Nat) : Int), 1)) q w) := by
  have hsk := skip_le T hs.1
  have g0 : gx n (skip T n x.1, x.2) := ⟨hsk.2, hs.2⟩
  have g1 : gx n (skip T n x.1, ((skip T n x.1 : Nat) : Int), 1) := ⟨hsk.2, by show i32 ((skip T n x.1 : Nat) : Int); omega⟩
  have ew : xWr 1 (skip T n x.1) (skip T n x.1, x.2) = (skip T n x.1, ((skip T n x.1 : Nat) : Int), 1) := by
    unfold xWr
    rw [if_pos h0]
  rw [e_199 (by omega) _ rfl, b_199_0, V_172 (by omega) h hs, wVal_0 hl]
  simp only [rBd_v, Option.toList_some, Option.toList_none, List.cons_append, List.nil_append, List.append_nil, b_199_4]
  rw [V_196 (by omega) (by omega), lkW_0]
  simp only [rBd_v, Option.toList_some, Option.toList_none, List.cons_append, List.nil_append, List.append_nil, b_199_7]
  rw [if_pos trivial, mr_4, V_168 (by omega) g0, ew]
  simp only [rBd_v, Option.toList_some, Option.toList_none, List.cons_append, List.nil_append, List.append_nil, b_199_22, b_199_144]
  rw [V_176 (by omega) h g1 (by omega), f_xSg (by show ((skip T n x.1 : Nat) : Int) ≠ -1; omega)]
  simp only [rBd_v, Option.toList_some, Option.toList_none, List.cons_append, List.nil_append, List.append_nil, b_199_150]
/-- a step that isn't an again: the reference -/
theorem X_199k (hd : 4 ≤ d) (hn : n ≤ 600) (h : onX m T n) (hx : gx n x) {ns : Int} (h15 : m 363 15 = ns) (hns : 0 ≤ ns ∧ ns ≤ 7) {j y : Nat} (hj : j < 7) (hy : y + 3 < 200) {a b : Option Value} : gv d rR199 42 [some (.ref 363), some (.int (iI j)), a, b] [] (mk (mr (wx m W y op) x) q w) =
    if (y3 T n ns j x).2.1 = -1 then vV (mk (mr (wx m (w4 W y j (u0 T n ns j x) (u1 T n ns j x) (u2 T n ns j x)) (y + 4) op) (xSg T n 59 (y3 T n ns j x))) q w) else vV (mk (mr (wx m W y op) (y3 T n ns j x)) q w) := by
  have gX : ∀ (o : Option (Int × Int)) (x : rd), gx n x → gx n (xSl T n o x).2 := by
    intro o x hx
    cases o with
    | none => exact hx
    | some b => exact xNum_gx hn hx
  have g3 : gx n (y3 T n ns j x) := gX _ _ (gX _ _ (gX _ _ hx))
  have hO := wx_on m W y op h
  have hO15 : wx m W y op 363 15 = ns := by rw [wx_b m W y op (by decide) (by decide), h15]
  have fin : ∀ (a b c : Int) (l1 l2 l3 : Option Value), gv d rR199 141 [some (.ref 363), l1, l2, l3] [.int (iI c), .int (iI b), .int (iI a), .int (iI j), .ref 363] (mk (mr (wx m W y op) (y3 T n ns j x)) q w) =
      if (y3 T n ns j x).2.1 = -1 then vV (mk (mr (wx m (w4 W y j a b c) (y + 4) op) (xSg T n 59 (y3 T n ns j x))) q w) else vV (mk (mr (wx m W y op) (y3 T n ns j x)) q w) := by
    intro a b c l1 l2 l3
    rw [b_199_141, V_195 (by omega) g3 (fun _ => hy)]
    by_cases h0 : (y3 T n ns j x).2.1 = -1
    · rw [if_pos h0, if_pos h0]
      simp only [rBd_v, Option.toList_some, Option.toList_none, List.cons_append, List.nil_append, List.append_nil, b_199_144]
      rw [V_176 (by omega) (wx_on _ _ _ _ h) g3 (by omega)]
      simp only [rBd_v, Option.toList_some, Option.toList_none, List.cons_append, List.nil_append, List.append_nil, b_199_150]
    · rw [if_neg h0, if_neg h0]
      simp only [rBd_v, Option.toList_some, Option.toList_none, List.cons_append, List.nil_append, List.append_nil, b_199_144]
      rw [V_176 (by omega) hO g3 (by omega), f_xSg h0]
      simp only [rBd_v, Option.toList_some, Option.toList_none, List.cons_append, List.nil_append, List.append_nil, b_199_150]
  have hc : j = 0 ∨ j = 1 ∨ j = 2 ∨ j = 3 ∨ j = 4 ∨ j = 5 ∨ j = 6 := by omega
  rcases hc with rfl | rfl | rfl | rfl | rfl | rfl | rfl
  · rw [b_199_42, if_pos (show iI ((0 : Nat) : Int) = iI 0 from rfl), V_175 (by omega) hO hx (by omega) (by omega)]
    simp only [rBd_v, Option.toList_some, Option.toList_none, List.cons_append, List.nil_append, List.append_nil, b_199_52, b_199_78]
    rw [if_pos (show iI ((0 : Nat) : Int) = iI 0 from rfl), V_175 (by omega) hO (xNum_gx hn hx) (by omega) (by omega)]
    simp only [rBd_v, Option.toList_some, Option.toList_none, List.cons_append, List.nil_append, List.append_nil, b_199_90, b_199_120]
    rw [if_neg (show ¬ iI ((0 : Nat) : Int) = iI 4 by decide)]
    exact fin _ _ _ _ _ _
  · rw [b_199_42, if_neg (show ¬ iI ((1 : Nat) : Int) = iI 0 by decide), if_neg (show ¬ iI ((1 : Nat) : Int) = iI 2 by decide), if_neg (show ¬ iI ((1 : Nat) : Int) = iI 3 by decide), if_neg (show ¬ iI ((1 : Nat) : Int) = iI 4 by decide), b_199_78, if_neg (show ¬ iI ((1 : Nat) : Int) = iI 0 by decide), if_neg (show ¬ iI ((1 : Nat) : Int) = iI 2 by decide), if_neg (show ¬ iI ((1 : Nat) : Int) = iI 4 by decide), b_199_120, if_neg (show ¬ iI ((1 : Nat) : Int) = iI 4 by decide)]
    exact fin _ _ _ _ _ _
  · rw [b_199_42, if_neg (show ¬ iI ((2 : Nat) : Int) = iI 0 by decide), if_pos (show iI ((2 : Nat) : Int) = iI 2 from rfl), b_199_70, V_197 (by omega) hO hx hO15 hns]
    simp only [rBd_v, Option.toList_some, Option.toList_none, List.cons_append, List.nil_append, List.append_nil, b_199_74, b_199_78]
    rw [if_neg (show ¬ iI ((2 : Nat) : Int) = iI 0 by decide), if_pos (show iI ((2 : Nat) : Int) = iI 2 from rfl), V_197 (by omega) hO (xNum_gx hn hx) hO15 hns]
    simp only [rBd_v, Option.toList_some, Option.toList_none, List.cons_append, List.nil_append, List.append_nil, b_199_102, b_199_120]
    rw [if_neg (show ¬ iI ((2 : Nat) : Int) = iI 4 by decide)]
    exact fin _ _ _ _ _ _
  · rw [b_199_42, if_neg (show ¬ iI ((3 : Nat) : Int) = iI 0 by decide), if_neg (show ¬ iI ((3 : Nat) : Int) = iI 2 by decide), if_pos (show iI ((3 : Nat) : Int) = iI 3 from rfl), b_199_70, V_197 (by omega) hO hx hO15 hns]
    simp only [rBd_v, Option.toList_some, Option.toList_none, List.cons_append, List.nil_append, List.append_nil, b_199_74, b_199_78]
    rw [if_neg (show ¬ iI ((3 : Nat) : Int) = iI 0 by decide), if_neg (show ¬ iI ((3 : Nat) : Int) = iI 2 by decide), if_neg (show ¬ iI ((3 : Nat) : Int) = iI 4 by decide), b_199_120, if_neg (show ¬ iI ((3 : Nat) : Int) = iI 4 by decide)]
    exact fin _ _ _ _ _ _
  · rw [b_199_42, if_neg (show ¬ iI ((4 : Nat) : Int) = iI 0 by decide), if_neg (show ¬ iI ((4 : Nat) : Int) = iI 2 by decide), if_neg (show ¬ iI ((4 : Nat) : Int) = iI 3 by decide), if_pos (show iI ((4 : Nat) : Int) = iI 4 from rfl), b_199_70, V_197 (by omega) hO hx hO15 hns]
    simp only [rBd_v, Option.toList_some, Option.toList_none, List.cons_append, List.nil_append, List.append_nil, b_199_74, b_199_78]
    rw [if_neg (show ¬ iI ((4 : Nat) : Int) = iI 0 by decide), if_neg (show ¬ iI ((4 : Nat) : Int) = iI 2 by decide), if_pos (show iI ((4 : Nat) : Int) = iI 4 from rfl), V_175 (by omega) hO (xNum_gx hn hx) (by omega) (by omega)]
    simp only [rBd_v, Option.toList_some, Option.toList_none, List.cons_append, List.nil_append, List.append_nil, b_199_116, b_199_120]
    rw [if_pos (show iI ((4 : Nat) : Int) = iI 4 from rfl), V_175 (by omega) hO (xNum_gx hn (xNum_gx hn hx)) (by omega) (by omega)]
    simp only [rBd_v, Option.toList_some, Option.toList_none, List.cons_append, List.nil_append, List.append_nil, b_199_137]
    exact fin _ _ _ _ _ _
  · rw [b_199_42, if_neg (show ¬ iI ((5 : Nat) : Int) = iI 0 by decide), if_neg (show ¬ iI ((5 : Nat) : Int) = iI 2 by decide), if_neg (show ¬ iI ((5 : Nat) : Int) = iI 3 by decide), if_neg (show ¬ iI ((5 : Nat) : Int) = iI 4 by decide), b_199_78, if_neg (show ¬ iI ((5 : Nat) : Int) = iI 0 by decide), if_neg (show ¬ iI ((5 : Nat) : Int) = iI 2 by decide), if_neg (show ¬ iI ((5 : Nat) : Int) = iI 4 by decide), b_199_120, if_neg (show ¬ iI ((5 : Nat) : Int) = iI 4 by decide)]
    exact fin _ _ _ _ _ _
  · rw [b_199_42, if_neg (show ¬ iI ((6 : Nat) : Int) = iI 0 by decide), if_neg (show ¬ iI ((6 : Nat) : Int) = iI 2 by decide), if_neg (show ¬ iI ((6 : Nat) : Int) = iI 3 by decide), if_neg (show ¬ iI ((6 : Nat) : Int) = iI 4 by decide), b_199_78, if_neg (show ¬ iI ((6 : Nat) : Int) = iI 0 by decide), if_neg (show ¬ iI ((6 : Nat) : Int) = iI 2 by decide), if_neg (show ¬ iI ((6 : Nat) : Int) = iI 4 by decide), b_199_120, if_neg (show ¬ iI ((6 : Nat) : Int) = iI 4 by decide)]
    exact fin _ _ _ _ _ _
/-- the steps inside an again are read: what comes behind the last one -/
theorem X_in (hd : 12 ≤ d) (hn : n ≤ 600) (hT : isT T) (hs : gd n s) (hx : gx n x) (hr : rel s x) (hl : s.2.1 = 0 → ¬ aOn T n 97 122 s) : ∃ x' : rd, gx n x' ∧ rel (aEx T n 93 (aN T n s)) x' ∧ ∀ (m : Nat → Nat → Int) (q : Nat → Nat → Option Nat) (w : Option (Nat → Int64)) (a : Option Value) (b : Int), onX m T n → gv d rR198 33 [some (.ref 363), a, some (.int (iI b))] [] (mk (mr m x) q w) = gv d rR198 62 [some (.ref 363), a, some (.int (iI b))] [] (mk (mr m x') q w) := by
  by_cases h0 : s.2.1 = 0
  · have hx0 := (rel_fine hr).mp h0
    have hxp := rel_at hr h0
    have hsk := skip_le T hs.1
    have hv0 := hv_i T n (skip T n s.1) hT
    have g0 : gx n (skip T n s.1, x.2) := ⟨hsk.2, hx.2⟩
    have r0 : rel (aN T n s) (skip T n s.1, x.2) := by
      have := rel_aN (T := T) (n := n) hr
      rw [hxp] at this
      exact this
    have hlF : ¬ aF T n (skip T n s.1) 97 122 := fun z => hl h0 ⟨h0, z⟩
    have hY : ∀ (m : Nat → Nat → Int) (q : Nat → Nat → Option Nat) (w : Option (Nat → Int64)) (a : Option Value) (b : Int), onX m T n → gv d rR198 33 [some (.ref 363), a, some (.int (iI b))] [] (mk (mr m x) q w) = gv d rR198 44 [some (.ref 363), a, some (.int (iI b))] [.int (iI (hv T n (skip T n s.1)))] (mk (mr m (skip T n s.1, x.2)) q w) := by
      intro m q w a b h
      rw [b_198_33, V_167 (by omega) hx]
      simp only [rBd_v, Option.toList_some, Option.toList_none, List.cons_append, List.nil_append, List.append_nil, b_198_37, zb_0]
      rw [if_neg (not_not_intro hx0), V_169 (by omega) h hx, hxp]
      simp only [rBd_v, Option.toList_some, Option.toList_none, List.cons_append, List.nil_append, List.append_nil]
    by_cases hc : hv T n (skip T n s.1) = 93
    · refine ⟨xSg T n 93 (skip T n s.1, x.2), xSg_gx (by omega) hn g0, rel_sg (by omega) r0, ?_⟩
      intro m q w a b h
      rw [hY m q w a b h, b_198_44, if_pos (by rw [hc]), b_198_56, V_176 (by omega) h g0 (by omega)]
      simp only [rBd_v, Option.toList_some, Option.toList_none, List.cons_append, List.nil_append, List.append_nil]
    · have g1 : gx n (skip T n s.1, ((skip T n s.1 : Nat) : Int), 1) := ⟨hsk.2, by show i32 ((skip T n s.1 : Nat) : Int); omega⟩
      refine ⟨(skip T n s.1, ((skip T n s.1 : Nat) : Int), 1), g1, ?_, ?_⟩
      · have e1 : aN T n s = (skip T n s.1, s.2) := by
          unfold aN
          rw [if_pos h0]
        have hon := hv_on (T := T) (n := n) (p := skip T n s.1) (a := 93) (b := 93) (by omega)
        have hk := skip_fix T (n := n) hs.1
        have hno : ¬ aOn T n 93 93 (skip T n s.1, s.2) := fun z => hc (by
          have h9 := z.2
          rw [show skip T n ((skip T n s.1, s.2) : rd).1 = skip T n s.1 from hk] at h9
          have := hon.mp h9
          omega)
        rw [e1]
        unfold aEx aTk aN aBl
        rw [if_neg hno, if_neg hno, if_pos (show ((skip T n s.1, s.2) : rd).2.1 = 0 from h0)]
        dsimp only
        rw [hk, if_pos h0]
        exact Or.inr ⟨by show (1 : Int) ≠ 0; decide, by show ((skip T n s.1 : Nat) : Int) ≠ -1; omega, rfl, rfl⟩
      · intro m q w a b h
        have hk := skip_fix T (n := n) hs.1
        have hX := X_199n (m := m) (q := q) (w := w) (show 12 ≤ d by omega) h g0 hn hx0 (by show ¬ aF T n (skip T n (skip T n s.1)) 97 122; rw [hk]; exact hlF)
        rw [show skip T n ((skip T n s.1, x.2) : rd).1 = skip T n s.1 from hk] at hX
        rw [hY m q w a b h, b_198_44, if_neg (by rw [iI_eq (by omega) (by omega)]; exact hc), hX]
        simp only [rBd_v, Option.toList_some, Option.toList_none, List.cons_append, List.nil_append, List.append_nil, b_198_53]
        exact Y33 (by omega) h g1 (by show ((skip T n s.1 : Nat) : Int) ≠ -1; omega)
  · have hx0 := rel_nf hr h0
    refine ⟨x, hx, ?_, ?_⟩
    · rw [f_aN h0, f_aEx h0]
      exact hr
    · intro m q w a b h
      exact Y33 (by omega) h hx hx0
end S
