/-! ===== a deeper machine answers the same ===== -/
theorem inv_up {c1 c2 : Nat → List Value → rMem → Option rRes} (hc : ∀ j As M res, c1 j As M = some res → c2 j As M = some res) {d d2 a b pc : Nat} (hd : d ≤ d2) {r : rRow} {L : rLoc} {st : List Value} {M : rMem} {y : rNx ⊕ rRes} (h : rInv c1 d r a b pc L st M = some y) : rInv c2 d2 r a b pc L st M = some y := by
  unfold rInv at h ⊢
  by_cases ha : 10 ≤ a
  · rw [if_pos ha] at h ⊢
    by_cases h2 : 10 ≤ d ∧ (st.map (fun v => v.category)).sum ≤ 8
    · rw [if_pos h2] at h
      rw [if_pos ⟨by omega, h2.2⟩]
      exact h
    · rw [if_neg h2] at h
      cases h
  · rw [if_neg ha] at h ⊢
    cases hq : rMs[b]? with
    | none => rw [hq] at h; cases h
    | some q =>
      rw [hq] at h
      dsimp only at h ⊢
      cases hg : rArg a q st M with
      | none => rw [hg] at h; cases h
      | some w =>
        obtain ⟨As, rest⟩ := w
        rw [hg] at h
        dsimp only at h ⊢
        cases h1 : c1 b As M with
        | none => rw [h1] at h; cases h
        | some res =>
          rw [h1] at h
          rw [hc _ _ _ _ h1]
          exact h
theorem thr_up {d d2 a pc : Nat} (hd : d ≤ d2) {r : rRow} {st : List Value} {M : rMem} {y : rNx ⊕ rRes} (h : rThr d r a pc st M = some y) : rThr d2 r a pc st M = some y := by
  unfold rThr at h ⊢
  split at h
  next hc =>
    rw [if_pos ⟨Nat.le_trans hc.1 hd, hc.2⟩]
    exact h
  next => cases h
theorem one_up {c1 c2 : Nat → List Value → rMem → Option rRes} (hc : ∀ j As M res, c1 j As M = some res → c2 j As M = some res) {d d2 pc : Nat} (hd : d ≤ d2) {r : rRow} {L : rLoc} {st : List Value} {M : rMem} {y : rNx ⊕ rRes} (h : rOne c1 d r pc L st M = some y) : rOne c2 d2 r pc L st M = some y := by
  unfold rOne at h ⊢
  cases hf : rFind (rTi r) pc with
  | none => rw [hf] at h; cases h
  | some v =>
    obtain ⟨I, ln, a, b⟩ := v
    rw [hf] at h
    cases I <;> first | exact inv_up hc hd h | exact h | (dsimp only at h ⊢; split at h <;> first | (rename_i h9; rw [if_pos h9]; exact thr_up hd h) | (rename_i h9; rw [if_neg h9]; exact h))
theorem go_up {c1 c2 : Nat → List Value → rMem → Option rRes} (hc : ∀ j As M res, c1 j As M = some res → c2 j As M = some res) {d d2 : Nat} (hd : d ≤ d2) {r : rRow} : ∀ (f pc : Nat) (L : rLoc) (st : List Value) (M : rMem) (k n : Nat) (res : rRes), rGo c1 d r f pc L st M k n = some res → rGo c2 d2 r f pc L st M k n = some res := by
  intro f
  induction f with
  | zero => intro pc L st M k n res h; cases h
  | succ f ih =>
    intro pc L st M k n res h
    unfold rGo at h ⊢
    cases h1 : rOne c1 d r pc L st M with
    | none => rw [h1] at h; cases h
    | some y =>
      rw [h1] at h
      rw [one_up hc hd h1]
      rcases y with ⟨⟨pc2, L2, st2, M2⟩, dk, dn⟩ | ⟨o, M2, dk, dn⟩
      · exact ih pc2 L2 st2 M2 _ _ res h
      · exact h
theorem run_up : ∀ (d d2 f j : Nat) (As : List Value) (M : rMem) (res : rRes), d ≤ d2 → rRun d f j As M = some res → rRun d2 f j As M = some res := by
  intro d
  induction d with
  | zero => intro d2 f j As M res _ h; cases h
  | succ d ih =>
    intro d2 f j As M res hd h
    obtain ⟨e, rfl⟩ : ∃ e, d2 = e + 1 := ⟨d2 - 1, by omega⟩
    unfold rRun at h ⊢
    cases hr : rMs[j]? with
    | none => rw [hr] at h; cases h
    | some r =>
      rw [hr] at h
      dsimp only at h ⊢
      split at h
      next hc =>
        rw [if_pos hc]
        exact go_up (fun j As M res h => ih e f j As M res (by omega) h) hd _ _ _ _ _ _ _ _ h
      next => cases h
theorem ev_up {d d2 j : Nat} (hd : d ≤ d2) {As : List Value} {M : rMem} {res : rRes} (h : ev d j As M = some res) : ev d2 j As M = some res := by
  obtain ⟨f, hf⟩ := ev_iff.mp h
  exact ev_iff.mpr ⟨f, run_up d d2 f j As M res hd hf⟩
/-! ===== a work is read: its rows ===== -/
def ww (m : Nat → Nat → Int) (N Bh : Nat → Int) (z : Nat) : Nat → Nat → Int := row (row (row m 105 N) 106 Bh) 103 (row (m 103) 3 z)
section WW
variable (m : Nat → Nat → Int) (N Bh : Nat → Int) (z : Nat)
theorem ww_o {a : Nat} (h0 : a ≠ 103) (h1 : a ≠ 105) (h2 : a ≠ 106) : ww m N Bh z a = m a := by
  unfold ww
  rw [row_o _ _ _ h0, row_o _ _ _ h2, row_o _ _ _ h1]
theorem ww_105 : ww m N Bh z 105 = N := by
  unfold ww
  rw [row_o _ _ _ (by decide), row_o _ _ _ (by decide), row_s]
theorem ww_106 : ww m N Bh z 106 = Bh := by
  unfold ww
  rw [row_o _ _ _ (by decide), row_s]
theorem ww_3 : ww m N Bh z 103 3 = z := by
  unfold ww
  rw [row_s, row_s]
theorem ww_b {j : Nat} (h : j ≠ 3) : ww m N Bh z 103 j = m 103 j := by
  unfold ww
  rw [row_s, row_o _ _ _ h]
theorem ww_w3 {z2 : Nat} : wr (ww m N Bh z) 103 3 z2 = ww m N Bh z2 := by
  unfold ww wr
  rw [row_row, row_s, row_row]
theorem ww_w5 {i : Nat} {v : Int} : wr (ww m N Bh z) 105 i v = ww m (row N i v) Bh z := by
  funext a b
  unfold ww wr row
  by_cases h1 : a = 103
  · simp [h1]
  · by_cases h2 : a = 106
    · simp [h2]
    · by_cases h3 : a = 105
      · simp [h3]
      · simp [h1, h2, h3]
theorem ww_w6 {i : Nat} {v : Int} : wr (ww m N Bh z) 106 i v = ww m N (row Bh i v) z := by
  funext a b
  unfold ww wr row
  by_cases h1 : a = 103
  · simp [h1]
  · by_cases h2 : a = 106
    · simp [h2]
    · by_cases h3 : a = 105
      · simp [h3]
      · simp [h1, h2, h3]
theorem ww_on {T : Nat → Int} {n : Nat} (h : onT m T n) : onT (ww m N Bh z) T n := by
  unfold ww
  exact onT_row (onT_row (onT_row h (by decide) (by decide)) (by decide) (by decide)) (by decide) (by decide)
theorem ww_self {z2 : Nat} (h : m 103 3 = z2) : ww m (m 105) (m 106) z2 = m := by
  unfold ww
  rw [row_self, row_self, ← h, row_self, row_self]
end WW
theorem wq_row {q : Nat → Nat → Option Nat} {x b : Nat} {K : Nat → Option Nat} {v : Option Nat} : wq (row q x K) x b v = row q x (row K b v) := by
  unfold wq
  rw [row_row, row_s]
def wx (m : Nat → Nat → Int) (W : Nat → Int) (k op : Nat) : Nat → Nat → Int := row (row m 374 W) 363 (row (row (m 363) 28 k) 7 op)
section WX
variable (m : Nat → Nat → Int) (W : Nat → Int) (k op : Nat)
theorem wx_o {a : Nat} (h0 : a ≠ 363) (h1 : a ≠ 374) : wx m W k op a = m a := by
  unfold wx
  rw [row_o _ _ _ h0, row_o _ _ _ h1]
theorem wx_374 : wx m W k op 374 = W := by
  unfold wx
  rw [row_o _ _ _ (by decide), row_s]
theorem wx_b {j : Nat} (h0 : j ≠ 28) (h1 : j ≠ 7) : wx m W k op 363 j = m 363 j := by
  unfold wx
  rw [row_s, row_o _ _ _ h1, row_o _ _ _ h0]
theorem wx_28 : wx m W k op 363 28 = k := by
  unfold wx
  rw [row_s, row_o _ _ _ (by decide), row_s]
theorem wx_7 : wx m W k op 363 7 = op := by
  unfold wx
  rw [row_s, row_s]
theorem wx_w7 {p : Nat} : wr (wx m W k op) 363 7 p = wx m W k p := by
  unfold wx wr
  rw [row_row, row_s, row_row]
theorem wx_w8 {p : Nat} : wr (wx m W k op) 363 28 p = wx m W p op := by
  funext a b
  unfold wx wr row
  by_cases h1 : a = 363
  · by_cases h2 : b = 7
    · simp [h1, h2]
    · by_cases h3 : b = 28
      · simp [h1, h3]
      · simp [h1, h2, h3]
  · simp [h1]
theorem wx_w4 {i : Nat} {v : Int} : wr (wx m W k op) 374 i v = wx m (row W i v) k op := by
  funext a b
  unfold wx wr row
  by_cases h1 : a = 363
  · simp [h1]
  · by_cases h2 : a = 374
    · simp [h2]
    · simp [h1, h2]
theorem wx_on {T : Nat → Int} {n : Nat} (h : onX m T n) : onX (wx m W k op) T n := by
  unfold onX at *
  rw [wx_o m W k op (by decide) (by decide), wx_b m W k op (by decide) (by decide)]
  exact h
end WX
/-! numbers behind a step's word -/
def lets (ns : Int) (c : Nat) : Int × Int := if c = 118 then (0, 3) else if c = 110 then (1, 7) else if c = 112 then (0, ns - 1) else if c = 104 then (0, 3) else if c = 109 then (0, 15) else (0, 40)
def wN (k : Nat) : List Nat := ((rEn[k]?).bind rTxt).getD []
def slt (ns : Int) (k j : Nat) : Option (Int × Int) := if j < (wN k).length then some (lets ns ((wN k).getD j 0)) else none
def aSl (T : Nat → Int) (n : Nat) (o : Option (Int × Int)) (s : rd) : Int × rd := match o with
  | some b => aNum T n b.1 b.2 s
  | none => (0, s)
def xSl (T : Nat → Int) (n : Nat) (o : Option (Int × Int)) (s : rd) : Int × rd := match o with
  | some b => xNum T n b.1 b.2 s
  | none => (0, s)
def a3 (T : Nat → Int) (n : Nat) (ns : Int) (k : Nat) (s : rd) : rd := (aSl T n (slt ns k 2) (aSl T n (slt ns k 1) (aSl T n (slt ns k 0) s).2).2).2
def v0 (T : Nat → Int) (n : Nat) (ns : Int) (k : Nat) (s : rd) : Int := (aSl T n (slt ns k 0) s).1
def v1 (T : Nat → Int) (n : Nat) (ns : Int) (k : Nat) (s : rd) : Int := (aSl T n (slt ns k 1) (aSl T n (slt ns k 0) s).2).1
def v2 (T : Nat → Int) (n : Nat) (ns : Int) (k : Nat) (s : rd) : Int := (aSl T n (slt ns k 2) (aSl T n (slt ns k 1) (aSl T n (slt ns k 0) s).2).2).1
def y3 (T : Nat → Int) (n : Nat) (ns : Int) (k : Nat) (s : rd) : rd := (xSl T n (slt ns k 2) (xSl T n (slt ns k 1) (xSl T n (slt ns k 0) s).2).2).2
def u0 (T : Nat → Int) (n : Nat) (ns : Int) (k : Nat) (s : rd) : Int := (xSl T n (slt ns k 0) s).1
def u1 (T : Nat → Int) (n : Nat) (ns : Int) (k : Nat) (s : rd) : Int := (xSl T n (slt ns k 1) (xSl T n (slt ns k 0) s).2).1
def u2 (T : Nat → Int) (n : Nat) (ns : Int) (k : Nat) (s : rd) : Int := (xSl T n (slt ns k 2) (xSl T n (slt ns k 1) (xSl T n (slt ns k 0) s).2).2).1
theorem rel_sl {T : Nat → Int} {n : Nat} (hT : isT T) (hn : n ≤ 600) {s x : rd} (hs : gd n s) (hx : gx n x) (h : rel s x) (o : Option (Int × Int)) (ho : ∀ b, o = some b → b.1 ≤ 10000 ∧ b.2 ≤ 9999) :
    rel (aSl T n o s).2 (xSl T n o x).2 ∧ gd n (aSl T n o s).2 ∧ gx n (xSl T n o x).2 ∧ ((aSl T n o s).2.2.1 = 0 → s.2.1 = 0 ∧ s.1 ≤ (aSl T n o s).2.1 ∧ (aSl T n o s).1 = (xSl T n o x).1 ∧ (∀ b, o = some b → b.1 ≤ (aSl T n o s).1 ∧ (aSl T n o s).1 ≤ b.2) ∧ (o = none → (aSl T n o s).1 = 0)) := by
  cases o with
  | none => exact ⟨h, hs, hx, fun h0 => ⟨h0, Nat.le_refl _, rfl, (fun b hb => nomatch hb), fun _ => rfl⟩⟩
  | some b =>
    obtain ⟨b1, b2⟩ := ho b rfl
    obtain ⟨r1, r2⟩ := rel_num (T := T) (n := n) hT hs b1 b2 h
    refine ⟨r1, aNum_gd hs, xNum_gx hn hx, fun h0 => ?_⟩
    have hf : s.2.1 = 0 := by
      by_cases hf : s.2.1 = 0
      · exact hf
      · exact absurd h0 (by show ¬ (aNum T n b.1 b.2 s).2.2.1 = 0; rw [f_aNum hf]; exact hf)
    have hg := num_gt hf h0
    have hk := (skip_le T hs.1).1
    obtain ⟨r3, r4, r5⟩ := r2 h0
    exact ⟨hf, by show s.1 ≤ (aNum T n b.1 b.2 s).2.1; omega, r3, (fun c hc => by cases hc; exact ⟨r4, r5⟩), fun hn => nomatch hn⟩
theorem slt_ok {ns : Int} (h : ns ≤ 7) (k j : Nat) : ∀ b, slt ns k j = some b → b.1 ≤ 10000 ∧ b.2 ≤ 9999 := by
  intro b hb
  unfold slt at hb
  split at hb
  · cases hb
    unfold lets
    repeat' split
    all_goals (dsimp only; omega)
  · cases hb
theorem rel_3 {T : Nat → Int} {n : Nat} (hT : isT T) (hn : n ≤ 600) {ns : Int} (hns : ns ≤ 7) (k : Nat) {s x : rd} (hs : gd n s) (hx : gx n x) (h : rel s x) :
    rel (a3 T n ns k s) (y3 T n ns k x) ∧ gd n (a3 T n ns k s) ∧ gx n (y3 T n ns k x) ∧ ((a3 T n ns k s).2.1 = 0 → s.2.1 = 0 ∧ s.1 ≤ (a3 T n ns k s).1 ∧ v0 T n ns k s = u0 T n ns k x ∧ v1 T n ns k s = u1 T n ns k x ∧ v2 T n ns k s = u2 T n ns k x ∧
      (∀ b, slt ns k 0 = some b → b.1 ≤ v0 T n ns k s ∧ v0 T n ns k s ≤ b.2) ∧ (∀ b, slt ns k 1 = some b → b.1 ≤ v1 T n ns k s ∧ v1 T n ns k s ≤ b.2) ∧ (∀ b, slt ns k 2 = some b → b.1 ≤ v2 T n ns k s ∧ v2 T n ns k s ≤ b.2) ∧ (slt ns k 1 = none → v1 T n ns k s = 0) ∧ (slt ns k 2 = none → v2 T n ns k s = 0)) := by
  obtain ⟨r1, g1, x1, f1⟩ := rel_sl (T := T) hT hn hs hx h (slt ns k 0) (slt_ok hns k 0)
  obtain ⟨r2, g2, x2, f2⟩ := rel_sl (T := T) hT hn g1 x1 r1 (slt ns k 1) (slt_ok hns k 1)
  obtain ⟨r3, g3, x3, f3⟩ := rel_sl (T := T) hT hn g2 x2 r2 (slt ns k 2) (slt_ok hns k 2)
  refine ⟨r3, g3, x3, fun h0 => ?_⟩
  obtain ⟨c1, c2, c3, c4, c5⟩ := f3 h0
  obtain ⟨b1, b2, b3, b4, b5⟩ := f2 c1
  obtain ⟨a1, a2, a3, a4, a5⟩ := f1 b1
  exact ⟨a1, Nat.le_trans a2 (Nat.le_trans b2 c2), a3, b3, c3, a4, b4, c4, b5, c5⟩
section S
variable {d n : Nat} {m : Nat → Nat → Int} {q : Nat → Nat → Option Nat} {w : Option (Nat → Int64)} {T : Nat → Int} {s : rd} {z op k : Nat} {N Bh W : Nat → Int} {K : Nat → Option Nat}
theorem T_99 (hd : 11 ≤ d) (h : onT m T n) (hs : gd n s) {ns : Int} (hns : 0 ≤ ns ∧ ns ≤ 7) {c : Nat} (hc : c = 118 ∨ c = 110 ∨ c = 112 ∨ c = 104 ∨ c = 109 ∨ c = 116) : ev d 99 [.ref 101, .int (iI c), .int (iI ns)] (mk (tr m s) q w) = vI (aNum T n (lets ns c).1 (lets ns c).2 s).1 (mk (tr m (aNum T n (lets ns c).1 (lets ns c).2 s).2) q w) := by
  rw [e_99 (by omega) _ rfl rfl rfl, b_99_0]
  rcases hc with rfl | rfl | rfl | rfl | rfl | rfl
  · refine Eq.trans b_99_1_14 ?_
    rw [b_99_76, U_7 (by omega) h hs (by omega) (by omega)]
    simp only [rBd_v, Option.toList_some, Option.toList_none, List.cons_append, List.nil_append, List.append_nil, b_99_82]
    rfl
  · refine Eq.trans b_99_1_6 ?_
    rw [b_99_83, U_7 (by omega) h hs (by omega) (by omega)]
    simp only [rBd_v, Option.toList_some, Option.toList_none, List.cons_append, List.nil_append, List.append_nil, b_99_90]
    rfl
  · refine Eq.trans b_99_1_8 ?_
    rw [b_99_91, U_7 (by omega) h hs (by omega) (by omega)]
    simp only [rBd_v, Option.toList_some, Option.toList_none, List.cons_append, List.nil_append, List.append_nil, b_99_99]
    rfl
  · refine Eq.trans b_99_1_0 ?_
    rw [b_99_100, U_7 (by omega) h hs (by omega) (by omega)]
    simp only [rBd_v, Option.toList_some, Option.toList_none, List.cons_append, List.nil_append, List.append_nil, b_99_106]
    rfl
  · refine Eq.trans b_99_1_5 ?_
    rw [b_99_107, U_7 (by omega) h hs (by omega) (by omega)]
    simp only [rBd_v, Option.toList_some, Option.toList_none, List.cons_append, List.nil_append, List.append_nil, b_99_114]
    rfl
  · refine Eq.trans b_99_1_12 ?_
    rw [b_99_115, U_7 (by omega) h hs (by omega) (by omega)]
    simp only [rBd_v, Option.toList_some, Option.toList_none, List.cons_append, List.nil_append, List.append_nil, b_99_122]
    rfl
theorem wN_ok : ∀ k : Nat, k < 8 → ∃ t, rEn[k]? = some t ∧ rTxt t = some (wN k) ∧ (wN k).length ≤ 3 ∧ ∀ j, j < (wN k).length → (wN k).getD j 0 = 118 ∨ (wN k).getD j 0 = 110 ∨ (wN k).getD j 0 = 112 ∨ (wN k).getD j 0 = 104 ∨ (wN k).getD j 0 = 109 ∨ (wN k).getD j 0 = 116 := by
  intro k hk
  have hc : k = 0 ∨ k = 1 ∨ k = 2 ∨ k = 3 ∨ k = 4 ∨ k = 5 ∨ k = 6 ∨ k = 7 := by omega
  rcases hc with rfl | rfl | rfl | rfl | rfl | rfl | rfl | rfl <;> exact ⟨_, rfl, rfl, by decide, by decide⟩
theorem S_100 (hd : 11 ≤ d) (h : onT m T n) (hs : gd n s) {ns : Int} (hns : 0 ≤ ns ∧ ns ≤ 7) (hk : k < 8) {v3 v4 : Int} {j y : Nat} (hj : j < 3) (hy : y < 150) : gv d rR100 83 [some (.ref 103), some (.ref 101), some (.int (iI ns)), some (.int (iI v3)), some (.int (iI v4)), some (.ref k), some (.int (iI y)), some (.int (iI j))] [] (mk (tr (ww m N Bh z) s) q w) =
    gv d rR100 83 [some (.ref 103), some (.ref 101), some (.int (iI ns)), some (.int (iI v3)), some (.int (iI v4)), some (.ref k), some (.int (iI y)), some (.int (iI ((j + 1 : Nat) : Int)))] [] (mk (tr (ww m (row N (3 * y + j) (aSl T n (slt ns k j) s).1) Bh z) (aSl T n (slt ns k j) s).2) q w) := by
  obtain ⟨t, t1, t2, t3, t4⟩ := wN_ok k hk
  have e1 : (3 * (y : Int) + (j : Int)).toNat = 3 * y + j := by omega
  have hO := ww_on m N Bh z h
  rw [b_100_83 t1 t2 (by omega) (by omega), if_pos (by rw [iI_lt (by omega) (by omega)]; omega)]
  simp only [iI_lt (by omega : i32 (j : Int)) (by omega : i32 ((wN k).length : Int))]
  by_cases hl : j < (wN k).length
  · have es : slt ns k j = some (lets ns ((wN k).getD j 0)) := if_pos hl
    rw [if_pos (by omega), b_100_113 t1 t2 (by omega) (by omega) (by omega) (by omega), Int.toNat_natCast, T_99 (by omega) hO hs hns (t4 j hl), es]
    simp only [rBd_v, Option.toList_some, Option.toList_none, List.cons_append, List.nil_append, List.append_nil, b_100_128]
    rw [b_100_132 (by omega) (by omega), e1, tr_wo (by decide), ww_w5]
    rfl
  · have es : slt ns k j = none := if_neg hl
    rw [if_neg (by omega), es, b_100_132 (by omega) (by omega), e1, tr_wo (by decide), ww_w5]
    rfl
theorem S3_100 (hd : 11 ≤ d) (h : onT m T n) (hs : gd n s) {ns : Int} (hns : 0 ≤ ns ∧ ns ≤ 7) (hk : k < 8) {v3 v4 : Int} {y : Nat} (hy : y < 150) : gv d rR100 83 [some (.ref 103), some (.ref 101), some (.int (iI ns)), some (.int (iI v3)), some (.int (iI v4)), some (.ref k), some (.int (iI y)), some (.int (iI 0))] [] (mk (tr (ww m N Bh z) s) q w) =
    gv d rR100 139 [some (.ref 103), some (.ref 101), some (.int (iI ns)), some (.int (iI v3)), some (.int (iI v4)), some (.ref k), some (.int (iI y)), some (.int (iI 3))] [] (mk (tr (ww m (row (row (row N (3 * y) (v0 T n ns k s)) (3 * y + 1) (v1 T n ns k s)) (3 * y + 2) (v2 T n ns k s)) Bh z) (a3 T n ns k s)) q w) := by
  obtain ⟨t, t1, t2, t3, t4⟩ := wN_ok k hk
  have gN : ∀ (o : Option (Int × Int)) (s : rd), gd n s → gd n (aSl T n o s).2 := by
    intro o s hs
    cases o with
    | none => exact hs
    | some b => exact aNum_gd hs
  refine Eq.trans (S_100 (j := 0) hd h hs hns hk (by omega) hy) ?_
  refine Eq.trans (S_100 (j := 1) hd h (gN _ _ hs) hns hk (by omega) hy) ?_
  refine Eq.trans (S_100 (j := 2) hd h (gN _ _ (gN _ _ hs)) hns hk (by omega) hy) ?_
  refine Eq.trans (b_100_83 t1 t2 (by omega) (by omega)) ?_
  rw [if_neg (by decide)]
  rfl
/-! the reference -/
theorem V_185g (hd : 2 ≤ d) (hs : gx n s) (hn : n ≤ 600) (h7 : m 363 7 = op) (hop : op ≤ 6) {b : Nat} (hb : b ≤ 5) : ev d 185 [.ref 363, .int (iI b)] (mk (mr m s) q w) = vV (mk (mr (wr m 363 7 ((op + 1 : Nat) : Int)) (xOp b op s)) q w) := by
  have e7 : ∀ s : rd, mr m s 363 7 = op := fun s => by rw [mr_b _ _ (by decide) (by decide) (by decide), h7]
  have hE : ∀ s : rd, gv (d - 1) rR185 42 [some (.ref 363), some (.int (iI b))] [] (mk (mr m s) q w) = vV (mk (mr (wr m 363 7 ((op + 1 : Nat) : Int)) s) q w) := by
    intro s
    rw [b_185_42, e7, mr_wi (by decide) (by decide) (by decide), show (op : Int) + 1 = ((op + 1 : Nat) : Int) from rfl]
  rw [e_185 (by omega) _ rfl rfl]
  simp only [b_185_0, V_167 (m := m) (show 1 ≤ d - 1 by omega) hs, rBd_v, Option.toList_some, Option.toList_none, List.cons_append, List.nil_append, List.append_nil, b_185_4, zb_0, e7, iI_eq (by omega : i32 (op : Int)) (by omega : i32 6), mr_4]
  unfold xOp
  by_cases h0 : s.2.1 = -1
  · rw [if_neg (not_not_intro h0), if_pos h0]
    by_cases h6 : op = 6
    · rw [if_pos (by omega), if_pos h6, V_168 (show 1 ≤ d - 1 by omega) hs]
      have e9 : xWr 3 s.1 s = (s.1, (s.1 : Int), 3) := by
        unfold xWr
        rw [if_pos h0]
      have hs9 : gx n (s.1, (s.1 : Int), 3) := ⟨hs.1, by have := hs.1; show i32 (s.1 : Int); omega⟩
      rw [e9]
      simp only [rBd_v, Option.toList_some, Option.toList_none, List.cons_append, List.nil_append, List.append_nil, b_185_25, V_167 (m := m) (show 1 ≤ d - 1 by omega) hs9, b_185_29, zb_0]
      rw [if_pos (by show ¬ (s.1 : Int) = -1; omega), hE]
    · rw [if_neg (by omega), if_neg h6]
      simp only [rBd_v, Option.toList_some, Option.toList_none, List.cons_append, List.nil_append, List.append_nil, b_185_25, V_167 (m := m) (show 1 ≤ d - 1 by omega) hs, b_185_29, zb_0, mr_4]
      rw [if_neg (not_not_intro h0), show (s.1 : Int) + (b : Int) = ((s.1 + b : Nat) : Int) from rfl, mr_w4, hE]
  · rw [if_pos h0, if_neg h0]
    simp only [b_185_25, V_167 (m := m) (show 1 ≤ d - 1 by omega) hs, rBd_v, Option.toList_some, Option.toList_none, List.cons_append, List.nil_append, List.append_nil, b_185_29, zb_0]
    rw [if_pos h0, hE]
def w4 (W : Nat → Int) (k : Nat) (a b c e : Int) : Nat → Int := row (row (row (row W k a) (k + 1) b) (k + 2) c) (k + 3) e
theorem V_195 (hd : 2 ≤ d) (hs : gx n s) (hk : s.2.1 = -1 → k + 3 < 200) {a b c e : Int} : ev d 195 [.ref 363, .int (iI a), .int (iI b), .int (iI c), .int (iI e)] (mk (mr (wx m W k op) s) q w) = if s.2.1 = -1 then vV (mk (mr (wx m (w4 W k a b c e) (k + 4) op) s) q w) else vV (mk (mr (wx m W k op) s) q w) := by
  have e28 : mr (wx m W k op) s 363 28 = k := by rw [mr_b _ _ (by decide) (by decide) (by decide), wx_28]
  rw [e_195 (by omega) _ rfl rfl rfl rfl rfl]
  simp only [b_195_0, V_167 (m := wx m W k op) (show 1 ≤ d - 1 by omega) hs, rBd_v, Option.toList_some, Option.toList_none, List.cons_append, List.nil_append, List.append_nil, b_195_4, zb_0]
  by_cases h0 : s.2.1 = -1
  · have := hk h0
    rw [if_neg (not_not_intro h0), if_pos h0, b_195_8]
    · simp only [wr_o _ _ _ _ (show 363 ≠ 374 by decide), e28, Int.toNat_natCast, show ((k : Nat) : Int) + 1 = ((k + 1 : Nat) : Int) from rfl, show ((k : Nat) : Int) + 2 = ((k + 2 : Nat) : Int) from rfl, show ((k : Nat) : Int) + 3 = ((k + 3 : Nat) : Int) from rfl, show ((k : Nat) : Int) + 4 = ((k + 4 : Nat) : Int) from rfl]
      rw [mr_wo (by decide), mr_wo (by decide), mr_wo (by decide), mr_wo (by decide), mr_wi (by decide) (by decide) (by decide), wx_w4, wx_w4, wx_w4, wx_w4, wx_w8]
      rfl
    all_goals (simp only [wr_o _ _ _ _ (show 363 ≠ 374 by decide), e28]; omega)
  · rw [if_pos h0, if_neg h0]
theorem V_196 (hd : 11 ≤ d) {v : Int} (hv : i32 v) : ev d 196 [.int (iI v)] (mk m q w) = vI (match lkW v stL with | some k => (k : Int) | none => -1) (mk m q w) := by
  have hd9 : 10 ≤ d - 1 := by omega
  have r7 : rBd (ev (d - 1) 173 [.ref 11] (mk m q w)) (fun u M' => gv (d - 1) rR196 105 [some (.int (iI v))] (u.toList ++ [.int (iI v)]) M') = vI (match lkW v [(7, W11)] with | some k => (k : Int) | none => -1) (mk m q w) := by
    rw [V_173 hd9 W11_t]
    simp only [rBd_v, Option.toList_some, Option.toList_none, List.cons_append, List.nil_append, List.append_nil, b_196_105, iI_eq hv (ofL_i W11_l), b_196_114]
    unfold lkW
    by_cases hw : v = ofL 0 W11
    · rw [if_pos hw, if_pos hw]
      rfl
    · rw [if_neg hw, if_neg hw]
      rfl
  have r6 : rBd (ev (d - 1) 173 [.ref 23] (mk m q w)) (fun u M' => gv (d - 1) rR196 90 [some (.int (iI v))] (u.toList ++ [.int (iI v)]) M') = vI (match lkW v [(6, W23), (7, W11)] with | some k => (k : Int) | none => -1) (mk m q w) := by
    rw [V_173 hd9 W23_t]
    simp only [rBd_v, Option.toList_some, Option.toList_none, List.cons_append, List.nil_append, List.append_nil, b_196_90, iI_eq hv (ofL_i W23_l), b_196_114]
    unfold lkW
    by_cases hw : v = ofL 0 W23
    · rw [if_pos hw, if_pos hw]
      rfl
    · rw [if_neg hw, if_neg hw]
      exact r7
  have r5 : rBd (ev (d - 1) 173 [.ref 14] (mk m q w)) (fun u M' => gv (d - 1) rR196 76 [some (.int (iI v))] (u.toList ++ [.int (iI v)]) M') = vI (match lkW v [(5, W14), (6, W23), (7, W11)] with | some k => (k : Int) | none => -1) (mk m q w) := by
    rw [V_173 hd9 W14_t]
    simp only [rBd_v, Option.toList_some, Option.toList_none, List.cons_append, List.nil_append, List.append_nil, b_196_76, iI_eq hv (ofL_i W14_l), b_196_114]
    unfold lkW
    by_cases hw : v = ofL 0 W14
    · rw [if_pos hw, if_pos hw]
      rfl
    · rw [if_neg hw, if_neg hw]
      exact r6
  have r4 : rBd (ev (d - 1) 173 [.ref 18] (mk m q w)) (fun u M' => gv (d - 1) rR196 62 [some (.int (iI v))] (u.toList ++ [.int (iI v)]) M') = vI (match lkW v [(4, W18), (5, W14), (6, W23), (7, W11)] with | some k => (k : Int) | none => -1) (mk m q w) := by
    rw [V_173 hd9 W18_t]
    simp only [rBd_v, Option.toList_some, Option.toList_none, List.cons_append, List.nil_append, List.append_nil, b_196_62, iI_eq hv (ofL_i W18_l), b_196_114]
    unfold lkW
    by_cases hw : v = ofL 0 W18
    · rw [if_pos hw, if_pos hw]
      rfl
    · rw [if_neg hw, if_neg hw]
      exact r5
  have r3 : rBd (ev (d - 1) 173 [.ref 28] (mk m q w)) (fun u M' => gv (d - 1) rR196 49 [some (.int (iI v))] (u.toList ++ [.int (iI v)]) M') = vI (match lkW v [(3, W28), (4, W18), (5, W14), (6, W23), (7, W11)] with | some k => (k : Int) | none => -1) (mk m q w) := by
    rw [V_173 hd9 W28_t]
    simp only [rBd_v, Option.toList_some, Option.toList_none, List.cons_append, List.nil_append, List.append_nil, b_196_49, iI_eq hv (ofL_i W28_l), b_196_114]
    unfold lkW
    by_cases hw : v = ofL 0 W28
    · rw [if_pos hw, if_pos hw]
      rfl
    · rw [if_neg hw, if_neg hw]
      exact r4
  have r2 : rBd (ev (d - 1) 173 [.ref 26] (mk m q w)) (fun u M' => gv (d - 1) rR196 35 [some (.int (iI v))] (u.toList ++ [.int (iI v)]) M') = vI (match lkW v [(2, W26), (3, W28), (4, W18), (5, W14), (6, W23), (7, W11)] with | some k => (k : Int) | none => -1) (mk m q w) := by
    rw [V_173 hd9 W26_t]
    simp only [rBd_v, Option.toList_some, Option.toList_none, List.cons_append, List.nil_append, List.append_nil, b_196_35, iI_eq hv (ofL_i W26_l), b_196_114]
    unfold lkW
    by_cases hw : v = ofL 0 W26
    · rw [if_pos hw, if_pos hw]
      rfl
    · rw [if_neg hw, if_neg hw]
      exact r3
  have r1 : rBd (ev (d - 1) 173 [.ref 24] (mk m q w)) (fun u M' => gv (d - 1) rR196 21 [some (.int (iI v))] (u.toList ++ [.int (iI v)]) M') = vI (match lkW v [(1, W24), (2, W26), (3, W28), (4, W18), (5, W14), (6, W23), (7, W11)] with | some k => (k : Int) | none => -1) (mk m q w) := by
    rw [V_173 hd9 W24_t]
    simp only [rBd_v, Option.toList_some, Option.toList_none, List.cons_append, List.nil_append, List.append_nil, b_196_21, iI_eq hv (ofL_i W24_l), b_196_114]
    unfold lkW
    by_cases hw : v = ofL 0 W24
    · rw [if_pos hw, if_pos hw]
      rfl
    · rw [if_neg hw, if_neg hw]
      exact r2
  have r0 : rBd (ev (d - 1) 173 [.ref 15] (mk m q w)) (fun u M' => gv (d - 1) rR196 7 [some (.int (iI v))] (u.toList ++ [.int (iI v)]) M') = vI (match lkW v [(0, W15), (1, W24), (2, W26), (3, W28), (4, W18), (5, W14), (6, W23), (7, W11)] with | some k => (k : Int) | none => -1) (mk m q w) := by
    rw [V_173 hd9 W15_t]
    simp only [rBd_v, Option.toList_some, Option.toList_none, List.cons_append, List.nil_append, List.append_nil, b_196_7, iI_eq hv (ofL_i W15_l), b_196_114]
    unfold lkW
    by_cases hw : v = ofL 0 W15
    · rw [if_pos hw, if_pos hw]
      rfl
    · rw [if_neg hw, if_neg hw]
      exact r1
  rw [e_196 (by omega) _ rfl, b_196_0]
  exact r0
theorem V_197 (hd : 3 ≤ d) (h : onX m T n) (hs : gx n s) {ns : Int} (h15 : m 363 15 = ns) (hns : 0 ≤ ns ∧ ns ≤ 7) : ev d 197 [.ref 363] (mk (mr m s) q w) = vI (xNum T n 0 (ns - 1) s).1 (mk (mr m (xNum T n 0 (ns - 1) s).2) q w) := by
  have e15 : mr m s 363 15 = ns := by rw [mr_b _ _ (by decide) (by decide) (by decide), h15]
  rw [e_197 (by omega) _ rfl, b_197_0, e15, V_175 (by omega) h hs (by omega) (by omega)]
  simp only [rBd_v, Option.toList_some, Option.toList_none, List.cons_append, List.nil_append, List.append_nil, b_197_11]
end S
