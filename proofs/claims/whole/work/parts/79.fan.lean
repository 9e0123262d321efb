/-! ===== a fan is read by both ===== -/
def fx (m : Nat → Nat → Int) (G : Nat → Int) (st rv pt : Int) : Nat → Nat → Int := row (row m 366 G) 363 (row (row (row (m 363) 12 st) 13 rv) 14 pt)
section FX
variable (m : Nat → Nat → Int) (G : Nat → Int) (st rv pt : Int)
theorem fx_o {a : Nat} (h0 : a ≠ 363) (h1 : a ≠ 366) : fx m G st rv pt a = m a := by
  unfold fx
  rw [row_o _ _ _ h0, row_o _ _ _ h1]
theorem fx_b {j : Nat} (h0 : j ≠ 12) (h1 : j ≠ 13) (h2 : j ≠ 14) : fx m G st rv pt 363 j = m 363 j := by
  unfold fx
  rw [row_s, row_o _ _ _ h2, row_o _ _ _ h1, row_o _ _ _ h0]
theorem fx_12 : fx m G st rv pt 363 12 = st := by
  unfold fx
  rw [row_s, row_o _ _ _ (by decide), row_o _ _ _ (by decide), row_s]
theorem fx_13 : fx m G st rv pt 363 13 = rv := by
  unfold fx
  rw [row_s, row_o _ _ _ (by decide), row_s]
theorem fx_14 : fx m G st rv pt 363 14 = pt := by
  unfold fx
  rw [row_s, row_s]
theorem fx_366 : fx m G st rv pt 366 = G := by
  unfold fx
  rw [row_o _ _ _ (by decide), row_s]
theorem fx_w12 {G2 : Nat → Int} {v : Int} : wr (row (fx m G st rv pt) 366 G2) 363 12 v = fx m G2 v rv pt := by
  funext a b
  unfold fx wr row
  by_cases h1 : a = 363
  · by_cases h2 : b = 12
    · simp [h1, h2]
    · by_cases h3 : b = 13
      · simp [h1, h3]
      · by_cases h4 : b = 14
        · simp [h1, h4]
        · simp [h1, h2, h3, h4]
  · by_cases h2 : a = 366
    · simp [h2]
    · simp [h1, h2]
theorem fx_w13 {v : Int} : wr (fx m G st rv pt) 363 13 v = fx m G st v pt := by
  funext a b
  unfold fx wr row
  by_cases h1 : a = 363
  · by_cases h3 : b = 13
    · simp [h1, h3]
    · by_cases h4 : b = 14
      · simp [h1, h4]
      · simp [h1, h3, h4]
  · simp [h1]
theorem fx_w14 {v : Int} : wr (fx m G st rv pt) 363 14 v = fx m G st rv v := by
  funext a b
  unfold fx wr row
  by_cases h1 : a = 363
  · by_cases h4 : b = 14
    · simp [h1, h4]
    · simp [h1, h4]
  · simp [h1]
theorem fx_on {T : Nat → Int} {n : Nat} (h : onX m T n) : onX (fx m G st rv pt) T n := by
  unfold onX at *
  rw [fx_o m G st rv pt (by decide) (by decide), fx_b m G st rv pt (by decide) (by decide) (by decide)]
  exact h
theorem fx_self : fx m (m 366) (m 363 12) (m 363 13) (m 363 14) = m := by
  unfold fx
  rw [row_self, row_self, row_self, row_self, row_self]
end FX
theorem aNum_b {T : Nat → Int} {n : Nat} {lo hi : Int} {s : rd} (hs : gd n s) (h : 0 ≤ lo ∧ lo ≤ 10000) : 0 ≤ (aNum T n lo hi s).1 ∧ (aNum T n lo hi s).1 ≤ 10000 := by
  have h2 := dig_le T (n - skip T n s.1) (skip T n s.1) 0 (by omega) (by omega)
  unfold aNum
  split
  · exact ⟨h2.2.2.1, h2.2.2.2⟩
  · exact h
theorem rel_S {T : Nat → Int} {n st : Nat} (hT : isT T) (hn : n ≤ 600) : ∀ (g h : Nat) (C G : Nat → Int) (s x : rd), gd n s → gx n x → rel s x →
    rel (rdS T n st g h C s).2 (rxS T n st g h G x).2 ∧ gd n (rdS T n st g h C s).2 ∧ gx n (rxS T n st g h G x).2 ∧ ((∀ i, i < 28 → 0 ≤ C i ∧ C i ≤ 10000) → ∀ i, i < 28 → 0 ≤ (rdS T n st g h C s).1 i ∧ (rdS T n st g h C s).1 i ≤ 10000) ∧
    (∀ i, i < 4 * st + h → (rdS T n st g h C s).1 i = C i ∧ (rxS T n st g h G x).1 i = G i) ∧
    ((rdS T n st g h C s).2.2.1 = 0 → s.2.1 = 0 ∧ s.1 ≤ (rdS T n st g h C s).2.1 ∧ ∀ i, 4 * st + h ≤ i → i < 4 * st + h + g → (rdS T n st g h C s).1 i = (rxS T n st g h G x).1 i ∧ (rdS T n st g h C s).1 i ≤ 15) := by
  intro g
  induction g with
  | zero =>
    intro h C G s x hs hx hr
    exact ⟨hr, hs, hx, fun hb => hb, fun i _ => ⟨rfl, rfl⟩, fun h0 => ⟨h0, Nat.le_refl _, fun i i1 i2 => by omega⟩⟩
  | succ g ih =>
    intro h C G s x hs hx hr
    obtain ⟨r1, f1⟩ := rel_num (T := T) (n := n) (lo := 0) (hi := 15) hT hs (by omega) (by omega) hr
    obtain ⟨i1, i2, i3, i4, i5, i6⟩ := ih (h + 1) (row C (4 * st + h) (aNum T n 0 15 s).1) (row G (4 * st + h) (xNum T n 0 15 x).1) _ _ (aNum_gd hs) (xNum_gx hn hx) r1
    refine ⟨i1, i2, i3, fun hb => i4 (fun i hi => ?_), fun i hi => ?_, fun h0 => ?_⟩
    · by_cases he : i = 4 * st + h
      · rw [he, row_s]
        exact aNum_b hs (by omega)
      · rw [row_o _ _ _ he]
        exact hb i hi
    · obtain ⟨j1, j2⟩ := i5 i (by omega)
      rw [row_o _ _ _ (by omega)] at j1 j2
      exact ⟨j1, j2⟩
    · obtain ⟨j1, j2, j3⟩ := i6 h0
      have hf : s.2.1 = 0 := by
        by_cases hf : s.2.1 = 0
        · exact hf
        · exact absurd j1 (by rw [f_aNum hf]; exact hf)
      obtain ⟨v1, v2, v3⟩ := f1 j1
      have hg := num_gt hf j1
      have hk := (skip_le T hs.1).1
      refine ⟨hf, by show s.1 ≤ (rdS T n st g (h + 1) _ _).2.1; omega, fun i k1 k2 => ?_⟩
      by_cases he : i = 4 * st + h
      · obtain ⟨e1, e2⟩ := i5 i (by omega)
        rw [he, row_s] at e1 e2
        show (rdS T n st g (h + 1) _ _).1 i = (rxS T n st g (h + 1) _ _).1 i ∧ (rdS T n st g (h + 1) _ _).1 i ≤ 15
        rw [he, e1, e2]
        omega
      · exact j3 i (by omega) (by omega)
def fI (m : Nat → Nat → Int) (x st : Nat) (G : Nat → Int) (rv pt : Int) : Prop := m x 0 = st ∧ st ≤ 7 ∧ m x 1 = rv ∧ 1 ≤ rv ∧ rv ≤ 200 ∧ m x 3 = pt ∧ 0 ≤ pt ∧ pt ≤ 99 ∧ ∀ i, i < 4 * st → m (x + 2) i = G i ∧ m (x + 2) i ≤ 15
def fB (m : Nat → Nat → Int) (x : Nat) : Prop := ∀ i, i < 28 → 0 ≤ m (x + 2) i ∧ m (x + 2) i ≤ 10000
def qF (x : Nat) (m m1 : Nat → Nat → Int) : Prop := (∀ a, a ≠ x → a ≠ x + 2 → m1 a = m a) ∧ ∀ j, j ≠ 0 → j ≠ 1 → j ≠ 3 → m1 x j = m x j
theorem qF_refl {x : Nat} {m : Nat → Nat → Int} : qF x m m := ⟨fun _ _ _ => rfl, fun _ _ _ _ => rfl⟩
theorem qF_trans {x : Nat} {m m1 m2 : Nat → Nat → Int} (h1 : qF x m m1) (h2 : qF x m1 m2) : qF x m m2 := ⟨fun a a1 a2 => (h2.1 a a1 a2).trans (h1.1 a a1 a2), fun j j1 j2 j3 => (h2.2 j j1 j2 j3).trans (h1.2 j j1 j2 j3)⟩
section J
variable {T : Nat → Int} {n x : Nat}
theorem rdF_f (hx : iFan x) {g c : Nat} {m : Nat → Nat → Int} {s : rd} (h0 : s.2.1 ≠ 0) : rdF T n x g c m s = (m, s) := by
  cases g with
  | zero => rfl
  | succ g =>
    show (if aOn T n 97 122 s then _ else (m, aN T n s)) = _
    rw [if_neg (fun z => h0 z.1), f_aN h0]
theorem f_aFi {s : rd} (h0 : s.2.1 ≠ 0) : (aFi T n s).2 = s.2 := by
  unfold aFi
  split
  · rw [f_aBl (s := (skip T n s.1, s.2)) h0]
  · rfl
theorem Y_115 {d c : Nat} {v : Int} {u1 : Option Value} {x1 : rd} {m : Nat → Nat → Int} {q : Nat → Nat → Option Nat} {w : Option (Nat → Int64)} (hd : 1 ≤ d) (hs : gx n x1) (h0 : x1.2.1 ≠ -1) : gv d rR183 115 [some (.ref 363), u1, some (.int (iI c)), some (.int (iI v))] [] (mk (mr m x1) q w) = gv d rR183 146 [some (.ref 363), u1, some (.int (iI c)), some (.int (iI v))] [] (mk (mr m x1) q w) := by
  rw [b_183_115, V_167 hd hs]
  simp only [rBd_v, Option.toList_some, Option.toList_none, List.cons_append, List.nil_append, List.append_nil, b_183_119, zb_0]
  rw [if_pos h0]
theorem Y_106 {d c : Nat} {v : Int} {u1 : Option Value} {x1 : rd} {m : Nat → Nat → Int} {q : Nat → Nat → Option Nat} {w : Option (Nat → Int64)} (hd : 1 ≤ d) (hn : n ≤ 600) (hs : gx n x1) (h0 : x1.2.1 = -1) : gv d rR183 106 [some (.ref 363), u1, some (.int (iI c)), some (.int (iI v))] [] (mk (mr m x1) q w) = gv d rR183 146 [some (.ref 363), u1, some (.int (iI c)), some (.int (iI v))] [] (mk (mr m (x1.1, (x1.1 : Int), 3)) q w) := by
  have hl := hs.1
  have e : xWr 3 x1.1 x1 = (x1.1, (x1.1 : Int), 3) := by
    unfold xWr
    rw [if_pos h0]
  rw [b_183_106, mr_4, V_168 hd hs, e]
  simp only [rBd_v, Option.toList_some, Option.toList_none, List.cons_append, List.nil_append, List.append_nil]
  exact Y_115 hd ⟨hl, by show i32 (x1.1 : Int); omega⟩ (by show (x1.1 : Int) ≠ -1; omega)
theorem Y_62u {d c : Nat} {u1 u3 : Option Value} {x1 : rd} {v : Int} {m : Nat → Nat → Int} {q : Nat → Nat → Option Nat} {w : Option (Nat → Int64)} (hd : 11 ≤ d) (hn : n ≤ 600) (hv : i32 v) (hs : gx n x1) (h0 : x1.2.1 = -1) (h : ¬ (v = ofL 0 W25 ∨ v = ofL 0 W22 ∨ v = ofL 0 W18)) : gv d rR183 62 [some (.ref 363), u1, some (.int (iI c)), u3] [.int (iI v)] (mk (mr m x1) q w) = gv d rR183 146 [some (.ref 363), u1, some (.int (iI c)), some (.int (iI v))] [] (mk (mr m (x1.1, (x1.1 : Int), 1)) q w) := by
  have hl := hs.1
  have e : xWr 1 x1.1 x1 = (x1.1, (x1.1 : Int), 1) := by
    unfold xWr
    rw [if_pos h0]
  rw [b_183_62, V_181 hd hv]
  simp only [rBd_v, Option.toList_some, Option.toList_none, List.cons_append, List.nil_append, List.append_nil, b_183_67, zb_0]
  rw [if_pos h, mr_4, V_168 (by omega) hs, e]
  simp only [rBd_v, Option.toList_some, Option.toList_none, List.cons_append, List.nil_append, List.append_nil, b_183_79]
  exact Y_115 (by omega) ⟨hl, by show i32 (x1.1 : Int); omega⟩ (by show (x1.1 : Int) ≠ -1; omega)
theorem Y_62 {d c : Nat} {u1 u3 : Option Value} {x1 : rd} {v : Int} {st : Nat} {m : Nat → Nat → Int} {q : Nat → Nat → Option Nat} {w : Option (Nat → Int64)} (hd : 11 ≤ d) (hn : n ≤ 600) (hv : i32 v) (hc : c ≤ 60) (hs : gx n x1) (h0 : x1.2.1 = -1) (h : v = ofL 0 W25 ∨ v = ofL 0 W22 ∨ v = ofL 0 W18) (h12 : m 363 12 = st) (hst : st ≤ 7) (hT : onX m T n) : gv d rR183 62 [some (.ref 363), u1, some (.int (iI c)), u3] [.int (iI v)] (mk (mr m x1) q w) =
    if c = 60 ∨ (v = ofL 0 W25 ∧ st = 7) then gv d rR183 146 [some (.ref 363), u1, some (.int (iI c)), some (.int (iI v))] [] (mk (mr m (x1.1, (x1.1 : Int), 3)) q w)
    else rBd (ev d 182 [.ref 363, .int (iI v)] (mk (mr m (wEnd T (n - x1.1) x1.1, x1.2)) q w)) (fun v' M' => gv d rR183 134 [some (.ref 363), u1, some (.int (iI c)), some (.int (iI v))] (v'.toList ++ []) M') := by
  have h115 : gv d rR183 115 [some (.ref 363), u1, some (.int (iI c)), some (.int (iI v))] [] (mk (mr m x1) q w) = rBd (ev d 182 [.ref 363, .int (iI v)] (mk (mr m (wEnd T (n - x1.1) x1.1, x1.2)) q w)) (fun v' M' => gv d rR183 134 [some (.ref 363), u1, some (.int (iI c)), some (.int (iI v))] (v'.toList ++ []) M') := by
    rw [b_183_115, V_167 (by omega) hs]
    simp only [rBd_v, Option.toList_some, Option.toList_none, List.cons_append, List.nil_append, List.append_nil, b_183_119, zb_0]
    rw [if_neg (not_not_intro h0), V_174 (by omega) hT hs]
    simp only [rBd_v, Option.toList_some, Option.toList_none, List.cons_append, List.nil_append, List.append_nil, b_183_129]
  have e67 : gv d rR183 62 [some (.ref 363), u1, some (.int (iI c)), u3] [.int (iI v)] (mk (mr m x1) q w) = if c = 60 then gv d rR183 106 [some (.ref 363), u1, some (.int (iI c)), some (.int (iI v))] [] (mk (mr m x1) q w) else gv d rR183 94 [some (.ref 363), u1, some (.int (iI c)), some (.int (iI v))] [.int (iI (ofL 0 W25)), .int (iI v)] (mk (mr m x1) q w) := by
    rw [b_183_62, V_181 hd hv]
    simp only [rBd_v, Option.toList_some, Option.toList_none, List.cons_append, List.nil_append, List.append_nil, b_183_67, zb_0]
    rw [if_neg (not_not_intro h)]
    simp only [iI_eq (by omega : i32 (c : Int)) (by omega : i32 60)]
    by_cases h6 : c = 60
    · rw [if_pos h6, if_pos (by omega)]
    · rw [if_neg h6, if_neg (by omega), V_173 (by omega) W25_t]
      simp only [rBd_v, Option.toList_some, Option.toList_none, List.cons_append, List.nil_append, List.append_nil]
  rw [e67]
  by_cases h6 : c = 60
  · rw [if_pos h6, if_pos (Or.inl h6), Y_106 (by omega) hn hs h0]
  · rw [if_neg h6, b_183_94]
    simp only [iI_eq hv (ofL_i W25_l), mr_b m x1 (by decide : 12 ≠ 4) (by decide : 12 ≠ 5) (by decide : 12 ≠ 6), h12, iI_eq (by omega : i32 (st : Int)) (by omega : i32 7)]
    by_cases h2 : v = ofL 0 W25
    · rw [if_pos h2]
      by_cases h7 : st = 7
      · rw [if_pos (by omega), if_pos (Or.inr ⟨h2, h7⟩), Y_106 (by omega) hn hs h0]
      · rw [if_neg (by omega), if_neg (fun z => z.elim h6 (fun z => h7 z.2)), h115]
    · rw [if_neg h2, if_neg (fun z => z.elim h6 (fun z => h2 z.1)), h115]
theorem V_182b {d : Nat} {m : Nat → Nat → Int} {q : Nat → Nat → Option Nat} {w : Option (Nat → Int64)} (hd : 11 ≤ d) {s : rd} {v : Int} (hv : i32 v) (hT : onX m T n) (hs : gx n s) (h1 : v ≠ ofL 0 W25) : ev d 182 [.ref 363, .int (iI v)] (mk (mr m s) q w) =
    if v = ofL 0 W22 then vV (mk (mr (wr m 363 13 (xNum T n 1 200 s).1) (xNum T n 1 200 s).2) q w)
    else vV (mk (mr (wr m 363 14 (xNum T n 0 99 s).1) (xNum T n 0 99 s).2) q w) := by
  rw [e_182 (by omega) _ rfl rfl]
  simp only [b_182_0, V_173 (show 10 ≤ d - 1 by omega) W25_t, V_173 (show 10 ≤ d - 1 by omega) W22_t, rBd_v, Option.toList_some, Option.toList_none, List.cons_append, List.nil_append, List.append_nil, b_182_6, b_182_61, iI_eq hv (ofL_i W25_l), iI_eq hv (ofL_i W22_l)]
  rw [if_neg h1]
  by_cases h2 : v = ofL 0 W22
  · rw [if_pos h2, if_pos h2, V_175 (by omega) hT hs (by omega) (by omega)]
    simp only [rBd_v, Option.toList_some, Option.toList_none, List.cons_append, List.nil_append, List.append_nil, b_182_73, b_182_90, mr_wi (m := m) (show 13 ≠ 4 by decide) (show 13 ≠ 5 by decide) (show 13 ≠ 6 by decide)]
  · rw [if_neg h2, if_neg h2, V_175 (by omega) hT hs (by omega) (by omega)]
    simp only [rBd_v, Option.toList_some, Option.toList_none, List.cons_append, List.nil_append, List.append_nil, b_182_87, b_182_90, mr_wi (m := m) (show 14 ≠ 4 by decide) (show 14 ≠ 5 by decide) (show 14 ≠ 6 by decide)]
set_option maxHeartbeats 2000000 in
/-- one clause: class and reference -/
theorem J_clause (hT : isT T) (hn : n ≤ 600) (hx : iFan x) {c st : Nat} {m0 : Nat → Nat → Int} {G : Nat → Int} {rv pt : Int} {s0 x0 : rd} (hs0 : gd n s0) (hx0 : gx n x0) (r0 : rel s0 x0) (h00 : s0.2.1 = 0) (hk0 : skip T n s0.1 = s0.1) (hc : c ≤ 60) (hI : fI m0 x st G rv pt) (hB : fB m0 x) :
  ∃ (x' : rd) (G' : Nat → Int) (st' : Nat) (rv' pt' : Int), gx n x' ∧ rel (rdC T n x st (60 ≤ c) m0 s0).2 x' ∧ gd n (rdC T n x st (60 ≤ c) m0 s0).2 ∧ fB (rdC T n x st (60 ≤ c) m0 s0).1 x ∧ qF x m0 (rdC T n x st (60 ≤ c) m0 s0).1 ∧ (∃ k : Nat, k ≤ 7 ∧ (rdC T n x st (60 ≤ c) m0 s0).1 x 0 = k) ∧
    ((rdC T n x st (60 ≤ c) m0 s0).2.2.1 = 0 → c < 60 ∧ fI (rdC T n x st (60 ≤ c) m0 s0).1 x st' G' rv' pt') ∧
    ∀ (dx : Nat), 13 ≤ dx → ∀ (m : Nat → Nat → Int) (q : Nat → Nat → Option Nat) (w : Option (Nat → Int64)) (u1 u3 : Option Value), onX m T n → 
      (gv dx rR183 62 [some (.ref 363), u1, some (.int (iI c)), u3] [.int (iI (wVal T n s0.1))] (mk (mr (fx m G st rv pt) x0) q w) = gv dx rR183 134 [some (.ref 363), u1, some (.int (iI c)), some (.int (iI (wVal T n s0.1)))] [] (mk (mr (fx m G' st' rv' pt') x') q w)) ∨
      ((rdC T n x st (60 ≤ c) m0 s0).2.2.1 ≠ 0 ∧ gv dx rR183 62 [some (.ref 363), u1, some (.int (iI c)), u3] [.int (iI (wVal T n s0.1))] (mk (mr (fx m G st rv pt) x0) q w) = gv dx rR183 146 [some (.ref 363), u1, some (.int (iI c)), some (.int (iI (wVal T n s0.1)))] [] (mk (mr (fx m G' st' rv' pt') x') q w)) := by
  have y00 := (rel_fine r0).mp h00
  have p0 := rel_at r0 h00
  have hwi : i32 (wVal T n s0.1) := word_i
  obtain ⟨I1, I2, I3, I4, I5, I6, I7, I8, I9⟩ := id hI
  have hl0 := hs0.1
  have eS : (skip T n s0.1, s0.2) = s0 := by rw [hk0]
  have eN : aN T n s0 = s0 := aN_fix h00 hk0
  have w1 := rel_word (T := T) (n := n) hs0 W25_l r0 h00
  have w2 := rel_word (T := T) (n := n) hs0 W22_l r0 h00
  have w3 := rel_word (T := T) (n := n) hs0 W18_l r0 h00
  rw [p0, hk0] at w1 w2 w3
  have wn : ∀ l, ¬ aWd T n l s0 → aTw T n l s0 = s0 := by
    intro l h
    unfold aTw
    rw [if_neg h, eN]
  have bad : ∀ (kd : Int) (t : rd), kd ≠ 0 → i32 kd → t.1 ≤ n → t.2 = s0.2 → gd n (aBl kd s0.1 t) ∧ gx n (x0.1, (x0.1 : Int), kd) ∧ rel (aBl kd s0.1 t) (x0.1, (x0.1 : Int), kd) ∧ (aBl kd s0.1 t).2.1 ≠ 0 := by
    intro kd t k1 k2 t1 t2
    have e : aBl kd s0.1 t = (t.1, kd, (s0.1 : Int)) := by
      unfold aBl
      rw [if_pos (by rw [t2]; exact h00)]
    rw [e, p0]
    exact ⟨⟨t1, k2⟩, ⟨hl0, by show i32 (s0.1 : Int); omega⟩, Or.inr ⟨k1, by show (s0.1 : Int) ≠ -1; omega, rfl, rfl⟩, k1⟩
  have hon := fun (m : Nat → Nat → Int) (h : onX m T n) => fx_on m G st rv pt h
  have e12 := fun (m : Nat → Nat → Int) => fx_12 m G st rv pt
  by_cases h1 : wVal T n s0.1 = ofL 0 W25
  · have a1 := w1.mpr h1
    obtain t1 := rel_taken (T := T) W25_l r0 a1
    rw [p0, hk0] at t1
    have g1 : gd n (aTw T n W25 s0) := aTw_gd' hs0
    have f1 : (aTw T n W25 s0).2 = s0.2 := by
      unfold aTw
      rw [if_pos a1]
    have eR : rdC T n x st (60 ≤ c) m0 s0 = (if 60 ≤ c ∨ 7 ≤ st then (m0, aBl 3 s0.1 (aTw T n W25 s0)) else (wr (row m0 (x + 2) (rdS T n st 4 0 (m0 (x + 2)) (aTw T n W25 s0)).1) x 0 (st + 1), (rdS T n st 4 0 (m0 (x + 2)) (aTw T n W25 s0)).2)) := by
      unfold rdC
      rw [if_pos (by rw [eS]; exact a1), eS, hk0]
    rw [eR]
    by_cases hL : 60 ≤ c ∨ 7 ≤ st
    · rw [if_pos hL]
      dsimp only
      obtain ⟨b1, b2, b3, b4⟩ := bad 3 _ (by decide) (by omega) g1.1 f1
      refine ⟨_, G, st, rv, pt, b2, b3, b1, hB, qF_refl, ⟨st, I2, I1⟩, fun h => absurd h b4, fun dx hdx m q w u1 u3 h => Or.inr ⟨b4, ?_⟩⟩
      rw [Y_62 (by omega) hn hwi hc hx0 y00 (Or.inl h1) (e12 m) I2 (hon m h), if_pos]
      rcases hL with hL | hL
      · exact Or.inl (by omega)
      · exact Or.inr ⟨h1, by omega⟩
    · rw [if_neg hL]
      dsimp only
      have gx1 : gx n (wEnd T (n - s0.1) s0.1, x0.2) := ⟨by have := rel_at t1 (by rw [f1]; exact h00); rw [show wEnd T (n - s0.1) s0.1 = _ from this]; exact g1.1, hx0.2⟩
      obtain ⟨i1, i2, i3, i4, i5, i6⟩ := rel_S (st := st) hT hn 4 0 (m0 (x + 2)) G _ _ g1 gx1 t1
      refine ⟨_, (rxS T n st 4 0 G (wEnd T (n - s0.1) s0.1, x0.2)).1, st + 1, rv, pt, i3, i1, i2, ?_, ?_, ⟨st + 1, by omega, (wr_s _ _ _ _).trans rfl⟩, fun h => ⟨by omega, ?_⟩, fun dx hdx m q w u1 u3 h => Or.inl ?_⟩
      · intro i hi
        rw [wr_o _ _ _ _ (by omega), row_s]
        exact i4 hB i hi
      · exact ⟨fun a a1 a2 => by rw [wr_o _ _ _ _ a1, row_o _ _ _ a2], fun j j1 j2 j3 => by rw [wr_b _ _ _ _ j1, row_o _ _ _ (by omega)]⟩
      · obtain ⟨k1, k2, k3⟩ := i6 h
        refine ⟨(wr_s _ _ _ _).trans rfl, by omega, ?_, I4, I5, ?_, I7, I8, ?_⟩
        · rw [wr_b _ _ _ _ (by decide), row_o _ _ _ (by omega)]; exact I3
        · rw [wr_b _ _ _ _ (by decide), row_o _ _ _ (by omega)]; exact I6
        · intro i hi
          rw [wr_o _ _ _ _ (by omega), row_s]
          by_cases h4 : i < 4 * st
          · obtain ⟨j1, j2⟩ := i5 i (by omega)
            rw [j1, j2]
            exact I9 i h4
          · exact k3 i (by omega) (by omega)
      · rw [Y_62 (by omega) hn hwi hc hx0 y00 (Or.inl h1) (e12 m) I2 (hon m h), if_neg (fun z => hL (z.elim (fun z => Or.inl (by omega)) (fun z => Or.inr (by omega)))), p0]
        rw [V_182 (by omega) (by omega) hwi (hon m h) gx1 (e12 m), if_pos h1]
        simp only [rBd_v, Option.toList_some, Option.toList_none, List.cons_append, List.nil_append, List.append_nil]
        rw [fx_366, show ((st : Int) + 1) = ((st + 1 : Nat) : Int) from rfl, fx_w12]
  · have n1 : ¬ aWd T n W25 s0 := fun z => h1 (w1.mp z)
    have e1 : aTw T n W25 (skip T n s0.1, s0.2) = s0 := by rw [eS, wn _ n1]
    by_cases h2 : wVal T n s0.1 = ofL 0 W22
    · have a1 := w2.mpr h2
      obtain t1 := rel_taken (T := T) W22_l r0 a1
      rw [p0, hk0] at t1
      have g1 : gd n (aTw T n W22 s0) := aTw_gd' hs0
      have f1 : (aTw T n W22 s0).2 = s0.2 := by
        unfold aTw
        rw [if_pos a1]
      have eR : rdC T n x st (60 ≤ c) m0 s0 = (if 60 ≤ c then (m0, aBl 3 s0.1 (aTw T n W22 s0)) else (wr m0 x 1 (aNum T n 1 200 (aTw T n W22 s0)).1, (aNum T n 1 200 (aTw T n W22 s0)).2)) := by
        unfold rdC
        rw [if_neg (by rw [eS]; exact n1), if_pos (by rw [e1]; exact a1), e1, hk0]
      rw [eR]
      by_cases hL : 60 ≤ c
      · rw [if_pos hL]
        dsimp only
        obtain ⟨b1, b2, b3, b4⟩ := bad 3 _ (by decide) (by omega) g1.1 f1
        refine ⟨_, G, st, rv, pt, b2, b3, b1, hB, qF_refl, ⟨st, I2, I1⟩, fun h => absurd h b4, fun dx hdx m q w u1 u3 h => Or.inr ⟨b4, ?_⟩⟩
        rw [Y_62 (by omega) hn hwi hc hx0 y00 (Or.inr (Or.inl h2)) (e12 m) I2 (hon m h), if_pos (Or.inl (by omega))]
      · rw [if_neg hL]
        dsimp only
        have gx1 : gx n (wEnd T (n - s0.1) s0.1, x0.2) := ⟨by have := rel_at t1 (by rw [f1]; exact h00); rw [show wEnd T (n - s0.1) s0.1 = _ from this]; exact g1.1, hx0.2⟩
        obtain ⟨i1, i6⟩ := rel_num (lo := 1) (hi := 200) hT g1 (by omega) (by omega) t1
        refine ⟨_, G, st, (xNum T n 1 200 (wEnd T (n - s0.1) s0.1, x0.2)).1, pt, xNum_gx hn gx1, i1, aNum_gd g1, ?_, ?_, ⟨st, I2, (wr_b _ _ _ _ (by decide)).trans I1⟩, fun h => ⟨by omega, ?_⟩, fun dx hdx m q w u1 u3 h => Or.inl ?_⟩
        · intro i hi
          rw [wr_o _ _ _ _ (by omega)]
          exact hB i hi
        · exact ⟨fun a a1 a2 => by rw [wr_o _ _ _ _ a1], fun j j1 j2 j3 => by rw [wr_b _ _ _ _ (by assumption)]⟩
        · obtain ⟨k1, k2, k3⟩ := i6 h
          refine ⟨(wr_b _ _ _ _ (by decide)).trans I1, I2, (wr_s _ _ _ _).trans k1, by omega, by omega, (wr_b _ _ _ _ (by decide)).trans I6, I7, I8, ?_⟩
          intro i hi
          rw [wr_o _ _ _ _ (by omega)]
          exact I9 i hi
        · rw [Y_62 (by omega) hn hwi hc hx0 y00 (Or.inr (Or.inl h2)) (e12 m) I2 (hon m h), if_neg (fun z => z.elim (fun z => hL (by omega)) (fun z => h1 z.1)), p0]
          rw [V_182b (by omega) hwi (hon m h) gx1 h1, if_pos h2]
          simp only [rBd_v, Option.toList_some, Option.toList_none, List.cons_append, List.nil_append, List.append_nil]
          rw [fx_w13]
    · have n2 : ¬ aWd T n W22 s0 := fun z => h2 (w2.mp z)
      have e2 : aTw T n W22 (aTw T n W25 (skip T n s0.1, s0.2)) = s0 := by rw [e1, wn _ n2]
      by_cases h3 : wVal T n s0.1 = ofL 0 W18
      · have a1 := w3.mpr h3
        obtain t1 := rel_taken (T := T) W18_l r0 a1
        rw [p0, hk0] at t1
        have g1 : gd n (aTw T n W18 s0) := aTw_gd' hs0
        have f1 : (aTw T n W18 s0).2 = s0.2 := by
          unfold aTw
          rw [if_pos a1]
        have eR : rdC T n x st (60 ≤ c) m0 s0 = (if 60 ≤ c then (m0, aBl 3 s0.1 (aTw T n W18 s0)) else (wr m0 x 3 (aNum T n 0 99 (aTw T n W18 s0)).1, (aNum T n 0 99 (aTw T n W18 s0)).2)) := by
          unfold rdC
          rw [if_neg (by rw [eS]; exact n1), if_neg (by rw [e1]; exact n2), if_pos (by rw [e2]; exact a1), e2, hk0]
        rw [eR]
        by_cases hL : 60 ≤ c
        · rw [if_pos hL]
          dsimp only
          obtain ⟨b1, b2, b3, b4⟩ := bad 3 _ (by decide) (by omega) g1.1 f1
          refine ⟨_, G, st, rv, pt, b2, b3, b1, hB, qF_refl, ⟨st, I2, I1⟩, fun h => absurd h b4, fun dx hdx m q w u1 u3 h => Or.inr ⟨b4, ?_⟩⟩
          rw [Y_62 (by omega) hn hwi hc hx0 y00 (Or.inr (Or.inr h3)) (e12 m) I2 (hon m h), if_pos (Or.inl (by omega))]
        · rw [if_neg hL]
          dsimp only
          have gx1 : gx n (wEnd T (n - s0.1) s0.1, x0.2) := ⟨by have := rel_at t1 (by rw [f1]; exact h00); rw [show wEnd T (n - s0.1) s0.1 = _ from this]; exact g1.1, hx0.2⟩
          obtain ⟨i1, i6⟩ := rel_num (lo := 0) (hi := 99) hT g1 (by omega) (by omega) t1
          refine ⟨_, G, st, rv, (xNum T n 0 99 (wEnd T (n - s0.1) s0.1, x0.2)).1, xNum_gx hn gx1, i1, aNum_gd g1, ?_, ?_, ⟨st, I2, (wr_b _ _ _ _ (by decide)).trans I1⟩, fun h => ⟨by omega, ?_⟩, fun dx hdx m q w u1 u3 h => Or.inl ?_⟩
          · intro i hi
            rw [wr_o _ _ _ _ (by omega)]
            exact hB i hi
          · exact ⟨fun a a1 a2 => by rw [wr_o _ _ _ _ a1], fun j j1 j2 j3 => by rw [wr_b _ _ _ _ (by assumption)]⟩
          · obtain ⟨k1, k2, k3⟩ := i6 h
            refine ⟨(wr_b _ _ _ _ (by decide)).trans I1, I2, (wr_b _ _ _ _ (by decide)).trans I3, I4, I5, (wr_s _ _ _ _).trans k1, by omega, by omega, ?_⟩
            intro i hi
            rw [wr_o _ _ _ _ (by omega)]
            exact I9 i hi
          · rw [Y_62 (by omega) hn hwi hc hx0 y00 (Or.inr (Or.inr h3)) (e12 m) I2 (hon m h), if_neg (fun z => z.elim (fun z => hL (by omega)) (fun z => h1 z.1)), p0]
            rw [V_182b (by omega) hwi (hon m h) gx1 h1, if_neg h2]
            simp only [rBd_v, Option.toList_some, Option.toList_none, List.cons_append, List.nil_append, List.append_nil]
            rw [fx_w14]
      · have n3 : ¬ aWd T n W18 s0 := fun z => h3 (w3.mp z)
        have e3 : aTw T n W18 (aTw T n W22 (aTw T n W25 (skip T n s0.1, s0.2))) = s0 := by rw [e2, wn _ n3]
        have eR : rdC T n x st (60 ≤ c) m0 s0 = (m0, aBl 1 s0.1 s0) := by
          unfold rdC
          rw [if_neg (by rw [eS]; exact n1), if_neg (by rw [e1]; exact n2), if_neg (by rw [e2]; exact n3), e3, hk0]
        rw [eR]
        dsimp only
        obtain ⟨b1, b2, b3, b4⟩ := bad 1 s0 (by decide) (by omega) hs0.1 rfl
        refine ⟨_, G, st, rv, pt, b2, b3, b1, hB, qF_refl, ⟨st, I2, I1⟩, fun h => absurd h b4, fun dx hdx m q w u1 u3 h => Or.inr ⟨b4, ?_⟩⟩
        exact Y_62u (by omega) hn hwi hx0 y00 (fun z => z.elim h1 (fun z => z.elim h2 h3))
theorem Y_44f {d c : Nat} {u1 u3 : Option Value} {x1 : rd} {m : Nat → Nat → Int} {q : Nat → Nat → Option Nat} {w : Option (Nat → Int64)} (hd : 1 ≤ d) (hs : gx n x1) (h0 : x1.2.1 ≠ -1) : gv d rR183 44 [some (.ref 363), u1, some (.int (iI c)), u3] [] (mk (mr m x1) q w) = gv d rR183 146 [some (.ref 363), u1, some (.int (iI c)), u3] [] (mk (mr m x1) q w) := by
  rw [b_183_44, V_167 hd hs]
  simp only [rBd_v, Option.toList_some, Option.toList_none, List.cons_append, List.nil_append, List.append_nil, b_183_48, zb_0]
  rw [if_pos h0]
theorem Y_44 {d c : Nat} {u1 u3 : Option Value} {x1 : rd} {m : Nat → Nat → Int} {q : Nat → Nat → Option Nat} {w : Option (Nat → Int64)} (hd : 2 ≤ d) (hs : gx n x1) (h0 : x1.2.1 = -1) (hT : onX m T n) : gv d rR183 44 [some (.ref 363), u1, some (.int (iI c)), u3] [] (mk (mr m x1) q w) =
    if skip T n x1.1 < n then gv d rR183 62 [some (.ref 363), u1, some (.int (iI c)), u3] [.int (iI (wVal T n (skip T n x1.1)))] (mk (mr m (skip T n x1.1, x1.2)) q w) else gv d rR183 146 [some (.ref 363), u1, some (.int (iI c)), u3] [] (mk (mr m (skip T n x1.1, x1.2)) q w) := by
  have hl := skip_le T hs.1
  have hs2 : gx n (skip T n x1.1, x1.2) := ⟨hl.2, hs.2⟩
  rw [b_183_44, V_167 (by omega) hs]
  simp only [rBd_v, Option.toList_some, Option.toList_none, List.cons_append, List.nil_append, List.append_nil, b_183_48, zb_0]
  rw [if_neg (not_not_intro h0), V_177 (by omega) hT hs]
  simp only [rBd_v, Option.toList_some, Option.toList_none, List.cons_append, List.nil_append, List.append_nil, b_183_55, zb_0]
  by_cases h : skip T n x1.1 < n
  · rw [if_pos h, if_neg (not_not_intro h), V_172 (by omega) hT hs2]
    show rBd (vI (wVal T n (skip T n (skip T n x1.1))) (mk (mr m (skip T n (skip T n x1.1), x1.2)) q w)) _ = _
    rw [skip_fix T hs.1]
    simp only [rBd_v, Option.toList_some, Option.toList_none, List.cons_append, List.nil_append, List.append_nil]
  · rw [if_neg h, if_pos h]
theorem no_word (hT : isT T) {p : Nat} (hp : p ≤ n) (h : ¬ aF T n p 97 122) : ¬ (wVal T n p = ofL 0 W25 ∨ wVal T n p = ofL 0 W22 ∨ wVal T n p = ofL 0 W18) := by
  rintro (z | z | z)
  · have h1 := ((wVal_iff hp W25_l).mp z).1 0 (by decide)
    have h2 : T p = 115 := h1.2
    exact h ⟨h1.1, by omega, by omega⟩
  · have h1 := ((wVal_iff hp W22_l).mp z).1 0 (by decide)
    have h2 : T p = 114 := h1.2
    exact h ⟨h1.1, by omega, by omega⟩
  · have h1 := ((wVal_iff hp W18_l).mp z).1 0 (by decide)
    have h2 : T p = 112 := h1.2
    exact h ⟨h1.1, by omega, by omega⟩
def PF (T : Nat → Int) (n x e : Nat) : Prop := ∀ (c st : Nat) (m0 : Nat → Nat → Int) (G : Nat → Int) (rv pt : Int) (s xs : rd), c + e = 60 → gd n s → gx n xs → rel s xs → fB m0 x → (∃ k : Nat, k ≤ 7 ∧ m0 x 0 = k) → (s.2.1 = 0 → fI m0 x st G rv pt) →
  ∃ (x' : rd) (G' : Nat → Int) (st' : Nat) (rv' pt' : Int), gx n x' ∧ rel (aFi T n (rdF T n x (600 - c) c m0 s).2) x' ∧ gd n (rdF T n x (600 - c) c m0 s).2 ∧ fB (rdF T n x (600 - c) c m0 s).1 x ∧ qF x m0 (rdF T n x (600 - c) c m0 s).1 ∧ (∃ k : Nat, k ≤ 7 ∧ (rdF T n x (600 - c) c m0 s).1 x 0 = k) ∧
    (x'.2.1 = -1 → fI (rdF T n x (600 - c) c m0 s).1 x st' G' rv' pt') ∧
    ∀ (dx : Nat), 13 ≤ dx → ∀ (m : Nat → Nat → Int) (q : Nat → Nat → Option Nat) (w : Option (Nat → Int64)) (u1 u3 : Option Value), onX m T n → ∃ u2' u3',
      gv dx rR183 44 [some (.ref 363), u1, some (.int (iI c)), u3] [] (mk (mr (fx m G st rv pt) xs) q w) = gv dx rR183 146 [some (.ref 363), u1, u2', u3'] [] (mk (mr (fx m G' st' rv' pt') x') q w)
theorem J_fan_s (hT : isT T) (hn : n ≤ 600) (hx : iFan x) {e : Nat} (ih : ∀ e', e = e' + 1 → PF T n x e') : PF T n x e := by
  intro c st m0 G rv pt s xs hce hs hxs hr hB hk hI
  by_cases h0 : s.2.1 = 0
  · have hx0 := (rel_fine hr).mp h0
    have hxp := rel_at hr h0
    have hsk := skip_le T hs.1
    obtain ⟨g, hg⟩ : ∃ g, 600 - c = g + 1 := ⟨599 - c, by omega⟩
    have hR : rdF T n x (600 - c) c m0 s = if aOn T n 97 122 s then rdF T n x g (c + 1) (rdC T n x (m0 x 0).toNat (60 ≤ c) m0 (aN T n s)).1 (aEx T n 59 (rdC T n x (m0 x 0).toNat (60 ≤ c) m0 (aN T n s)).2) else (m0, aN T n s) := by
      rw [hg]
      rfl
    have eN : aN T n s = (skip T n s.1, s.2) := if_pos h0
    have fI0 := hI h0
    by_cases hlet : aOn T n 97 122 s
    · rw [if_pos hlet, eN, fI0.1, Int.toNat_natCast] at hR
      have hlt : skip T n s.1 < n := hlet.2.1
      obtain ⟨x1, G1, st1, rv1, pt1, a1, a2, a3, a4, a5, a6, a7, a8⟩ := J_clause (s0 := (skip T n s.1, s.2)) (x0 := (skip T n s.1, xs.2)) hT hn hx ⟨hsk.2, hs.2⟩ ⟨hsk.2, hxs.2⟩ (rel_go hr h0) h0 (skip_fix T hs.1) (show c ≤ 60 by omega) fI0 hB
      by_cases q1 : (rdC T n x st (60 ≤ c) m0 (skip T n s.1, s.2)).2.2.1 = 0
      · obtain ⟨c6, f1⟩ := a7 q1
        obtain ⟨e', he'⟩ : ∃ e', e = e' + 1 := ⟨e - 1, by omega⟩
        have q2 : ∀ z : (aEx T n 59 (rdC T n x st (60 ≤ c) m0 (skip T n s.1, s.2)).2).2.1 = 0, True := fun _ => trivial
        obtain ⟨x', G', st', rv', pt', b1, b2, b3, b4, b5, b6, b7, b8⟩ := ih e' he' (c + 1) st1 _ G1 rv1 pt1 _ _ (by omega) (aEx_gd a3) (xSg_gx (by decide : (0 : Int) < 59) hn a1) (rel_sg (by decide : (0 : Int) < 59) a2) a4 a6 (fun _ => f1)
        rw [show 600 - (c + 1) = g by omega] at b2 b3 b4 b5 b6 b7
        rw [hR]
        refine ⟨x', G', st', rv', pt', b1, b2, b3, b4, qF_trans a5 b5, b6, b7, fun dx hdx m q w u1 u3 h => ?_⟩
        obtain ⟨u2', u3', b9⟩ := b8 dx hdx m q w u1 (some (.int (iI (wVal T n (skip T n s.1))))) h
        refine ⟨u2', u3', ?_⟩
        rw [Y_44 (by omega) hxs hx0 (fx_on m G st rv pt h), hxp, if_pos hlt]
        rcases a8 dx hdx m q w u1 u3 h with h8 | h8
        · refine h8.trans ?_
          rw [b_183_134, V_176 (by omega) (fx_on m G1 st1 rv1 pt1 h) a1 (by omega)]
          simp only [rBd_v, Option.toList_some, Option.toList_none, List.cons_append, List.nil_append, List.append_nil, b_183_140]
          exact b9
        · exact absurd q1 h8.1
      · have q2 := rel_nf a2 q1
        rw [f_aEx q1, rdF_f hx q1] at hR
        rw [hR]
        refine ⟨x1, G1, st1, rv1, pt1, a1, rel_f a2 q1 (f_aFi q1) rfl, a3, a4, a5, a6, fun z => absurd z q2, fun dx hdx m q w u1 u3 h => ?_⟩
        rw [Y_44 (by omega) hxs hx0 (fx_on m G st rv pt h), hxp, if_pos hlt]
        rcases a8 dx hdx m q w u1 u3 h with h8 | h8
        · refine ⟨some (.int (iI ((c + 1 : Nat) : Int))), some (.int (iI (wVal T n (skip T n s.1)))), h8.trans ?_⟩
          rw [b_183_134, V_176 (by omega) (fx_on m G1 st1 rv1 pt1 h) a1 (by omega), f_xSg q2]
          simp only [rBd_v, Option.toList_some, Option.toList_none, List.cons_append, List.nil_append, List.append_nil, b_183_140]
          exact Y_44f (by omega) a1 q2
        · exact ⟨some (.int (iI (c : Int))), some (.int (iI (wVal T n (skip T n s.1)))), h8.2⟩
    · rw [if_neg hlet, eN] at hR
      rw [hR]
      by_cases hlt : skip T n s.1 < n
      · have eF : aFi T n (skip T n s.1, s.2) = (skip T n s.1, 1, ((skip T n s.1 : Nat) : Int)) := by
          unfold aFi aBl
          show (if skip T n (skip T n s.1) < n then _ else _) = _
          rw [skip_fix T hs.1, if_pos hlt, if_pos h0]
        have ha : ¬ aF T n (skip T n s.1) 97 122 := fun z => hlet ⟨h0, z⟩
        refine ⟨(skip T n s.1, ((skip T n s.1 : Nat) : Int), 1), G, st, rv, pt, ⟨hsk.2, by show i32 ((skip T n s.1 : Nat) : Int); omega⟩, ?_, ⟨hsk.2, hs.2⟩, hB, qF_refl, hk, fun z => absurd z (by show ((skip T n s.1 : Nat) : Int) ≠ -1; omega), fun dx hdx m q w u1 u3 h => ⟨some (.int (iI (c : Int))), some (.int (iI (wVal T n (skip T n s.1)))), ?_⟩⟩
        · rw [eF]
          exact Or.inr ⟨by show (1 : Int) ≠ 0; decide, by show ((skip T n s.1 : Nat) : Int) ≠ -1; omega, rfl, rfl⟩
        · rw [Y_44 (by omega) hxs hx0 (fx_on m G st rv pt h), hxp, if_pos hlt]
          exact Y_62u (x1 := (skip T n s.1, xs.2)) (by omega) hn word_i ⟨hsk.2, hxs.2⟩ hx0 (no_word hT hsk.2 ha)
      · have eF : aFi T n (skip T n s.1, s.2) = (skip T n s.1, s.2) := by
          unfold aFi
          show (if skip T n (skip T n s.1) < n then _ else _) = _
          rw [skip_fix T hs.1, if_neg hlt]
        refine ⟨(skip T n s.1, xs.2), G, st, rv, pt, ⟨hsk.2, hxs.2⟩, ?_, ⟨hsk.2, hs.2⟩, hB, qF_refl, hk, fun _ => fI0, fun dx hdx m q w u1 u3 h => ⟨some (.int (iI (c : Int))), u3, ?_⟩⟩
        · rw [eF]
          exact rel_go hr h0
        · rw [Y_44 (by omega) hxs hx0 (fx_on m G st rv pt h), hxp, if_neg hlt]
  · rw [rdF_f hx h0]
    refine ⟨xs, G, st, rv, pt, hxs, rel_f hr h0 (f_aFi h0) rfl, hs, hB, qF_refl, hk, fun z => absurd z (rel_nf hr h0), fun dx hdx m q w u1 u3 h => ⟨_, _, Y_44f (by omega) hxs (rel_nf hr h0)⟩⟩
theorem J_fan (hT : isT T) (hn : n ≤ 600) (hx : iFan x) : ∀ e, PF T n x e := by
  intro e
  induction e with
  | zero => exact J_fan_s hT hn hx (fun e' h => absurd h (by omega))
  | succ e ih => exact J_fan_s hT hn hx (fun e' h => by cases h; exact ih)
end J
