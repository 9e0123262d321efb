/-! ===== the call book, alike ===== -/
section S
variable {d n : Nat} {m : Nat → Nat → Int} {q : Nat → Nat → Option Nat} {w : Option (Nat → Int64)}
theorem X_219o (hd : 3 ≤ d) {a : Int} {z : Nat} (ha : i32 a) (hz : z ≤ 600) (h2 : m 363 2 = z) : ev d 219 [.ref 363, .int (iI a)] (mk m q w) =
    if 0 ≤ a ∧ a ≤ z ∧ a ≤ 60 then gv (d - 1) rR219 46 [some (.ref 363), some (.int (iI a)), some (.int (iI ((0 : Nat) : Int))), none, none, none, none] [] (mk (mr (bgX m a) (0, -1, m 363 6)) q w) else vI 0 (mk (noX m 1 1) q w) := by
  have h20 : (wr m 363 0 0) 363 2 = z := (wr_b _ _ _ _ (by decide)).trans h2
  have key : ∀ (P : Prop) [Decidable P], gv (d - 1) rR219 29 [some (.ref 363), some (.int (iI a)), none, none, none, none, none] [.int (iI (zb P)), .ref 363] (mk (wr m 363 0 0) q w) = if P then gv (d - 1) rR219 46 [some (.ref 363), some (.int (iI a)), some (.int (iI ((0 : Nat) : Int))), none, none, none, none] [] (mk (mr (bgX m a) (0, -1, m 363 6)) q w) else vI 0 (mk (noX m 1 1) q w) := by
    intro P _
    rw [b_219_29, V_160 (by omega) (Or.inr rfl) (by omega) (by decide) (wr_s _ _ _ _)]
    by_cases h : P
    · rw [if_pos h, if_pos h]
      simp only [rBd_v, Option.toList_some, Option.toList_none, List.cons_append, List.nil_append, List.append_nil]
      rw [b_219_34, if_neg (by decide), V_178b (by omega)]
      simp only [rBd_v, Option.toList_some, Option.toList_none, List.cons_append, List.nil_append, List.append_nil]
      rw [b_219_44]
      rfl
    · rw [if_neg h, if_neg h]
      simp only [rBd_v, Option.toList_some, Option.toList_none, List.cons_append, List.nil_append, List.append_nil]
      rw [b_219_34, if_pos rfl]
      rfl
  have hE : ¬ (0 ≤ a ∧ a ≤ z ∧ a ≤ 60) → gv (d - 1) rR219 28 [some (.ref 363), some (.int (iI a)), none, none, none, none, none] [.ref 363] (mk (wr m 363 0 0) q w) = if 0 ≤ a ∧ a ≤ z ∧ a ≤ 60 then gv (d - 1) rR219 46 [some (.ref 363), some (.int (iI a)), some (.int (iI ((0 : Nat) : Int))), none, none, none, none] [] (mk (mr (bgX m a) (0, -1, m 363 6)) q w) else vI 0 (mk (noX m 1 1) q w) := by
    intro h
    rw [b_219_28, show iI 0 = iI (zb (0 ≤ a ∧ a ≤ z ∧ a ≤ 60)) by rw [zb_f h], key]
  rw [e_219 (by omega) _ rfl rfl, b_219_0, h20]
  by_cases h1 : a < 0
  · rw [if_pos (by rw [iI_lt ha (by omega)]; omega), hE (by omega)]
  · rw [if_neg (by rw [iI_lt ha (by omega)]; omega)]
    by_cases h3 : z < a
    · rw [if_pos (by rw [iI_lt (by omega) ha]; omega), hE (by omega)]
    · rw [if_neg (by rw [iI_lt (by omega) ha]; omega)]
      by_cases h4 : 60 < a
      · rw [if_pos (by rw [iI_lt (by omega) ha]; omega), hE (by omega)]
      · rw [if_neg (by rw [iI_lt (by omega) ha]; omega), show iI 1 = iI (zb (0 ≤ a ∧ a ≤ z ∧ a ≤ 60)) by rw [zb_t (by omega)], key]
theorem X_219e (hd : 4 ≤ d) {n : Nat} {xs : rd} {M : Nat → Nat → Int} {u1 u3 u4 u5 u6 : Option Value} {z : Nat} (hs : gx n xs) : ∃ v m', gv d rR219 166 [some (.ref 363), u1, some (.int (iI z)), u3, u4, u5, u6] [] (mk (mr M xs) q w) = vI v (mk m' q w) ∧
    (xs.2.1 ≠ -1 → v = xs.2.2 - 10 ∧ m' = mr (wr M 363 8 xs.2.1) xs) ∧
    (xs.2.1 = -1 → v = z ∧ (∀ e, e ≠ 363 → e ≠ 383 → m' e = M e) ∧ (∀ j, j ≠ 4 → j ≠ 5 → j ≠ 6 → j ≠ 8 → j ≠ 42 → m' 363 j = M 363 j) ∧ m' 363 8 = -1 ∧ m' 363 42 = z ∧ ∀ i, i < 21 → m' 383 i = M 382 i) := by
  rw [b_219_166, V_179 (by omega) hs]
  simp only [rBd_v, Option.toList_some, Option.toList_none, List.cons_append, List.nil_append, List.append_nil, b_219_171]
  rw [mr_5]
  simp only [iI_eq hs.2 (by omega : i32 (-1))]
  by_cases h : xs.2.1 = -1
  · have c1 := fun (m : Nat → Nat → Int) => V_163 (m := m) (q := q) (w := w) (n := 21) (show 1 ≤ d by omega) s_382 (by decide) s_383 (by decide) (by decide) (by decide) (by decide)
    rw [if_pos h, if_pos h, show iI 21 = iI ((21 : Nat) : Int) from rfl, c1]
    simp only [rBd_v, Option.toList_some, Option.toList_none, List.cons_append, List.nil_append, List.append_nil, b_219_201]
    refine ⟨z, _, rfl, fun y => absurd h y, fun _ => ⟨rfl, ?_, ?_, ?_, ?_, ?_⟩⟩
    · intro e e1 e2
      unfold cp
      rw [row_o _ _ _ e2, wr_o _ _ _ _ e1, mr_o _ _ e1, wr_o _ _ _ _ e1]
    · intro j j4 j5 j6 j8 j42
      unfold cp
      rw [row_o _ _ _ (by decide), wr_b _ _ _ _ j42, mr_b _ _ j4 j5 j6, wr_b _ _ _ _ j8]
    · unfold cp
      rw [row_o _ _ _ (by decide), wr_b _ _ _ _ (by decide), mr_b _ _ (by decide) (by decide) (by decide), wr_s, h]
    · unfold cp
      rw [row_o _ _ _ (by decide), wr_s]
    · intro i hi
      unfold cp
      rw [row_s, if_pos hi, wr_o _ _ _ _ (by decide), mr_o _ _ (by decide), wr_o _ _ _ _ (by decide)]
  · rw [if_neg h, if_neg h]
    exact ⟨xs.2.2 - 10, mr (wr M 363 8 xs.2.1) xs, rfl, fun _ => ⟨rfl, rfl⟩, fun y => absurd y h⟩
theorem C_121 (hd : 40 ≤ d) {a : Int} {z p : Nat} {M1 : Nat → Nat → Int} (ha : i32 a) (hz : z ≤ 600) (h1 : m 101 1 = z) (hq : q 100 13 = some p) (hp : iBook p) (hg : 0 ≤ a ∧ a ≤ 60 ∧ a ≤ z) (h10 : gv (d - 2) rR10 7 [some (.ref p), some (.ref 101), some (.int (iI ((0 : Nat) : Int))), none, none] [] (mk (tr (bx (wr m 101 2 a) p (m (p + 1)) (m (p + 2)) (m (p + 3)) 0) (0, 0, -1)) q w) = vV (mk M1 q w)) : ev d 121 [.ref 100, .int (iI a)] (mk m q w) =
    gv (d - 1) rR121 33 [some (.ref 100), some (.int (iI a)), none] [] (mk M1 q w) := by
  have hl := book_rng hp
  rw [e_121 (by omega) _ rfl rfl, b_121_0, T_82 (by omega) ha (by omega) (by rw [h1]; omega), h1]
  simp only [rBd_v, Option.toList_some, Option.toList_none, List.cons_append, List.nil_append, List.append_nil, b_121_11]
  rw [T_116 (by omega), zb_t hg, if_neg (by decide)]
  simp only [rBd_v, Option.toList_some, Option.toList_none, List.cons_append, List.nil_append, List.append_nil, b_121_14]
  rw [T_83 (by omega) ha (by rw [h1]; omega) (by rw [h1]; omega)]
  simp only [rBd_v, Option.toList_some, Option.toList_none, List.cons_append, List.nil_append, List.append_nil, b_121_22, hq]
  refine Eq.trans (b_121_26 hp) ?_
  have e0 : wr (wr m 101 2 a) p 3 0 = bx (wr m 101 2 a) p (m (p + 1)) (m (p + 2)) (m (p + 3)) 0 := by
    unfold bx
    rw [show row (wr m 101 2 a) (p + 1) (m (p + 1)) = wr m 101 2 a from by
      rw [← wr_o m 101 2 a (show p + 1 ≠ 101 by omega), row_self]]
    rw [show row (wr m 101 2 a) (p + 2) (m (p + 2)) = wr m 101 2 a from by
      rw [← wr_o m 101 2 a (show p + 2 ≠ 101 by omega), row_self]]
    rw [show row (wr m 101 2 a) (p + 3) (m (p + 3)) = wr m 101 2 a from by
      rw [← wr_o m 101 2 a (show p + 3 ≠ 101 by omega), row_self]]
    rfl
  rw [e_10 (by omega) _ rfl rfl, b_10_0 hp, tr_wo (by omega), e0, show d - 1 - 1 = d - 2 by omega, show iI 0 = iI ((0 : Nat) : Int) from rfl, h10]
  simp only [rBd_v, Option.toList_some, Option.toList_none, List.cons_append, List.nil_append, List.append_nil]
theorem C_121n (hd : 40 ≤ d) {a : Int} {z : Nat} (ha : i32 a) (hz : z ≤ 600) (h1 : m 101 1 = z) (hg : ¬ (0 ≤ a ∧ a ≤ 60 ∧ a ≤ z)) : ev d 121 [.ref 100, .int (iI a)] (mk m q w) = some (.inr 0, (mk (wr m 100 17 (m 100 17 + 1)) q w, (1, 6))) := by
  rw [e_121 (by omega) _ rfl rfl, b_121_0, T_82 (by omega) ha (by omega) (by rw [h1]; omega), h1]
  simp only [rBd_v, Option.toList_some, Option.toList_none, List.cons_append, List.nil_append, List.append_nil, b_121_11]
  rw [T_116 (by omega), zb_f hg, if_pos rfl]
  rfl
set_option maxHeartbeats 2000000 in
theorem K_book {a : Int} (ha : i32 a) : cTH 121 219 [.int (iI a)] 1 := by
  intro m q w hR d hd
  have hRR := hR
  obtain ⟨⟨z, ⟨t1, t2⟩, ⟨t3, t4, t5⟩, t6⟩, -, -, -, ⟨b, b', b1, b2, b3, b4, b5, -⟩, -, hS⟩ := hR
  have hb := book_two b3
  have hb' := book_two b4
  by_cases hg : 0 ≤ a ∧ a ≤ 60 ∧ a ≤ z
  case neg =>
    refine Or.inr ⟨0, 0, _, noX (wr m 100 17 (m 100 17 + 1)) 1 1, Or.inl rfl, C_121n (by omega) ha t3 t4 hg, ?_, noX_0, RR_no0 hRR⟩
    rw [X_219o (z := z) (by omega) ha t3 (by rw [wr_o _ _ _ _ (by decide)]; exact t5), if_neg (by omega)]
  left
  obtain ⟨n, rfl⟩ : ∃ n : Nat, a = n := ⟨a.toNat, by omega⟩
  have hn : n ≤ 60 := by omega
  have hT102 : isT (m 102) := by rw [t1]; exact t2
  obtain ⟨s', x', V', S', M', Q', z', zx', g1, g2, r3, g4, g5, c1, c2⟩ := J_bk (T := m 102) (n := n) hT102 (by omega) b4 (m (b' + 1)) (m (b' + 2)) (m (b' + 3)) (m 382) (0, 0, -1) (0, -1, m 363 6) ⟨by show 0 ≤ n; omega, by show i32 0; omega⟩ ⟨by show 0 ≤ n; omega, by show i32 (-1); omega⟩ (Or.inl ⟨rfl, rfl, rfl⟩) (fun i hi => absurd hi (by omega))
  have hO : onT (wr m 101 2 (n : Int)) (m 102) n := ⟨wr_o _ _ _ _ (by decide), wr_s _ _ _ _, by omega, hT102⟩
  have hC := C_121 (d := d) (m := m) (q := q) (w := w) (by omega) ha t3 t4 b2 b4 hg (c1 (d - 2) (by omega) (wr m 101 2 (n : Int)) q w none none hO)
  have hgF := aFi_gd (T := m 102) g1
  rw [b_121_33, T_85 (by omega) (bx_on b4 hO) g1] at hC
  simp only [rBd_v, Option.toList_some, Option.toList_none, List.cons_append, List.nil_append, List.append_nil] at hC
  rw [b_121_40] at hC
  simp only [zb_0] at hC
  generalize hA : aFi (m 102) n s' = sA at *
  have hX : ∀ (m1 : Nat → Nat → Int) (qr : Nat → Nat → Option Nat), (∀ e, 363 ≤ e → m1 e = m e) → ∃ v m', ev d 219 [.ref 363, .int (iI (n : Int))] (mk m1 qr w) = vI v (mk m' qr w) ∧
      (x'.2.1 ≠ -1 → v = x'.2.2 - 10 ∧ m' = mr (wr (row (bgX m1 (n : Int)) 382 Q') 363 8 x'.2.1) x') ∧
      (x'.2.1 = -1 → v = zx' ∧ (∀ e, e ≠ 363 → e ≠ 383 → m' e = (row (bgX m1 (n : Int)) 382 Q') e) ∧ (∀ j, j ≠ 4 → j ≠ 5 → j ≠ 6 → j ≠ 8 → j ≠ 42 → m' 363 j = (row (bgX m1 (n : Int)) 382 Q') 363 j) ∧ m' 363 8 = -1 ∧ m' 363 42 = zx' ∧ ∀ i, i < 21 → m' 383 i = (row (bgX m1 (n : Int)) 382 Q') 382 i) := by
    intro m1 qr h1
    have e3 := h1 363 (by decide)
    have hOX : onX (bgX m1 (n : Int)) (m 102) n := ⟨by rw [bgX_o (by decide), h1 365 (by decide), t1], bgX_3, by omega, hT102⟩
    have e0 : row (bgX m1 (n : Int)) 382 (m 382) = bgX m1 (n : Int) := by
      rw [show m 382 = bgX m1 (n : Int) 382 by rw [bgX_o (by decide), h1 382 (by decide)], row_self]
    obtain ⟨u3', u4', u5', u6', c3⟩ := c2 (d - 1) (by omega) (bgX m1 (n : Int)) qr w (some (.int (iI (n : Int)))) none none none none hOX
    obtain ⟨v, m', v1, v2⟩ := X_219e (M := row (bgX m1 (n : Int)) 382 Q') (xs := x') (n := n) (q := qr) (w := w) (d := d - 1) (u1 := some (.int (iI (n : Int)))) (u3 := u3') (u4 := u4') (u5 := u5') (u6 := u6') (z := zx') (by omega) g2
    refine ⟨v, m', ?_, v2⟩
    rw [X_219o (z := z) (by omega) ha t3 (by rw [e3]; exact t5), if_pos (by omega), e3]
    rw [e0] at c3
    exact c3.trans v1
  have hSp : ∀ m1 : Nat → Nat → Int, m1 = tr (wr (bx (wr m 101 2 (n : Int)) b' V' S' M' z') 101 1 0) sA → (∀ e, e ≠ 101 → (e < b' ∨ b' + 3 < e) → m1 e = m e) ∧ m1 101 1 = 0 ∧ m1 101 5 = (if sA.2.1 = 0 then -1 else sA.2.2) ∧ (m1 (b' + 1) = V' ∧ m1 (b' + 2) = S' ∧ m1 (b' + 3) = M') ∧ m1 b' 3 = z' := by
    rintro m1 rfl
    refine ⟨fun e h1 h2 => ?_, ?_, tr_5, ⟨?_, ?_, ?_⟩, ?_⟩
    · rw [tr_o h1, wr_o _ _ _ _ h1]
      unfold bx
      rw [wr_o _ _ _ _ (by omega), row_o _ _ _ (by omega), row_o _ _ _ (by omega), row_o _ _ _ (by omega), wr_o _ _ _ _ h1]
    · rw [tr_1, wr_s]
    · rw [tr_o (by omega), wr_o _ _ _ _ (by omega)]
      unfold bx
      rw [wr_o _ _ _ _ (by omega), row_o _ _ _ (by omega), row_o _ _ _ (by omega), row_s]
    · rw [tr_o (by omega), wr_o _ _ _ _ (by omega)]
      unfold bx
      rw [wr_o _ _ _ _ (by omega), row_o _ _ _ (by omega), row_s]
    · rw [tr_o (by omega), wr_o _ _ _ _ (by omega)]
      unfold bx
      rw [wr_o _ _ _ _ (by omega), row_s]
    · rw [tr_o (by omega), wr_o _ _ _ _ (by omega), bx_3]
  obtain ⟨m1, em1⟩ : ∃ m1, m1 = tr (wr (bx (wr m 101 2 (n : Int)) b' V' S' M' z') 101 1 0) sA := ⟨_, rfl⟩
  obtain ⟨a1, a2, a3, ⟨a4, a6, a7⟩, a5⟩ := hSp m1 em1
  clear hSp
  have hm363 : ∀ e, 363 ≤ e → m1 e = m e := fun e he => a1 e (by omega) (by omega)
  obtain ⟨ms, ems⟩ : ∃ ms : Nat → Nat → Int, ms = fun e => if e = 101 then m 101 else m1 e := ⟨_, rfl⟩
  have hso : ∀ e, e ≠ 101 → ms e = m1 e := by
    intro e h1
    rw [ems]
    exact if_neg h1
  have hSpare : RR ms q := RR_sp hRR (fun e => by
    by_cases h1 : e = 101
    · left
      rw [ems, h1]
      exact if_pos rfl
    · by_cases h2 : e < b' ∨ b' + 3 < e
      · left
        rw [hso e h1, a1 e h1 h2]
      · exact Or.inr (Or.inr (Or.inr ⟨b', b2, by omega, by omega⟩)))
  clear ems
  by_cases hf : sA.2.1 = 0
  · have hx := (rel_fine r3).mp hf
    obtain ⟨k1, k2⟩ := g5 hx
    subst k1
    rw [if_pos (not_not_intro hf), b1] at hC
    replace hC := hC.trans (b_121_55 b3)
    rw [b2] at hC
    replace hC := hC.trans (b_121_61 b3 b4)
    have qc : (wq (wq q 100 12 (some b')) 100 13 (some b)) 100 12 = some b' := by simp [wq, row]
    have q13 : (wq (wq q 100 12 (some b')) 100 13 (some b)) 100 13 = some b := by simp [wq, row]
    have qo : ∀ i j, ¬ (i = 100 ∧ (j = 12 ∨ j = 13)) → (wq (wq q 100 12 (some b')) 100 13 (some b)) i j = q i j := by
      intro i j h2
      by_cases h3 : i = 100
      · have h4 : j ≠ 12 := fun z => h2 ⟨h3, Or.inl z⟩
        have h5 : j ≠ 13 := fun z => h2 ⟨h3, Or.inr z⟩
        simp [wq, row, h3, h4, h5]
      · simp [wq, row, h3]
    rw [qc] at hC
    replace hC := hC.trans (b_121_73 b4)
    rw [← em1, a5] at hC
    generalize hq1 : wq (wq q 100 12 (some b')) 100 13 (some b) = qn at *
    obtain ⟨v, m2, x1, -, x3⟩ := hX m1 qn hm363
    obtain ⟨w1, w2, w3, w4, w5, w6⟩ := x3 hx
    clear hX x3 em1
    have er : ∀ e, e ≠ 363 → e ≠ 382 → (row (bgX m1 (n : Int)) 382 Q') e = m1 e := by
      intro e h1 h2
      rw [row_o _ _ _ h2, bgX_o h1]
    have eo : ∀ e, e ≠ 363 → e ≠ 382 → e ≠ 383 → m2 e = m1 e := fun e h1 h2 h3 => (w2 e h1 h3).trans (er e h1 h2)
    have eb : ∀ j, j ≠ 4 → j ≠ 5 → j ≠ 6 → j ≠ 8 → j ≠ 42 → m2 363 j = bgX m1 (n : Int) 363 j := by
      intro j h4 h5 h6 h8 h42
      rw [w3 j h4 h5 h6 h8 h42, row_o _ _ _ (by decide)]
    refine ⟨zx', m1, qn, m2, hC, by rw [x1, w1], by rw [eb 0 (by decide) (by decide) (by decide) (by decide) (by decide), bgX_0], ?_⟩
    obtain ⟨mi, emi⟩ : ∃ mi, mi = wr (row ms 383 (m2 383)) 363 42 zx' := ⟨_, rfl⟩
    have hio : ∀ e, e ≠ 383 → e ≠ 363 → mi e = ms e := by
      intro e h1 h2
      rw [emi, wr_o _ _ _ _ h2, row_o _ _ _ h1]
    have hib : ∀ j, j ≠ 42 → mi 363 j = ms 363 j := by
      intro j h1
      rw [emi, wr_b _ _ _ _ h1, row_o _ _ _ (by decide)]
    have hi0 : mi 383 = m2 383 := by rw [emi, wr_o _ _ _ _ (by decide), row_s]
    have hi1 : mi 363 42 = zx' := by rw [emi, wr_s]
    clear emi
    have hRi : RR mi qn := by
      refine RR_gB (b := b') hSpare hio hib qo ⟨b, qc, q13, b4, b3, Ne.symm b5, zx', g4, ?_, hi1, ?_⟩
      · rw [hio b' (by omega) (by omega), hso b' (by omega), a5]
      · intro i hi
        rw [hio (b' + 1) (by omega) (by omega), hso (b' + 1) (by omega), a4, hio (b' + 2) (by omega) (by omega), hso (b' + 2) (by omega), a6, hio (b' + 3) (by omega) (by omega), hso (b' + 3) (by omega), a7, hi0, w6 (3 * i) (by omega), w6 (3 * i + 1) (by omega), w6 (3 * i + 2) (by omega), row_s]
        exact k2 i hi
    have hq : qk mi m2 := by
      refine ⟨fun e h1 h2 h3 => ?_, fun j hj => ?_⟩
      · unfold scr at h1
        by_cases h4 : e = 383
        · rw [h4, hi0]
        · rw [eo e h3 (by omega) h4, hio e h4 h3, hso e h2]
      · by_cases h42 : j = 42
        · rw [h42, w5, hi1]
        · rw [eb j (by omega) (by omega) (by omega) (by omega) h42, bgX_b (by omega) (by omega) (by omega) (by omega) (by omega), hib j h42, hso 363 (by omega)]
    refine RR_k (z := 0) hq ⟨⟨?_, ?_⟩, ⟨by omega, ?_, ?_⟩, ?_⟩ ?_ hRi
    · rw [eo 102 (by omega) (by omega) (by omega), eo 365 (by omega) (by omega) (by omega), hm363 365 (by omega), a1 102 (by omega) (by omega)]
      exact t1
    · rw [eo 365 (by omega) (by omega) (by omega), hm363 365 (by omega)]
      exact t2
    · rw [eo 101 (by omega) (by omega) (by omega), a2]
      rfl
    · rw [eb 2 (by decide) (by decide) (by decide) (by decide) (by decide), bgX_2]
      rfl
    · rw [eo 101 (by omega) (by omega) (by omega), a3, if_pos hf, w4]
    · unfold gS fB at *
      rw [eo (161 + 2) (by omega) (by omega) (by omega), eo 161 (by omega) (by omega) (by omega), a1 (161 + 2) (by omega) (by omega), a1 161 (by omega) (by omega)]
      exact hS
  · have hx := rel_nf r3 hf
    rw [if_neg (fun z => z hf), T_86 (by omega)] at hC
    simp only [rBd_v, Option.toList_some, Option.toList_none, List.cons_append, List.nil_append, List.append_nil] at hC
    rw [b_121_50, ← em1] at hC
    obtain ⟨v, m2, x1, x2, -⟩ := hX m1 q hm363
    obtain ⟨w1, w2⟩ := x2 hx
    clear hX x2 em1
    rcases r3 with ⟨o1, -, -⟩ | ⟨-, -, o3, o4⟩
    · exact absurd o1 hf
    have eo : ∀ e, e ≠ 363 → e ≠ 382 → m2 e = m1 e := by
      intro e h1 h2
      rw [w2, mr_o _ _ h1, wr_o _ _ _ _ h1, row_o _ _ _ h2, bgX_o h1]
    have eb : ∀ j, j ≠ 4 → j ≠ 5 → j ≠ 6 → j ≠ 8 → m2 363 j = bgX m1 (n : Int) 363 j := by
      intro j h4 h5 h6 h8
      rw [w2, mr_b _ _ h4 h5 h6, wr_b _ _ _ _ h8, row_o _ _ _ (by decide)]
    refine ⟨sA.2.1 - 10, m1, q, m2, hC, by rw [x1, w1, o4], by rw [eb 0 (by decide) (by decide) (by decide) (by decide), bgX_0], ?_⟩
    have hq : qk ms m2 := by
      refine ⟨fun e h1 h2 h3 => ?_, fun j hj => ?_⟩
      · unfold scr at h1
        rw [eo e h3 (by omega), hso e h2]
      · rw [eb j (by omega) (by omega) (by omega) (by omega), bgX_b (by omega) (by omega) (by omega) (by omega) (by omega), hso 363 (by omega)]
    refine RR_k (z := 0) hq ⟨⟨?_, ?_⟩, ⟨by omega, ?_, ?_⟩, ?_⟩ ?_ hSpare
    · rw [eo 102 (by omega) (by omega), eo 365 (by omega) (by omega), hm363 365 (by omega), a1 102 (by omega) (by omega)]
      exact t1
    · rw [eo 365 (by omega) (by omega), hm363 365 (by omega)]
      exact t2
    · rw [eo 101 (by omega) (by omega), a2]
      rfl
    · rw [eb 2 (by decide) (by decide) (by decide) (by decide), bgX_2]
      rfl
    · rw [eo 101 (by omega) (by omega), a3, if_neg hf, w2, mr_b _ _ (by decide) (by decide) (by decide), wr_s, o3]
    · unfold gS fB at *
      rw [eo (161 + 2) (by omega) (by omega), eo 161 (by omega) (by omega), a1 (161 + 2) (by omega) (by omega), a1 161 (by omega) (by omega)]
      exact hS
end S
