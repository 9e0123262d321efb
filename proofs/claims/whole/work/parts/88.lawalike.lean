/-! ===== the call law, alike ===== -/
section S
variable {d n : Nat} {m : Nat → Nat → Int} {q : Nat → Nat → Option Nat} {w : Option (Nat → Int64)}
theorem X_191 (hd : 3 ≤ d) {a : Int} {z : Nat} (ha : i32 a) (hz : z ≤ 600) (h2 : m 363 2 = z) : ev d 191 [.ref 363, .int (iI a)] (mk m q w) =
    if 0 ≤ a ∧ a ≤ z ∧ a ≤ 150 then gv (d - 1) rR191 45 [some (.ref 363), some (.int (iI a)), none] [] (mk (mr (bgX m a) (0, -1, m 363 6)) q w) else vI 0 (mk (noX m 1 1) q w) := by
  have h20 : (wr m 363 0 0) 363 2 = z := (wr_b _ _ _ _ (by decide)).trans h2
  have key : ∀ (P : Prop) [Decidable P], gv (d - 1) rR191 30 [some (.ref 363), some (.int (iI a)), none] [.int (iI (zb P)), .ref 363] (mk (wr m 363 0 0) q w) = if P then gv (d - 1) rR191 45 [some (.ref 363), some (.int (iI a)), none] [] (mk (mr (bgX m a) (0, -1, m 363 6)) q w) else vI 0 (mk (noX m 1 1) q w) := by
    intro P _
    rw [b_191_30, V_160 (by omega) (Or.inr rfl) (by omega) (by decide) (wr_s _ _ _ _)]
    by_cases h : P
    · rw [if_pos h, if_pos h]
      simp only [rBd_v, Option.toList_some, Option.toList_none, List.cons_append, List.nil_append, List.append_nil]
      rw [b_191_35, if_neg (by decide), V_178b (by omega)]
      simp only [rBd_v, Option.toList_some, Option.toList_none, List.cons_append, List.nil_append, List.append_nil]
    · rw [if_neg h, if_neg h]
      simp only [rBd_v, Option.toList_some, Option.toList_none, List.cons_append, List.nil_append, List.append_nil]
      rw [b_191_35, if_pos rfl]
      rfl
  rw [e_191 (by omega) _ rfl rfl, b_191_0, h20]
  by_cases h : 0 ≤ a ∧ a ≤ z ∧ a ≤ 150
  · rw [if_neg (by rw [iI_lt ha (by omega)]; omega), if_neg (by rw [iI_lt (by omega) ha]; omega), if_neg (by rw [iI_lt (by omega) ha]; omega), show iI 1 = iI (zb (0 ≤ a ∧ a ≤ z ∧ a ≤ 150)) by rw [zb_t h], key]
  · have hE : gv (d - 1) rR191 29 [some (.ref 363), some (.int (iI a)), none] [.ref 363] (mk (wr m 363 0 0) q w) = if 0 ≤ a ∧ a ≤ z ∧ a ≤ 150 then gv (d - 1) rR191 45 [some (.ref 363), some (.int (iI a)), none] [] (mk (mr (bgX m a) (0, -1, m 363 6)) q w) else vI 0 (mk (noX m 1 1) q w) := by
      rw [b_191_29, show iI 0 = iI (zb (0 ≤ a ∧ a ≤ z ∧ a ≤ 150)) by rw [zb_f h], key]
    by_cases h1 : a < 0
    · rw [if_pos (by rw [iI_lt ha (by omega)]; omega), hE]
    · rw [if_neg (by rw [iI_lt ha (by omega)]; omega)]
      by_cases h3 : z < a
      · rw [if_pos (by rw [iI_lt (by omega) ha]; omega), hE]
      · rw [if_neg (by rw [iI_lt (by omega) ha]; omega), if_pos (by rw [iI_lt (by omega) ha]; omega), hE]
theorem bg_lx {a : Int} : wr (bgX m a) 363 23 0 = lx (bgX m a) (m 368) (m 369) 0 0 := by
  funext x y
  unfold lx bgX wr row
  by_cases h1 : x = 363
  · subst h1
    by_cases h2 : y = 7
    · simp [h2]
    · by_cases h3 : y = 23
      · simp [h3]
      · simp [h2, h3]
  · by_cases h2 : x = 368
    · simp [h2]
    · by_cases h3 : x = 369
      · simp [h3]
      · simp [wq, row, h1, h2, h3]
theorem X_191e (hd : 4 ≤ d) {T : Nat → Int} {n : Nat} {xs : rd} {M : Nat → Nat → Int} {u1 u2 : Option Value} {k : Nat} (hk0 : (xFi T n xs).2.1 = -1 → k ≤ 150) (hT : onX M T n) (hs : gx n xs) (h23 : M 363 23 = k) : ∃ v m', gv d rR191 54 [some (.ref 363), u1, u2] [] (mk (mr M xs) q w) = vI v (mk m' q w) ∧
    ((xFi T n xs).2.1 ≠ -1 → v = (xFi T n xs).2.2 - 10 ∧ m' = mr (wr M 363 8 (xFi T n xs).2.1) (xFi T n xs)) ∧
    ((xFi T n xs).2.1 = -1 → v = 1 ∧ (∀ e, e ≠ 363 → e ≠ 370 → e ≠ 371 → m' e = M e) ∧ (∀ j, j ≠ 4 → j ≠ 5 → j ≠ 6 → j ≠ 8 → j ≠ 24 → m' 363 j = M 363 j) ∧ (m' 363 8 = -1 ∧ m' 363 24 = k) ∧ ∀ i, i < k → m' 370 i = M 368 i ∧ m' 371 i = M 369 i) := by
  have hx := xFi_gx (T := T) hT.2.2.1 hs
  have hsk := skip_le T hs.1
  have hn := hT.2.2.1
  have e54 : gv d rR191 54 [some (.ref 363), u1, u2] [] (mk (mr M xs) q w) = gv d rR191 77 [some (.ref 363), u1, u2] [] (mk (mr M (xFi T n xs)) q w) := by
    rw [b_191_54, V_167 (by omega) hs]
    simp only [rBd_v, Option.toList_some, Option.toList_none, List.cons_append, List.nil_append, List.append_nil, b_191_58, zb_0]
    unfold xFi
    by_cases h0 : xs.2.1 = -1
    · rw [if_neg (not_not_intro h0), if_pos h0, V_177 (by omega) hT hs]
      simp only [rBd_v, Option.toList_some, Option.toList_none, List.cons_append, List.nil_append, List.append_nil, b_191_65, zb_0]
      by_cases h1 : skip T n xs.1 < n
      · have e1 : xWr 1 (skip T n xs.1) (skip T n xs.1, xs.2) = (skip T n xs.1, ((skip T n xs.1 : Nat) : Int), 1) := if_pos h0
        rw [if_neg (not_not_intro h1), if_pos h1, mr_4]
        dsimp only
        rw [V_168 (by omega) (show gx n (skip T n xs.1, xs.2) from ⟨hsk.2, hs.2⟩), e1]
        simp only [rBd_v, Option.toList_some, Option.toList_none, List.cons_append, List.nil_append, List.append_nil]
      · rw [if_pos h1, if_neg h1]
    · rw [if_pos h0, if_neg h0]
  rw [e54, b_191_77, V_179 (by omega) hx]
  simp only [rBd_v, Option.toList_some, Option.toList_none, List.cons_append, List.nil_append, List.append_nil, b_191_82]
  rw [mr_5]
  simp only [iI_eq hx.2 (by omega : i32 (-1))]
  generalize hxF : xFi T n xs = xF at *
  clear e54 hxF
  by_cases h : xF.2.1 = -1
  · have hk := hk0 h
    rw [if_pos h, if_pos h]
    have e23 : mr (wr M 363 8 xF.2.1) xF 363 23 = k := by rw [mr_b _ _ (by decide) (by decide) (by decide), wr_b _ _ _ _ (by decide)]; exact h23
    have c1 := fun (m : Nat → Nat → Int) => V_163 (m := m) (q := q) (w := w) (n := k) (show 1 ≤ d by omega) s_368 (by decide) s_370 (by decide) (by decide) hk hk
    have c2 := fun (m : Nat → Nat → Int) => V_163 (m := m) (q := q) (w := w) (n := k) (show 1 ≤ d by omega) s_369 (by decide) s_371 (by decide) (by decide) hk hk
    rw [wr_b _ _ _ _ (by decide : 23 ≠ 24), e23, c1]
    simp only [rBd_v, Option.toList_some, Option.toList_none, List.cons_append, List.nil_append, List.append_nil, b_191_117]
    have e23b : cp (wr (mr (wr M 363 8 xF.2.1) xF) 363 24 k) 368 370 k 363 23 = k := by
      unfold cp
      rw [row_o _ _ _ (by decide), wr_b _ _ _ _ (by decide), e23]
    rw [e23b, c2]
    simp only [rBd_v, Option.toList_some, Option.toList_none, List.cons_append, List.nil_append, List.append_nil, b_191_133]
    refine ⟨1, _, rfl, fun z => absurd h z, fun _ => ⟨rfl, ?_, ?_, ⟨?_, ?_⟩, ?_⟩⟩
    · intro e e1 e2 e3
      unfold cp
      rw [row_o _ _ _ e3, row_o _ _ _ e2, wr_o _ _ _ _ e1, mr_o _ _ e1, wr_o _ _ _ _ e1]
    · intro j j4 j5 j6 j8 j24
      unfold cp
      rw [row_o _ _ _ (by decide), row_o _ _ _ (by decide), wr_b _ _ _ _ j24, mr_b _ _ j4 j5 j6, wr_b _ _ _ _ j8]
    · unfold cp
      rw [row_o _ _ _ (by decide), row_o _ _ _ (by decide), wr_b _ _ _ _ (by decide), mr_b _ _ (by decide) (by decide) (by decide), wr_s, h]
    · unfold cp
      rw [row_o _ _ _ (by decide), row_o _ _ _ (by decide), wr_s]
    · intro i hi
      unfold cp
      constructor
      · rw [row_o _ _ _ (by decide), row_s, if_pos hi, wr_o _ _ _ _ (by decide), mr_o _ _ (by decide), wr_o _ _ _ _ (by decide)]
      · rw [row_s, if_pos hi, row_o _ _ _ (by decide), wr_o _ _ _ _ (by decide), mr_o _ _ (by decide), wr_o _ _ _ _ (by decide)]
  · rw [if_neg h, if_neg h]
    exact ⟨xF.2.2 - 10, mr (wr M 363 8 xF.2.1) xF, rfl, fun _ => ⟨rfl, rfl⟩, fun z => absurd z h⟩
theorem C_118 (hd : 40 ≤ d) {a : Int} {z y : Nat} {M1 : Nat → Nat → Int} (ha : i32 a) (hz : z ≤ 600) (h1 : m 101 1 = z) (hq : q 100 10 = some y) (hy : iLaw y) (hg : 0 ≤ a ∧ a ≤ 150 ∧ a ≤ z) (h70 : ev (d - 2) 70 [.ref y, .ref 101, .int (iI 0)] (mk (tr (lw (wr m 101 2 a) y (m (y + 1)) 0) (0, 0, -1)) q w) = vV (mk M1 q w)) : ev d 118 [.ref 100, .int (iI a)] (mk m q w) =
    gv (d - 1) rR118 34 [some (.ref 100), some (.int (iI a)), none] [] (mk M1 q w) := by
  have hl := law_rng hy
  rw [e_118 (by omega) _ rfl rfl, b_118_0, T_82 (by omega) ha (by omega) (by rw [h1]; omega), h1]
  simp only [rBd_v, Option.toList_some, Option.toList_none, List.cons_append, List.nil_append, List.append_nil, b_118_12]
  rw [T_116 (by omega), zb_t hg, if_neg (by decide)]
  simp only [rBd_v, Option.toList_some, Option.toList_none, List.cons_append, List.nil_append, List.append_nil, b_118_15]
  rw [T_83 (by omega) ha (by rw [h1]; omega) (by rw [h1]; omega)]
  simp only [rBd_v, Option.toList_some, Option.toList_none, List.cons_append, List.nil_append, List.append_nil, b_118_23, hq]
  refine Eq.trans (b_118_27 hy) ?_
  have e0 : wr (wr m 101 2 a) y 3 0 = lw (wr m 101 2 a) y (m (y + 1)) 0 := by
    rw [show (0 : Int) = ((0 : Nat) : Int) from rfl, lw_w3, wr_o _ _ _ _ (by omega)]
  rw [e_72 (by omega) _ rfl rfl, b_72_0 hy, tr_wo (by omega), e0, show d - 1 - 1 = d - 2 by omega, h70]
  simp only [rBd_v, Option.toList_some, Option.toList_none, List.cons_append, List.nil_append, List.append_nil, b_72_11]
theorem C_118n (hd : 40 ≤ d) {a : Int} {z : Nat} (ha : i32 a) (hz : z ≤ 600) (h1 : m 101 1 = z) (hg : ¬ (0 ≤ a ∧ a ≤ 150 ∧ a ≤ z)) : ev d 118 [.ref 100, .int (iI a)] (mk m q w) = some (.inr 0, (mk (wr m 100 17 (m 100 17 + 1)) q w, (1, 6))) := by
  rw [e_118 (by omega) _ rfl rfl, b_118_0, T_82 (by omega) ha (by omega) (by rw [h1]; omega), h1]
  simp only [rBd_v, Option.toList_some, Option.toList_none, List.cons_append, List.nil_append, List.append_nil, b_118_12]
  rw [T_116 (by omega), zb_f hg, if_pos rfl]
  rfl
set_option maxHeartbeats 2000000 in
theorem K_law {a : Int} (ha : i32 a) : cTH 118 191 [.int (iI a)] 1 := by
  intro m q w hR d hd
  have hRR := hR
  obtain ⟨⟨z, ⟨t1, t2⟩, ⟨t3, t4, t5⟩, t6⟩, ⟨n0, r0, k0, h0, hK⟩, ⟨y, y', l1, l2, l3, l4, l5, lz, l6, l7⟩, ⟨p0, p1, hP⟩, ⟨b, hB⟩, hCC, hS⟩ := hR
  have hy := law_rng l3
  have hy' := law_rng l4
  by_cases hg : 0 ≤ a ∧ a ≤ 150 ∧ a ≤ z
  case neg =>
    refine Or.inr ⟨0, 0, _, noX (wr m 100 17 (m 100 17 + 1)) 1 1, Or.inl rfl, C_118n (by omega) ha t3 t4 hg, ?_, noX_0, RR_no0 hRR⟩
    rw [X_191 (z := z) (by omega) ha t3 (by rw [wr_o _ _ _ _ (by decide)]; exact t5), if_neg (by omega)]
  left
  obtain ⟨n, rfl⟩ : ∃ n : Nat, a = n := ⟨a.toNat, by omega⟩
  have hn : n ≤ 150 := by omega
  have hT102 : isT (m 102) := by rw [t1]; exact t2
  obtain ⟨s', x', C', E', F', z', k', c1, c2, ⟨g1, g2, g3, g4, g5⟩, -⟩ := J_sum (T := m 102) (n := n) hT102 hn n (d - 2) (d - 1) y' 0 0 (m (y' + 1)) (m 368) (m 369) (0, 0, -1) (0, -1, m 363 6) l4 (by omega) (by omega) (by omega) ⟨by show 0 ≤ n; omega, by show i32 0; omega⟩ ⟨by show 0 ≤ n; omega, by show i32 (-1); omega⟩ (Or.inl ⟨rfl, rfl, rfl⟩) rfl (by show n - 0 ≤ n; omega) (by show 0 ≤ 0; omega) (fun i hi => absurd hi (by omega))
  have hO : onT (wr m 101 2 (n : Int)) (m 102) n := ⟨wr_o _ _ _ _ (by decide), wr_s _ _ _ _, by omega, hT102⟩
  have hC := C_118 (d := d) (m := m) (q := q) (w := w) (by omega) ha t3 t4 l2 l4 hg (c1 (wr m 101 2 (n : Int)) q w hO)
  have r3 := rel_Fi (T := m 102) (n := n) g3
  have hgF := aFi_gd (T := m 102) g1
  rw [b_118_34, T_85 (by omega) (lw_on _ _ _ l4 hO) g1] at hC
  simp only [rBd_v, Option.toList_some, Option.toList_none, List.cons_append, List.nil_append, List.append_nil] at hC
  rw [b_118_41] at hC
  simp only [zb_0] at hC
  generalize hA : aFi (m 102) n s' = sA at *
  have hfine : sA.2.1 = 0 → s'.2.1 = 0 := by
    intro h
    by_cases h9 : s'.2.1 = 0
    · exact h9
    · have := f_aFi (T := m 102) (n := n) h9
      rw [hA] at this
      rw [this] at h
      exact absurd h h9
  have hX : ∀ (m1 : Nat → Nat → Int) (qr : Nat → Nat → Option Nat), (∀ e, 363 ≤ e → m1 e = m e) → ∃ v m', ev d 191 [.ref 363, .int (iI (n : Int))] (mk m1 qr w) = vI v (mk m' qr w) ∧
      ((xFi (m 102) n x').2.1 ≠ -1 → v = (xFi (m 102) n x').2.2 - 10 ∧ m' = mr (wr (lx (bgX m1 (n : Int)) E' F' k' 0) 363 8 (xFi (m 102) n x').2.1) (xFi (m 102) n x')) ∧
      ((xFi (m 102) n x').2.1 = -1 → v = 1 ∧ (∀ e, e ≠ 363 → e ≠ 370 → e ≠ 371 → m' e = lx (bgX m1 (n : Int)) E' F' k' 0 e) ∧ (∀ j, j ≠ 4 → j ≠ 5 → j ≠ 6 → j ≠ 8 → j ≠ 24 → m' 363 j = lx (bgX m1 (n : Int)) E' F' k' 0 363 j) ∧ (m' 363 8 = -1 ∧ m' 363 24 = k') ∧ ∀ i, i < k' → m' 370 i = E' i ∧ m' 371 i = F' i) := by
    intro m1 qr h1
    have e3 := h1 363 (by decide)
    have hOX : onX (bgX m1 (n : Int)) (m 102) n := ⟨by rw [bgX_o (by decide), h1 365 (by decide), t1], bgX_3, by omega, hT102⟩
    obtain ⟨v, m', v1, v2, v3⟩ := X_191e (M := lx (bgX m1 (n : Int)) E' F' k' 0) (T := m 102) (n := n) (q := qr) (w := w) (d := d - 1) (u1 := some (.int (iI (n : Int)))) (u2 := none) (k := k') (by omega) (fun h => by
      have := hfine ((rel_fine r3).mpr h)
      have := (g5 this).1
      omega) (lx_on _ _ _ _ _ hOX) g2 (lx_23 _ _ _ _ _)
    refine ⟨v, m', ?_, v2, fun h => ?_⟩
    · rw [X_191 (z := z) (by omega) ha t3 (by rw [e3]; exact t5), if_pos (by omega), b_191_45, mr_wi (by decide) (by decide) (by decide), bg_lx, h1 368 (by decide), h1 369 (by decide), e3, c2 (bgX m1 (n : Int)) qr w hOX]
      simp only [rBd_v, Option.toList_some, Option.toList_none, List.cons_append, List.nil_append, List.append_nil]
      exact v1
    · obtain ⟨w1, w2, w3, w4, w5⟩ := v3 h
      refine ⟨w1, w2, w3, w4, fun i hi => ?_⟩
      obtain ⟨w6, w7⟩ := w5 i hi
      refine ⟨?_, ?_⟩
      · rw [w6]
        unfold lx
        rw [row_o _ _ _ (by decide), row_o _ _ _ (by decide), row_s]
      · rw [w7]
        unfold lx
        rw [row_o _ _ _ (by decide), row_s]
  have hSp : ∀ m1 : Nat → Nat → Int, m1 = tr (wr (lw (wr m 101 2 (n : Int)) y' C' z') 101 1 0) sA → (∀ e, e ≠ 101 → e ≠ y' → e ≠ y' + 1 → m1 e = m e) ∧ m1 101 1 = 0 ∧ m1 101 5 = (if sA.2.1 = 0 then -1 else sA.2.2) ∧ m1 (y' + 1) = C' ∧ m1 y' 3 = z' := by
    rintro m1 rfl
    refine ⟨fun e h1 h2 h3 => ?_, ?_, tr_5, ?_, ?_⟩
    · rw [tr_o h1, wr_o _ _ _ _ h1, lw_o _ _ _ h2 h3, wr_o _ _ _ _ h1]
    · rw [tr_1, wr_s]
    · rw [tr_o (by omega), wr_o _ _ _ _ (by omega), lw_1]
    · rw [tr_o (by omega), wr_o _ _ _ _ (by omega), lw_3]
  obtain ⟨m1, em1⟩ : ∃ m1, m1 = tr (wr (lw (wr m 101 2 (n : Int)) y' C' z') 101 1 0) sA := ⟨_, rfl⟩
  obtain ⟨a1, a2, a3, a4, a5⟩ := hSp m1 em1
  clear hSp
  have hm363 : ∀ e, 363 ≤ e → m1 e = m e := fun e he => a1 e (by omega) (by omega) (by omega)
  by_cases hf : sA.2.1 = 0
  · have hx := (rel_fine r3).mp hf
    obtain ⟨k1, k2, k3, k4, k5, k6, k7⟩ := g5 (hfine hf)
    rw [if_pos (not_not_intro hf), l1] at hC
    replace hC := hC.trans (b_118_56 l3)
    rw [l2] at hC
    replace hC := hC.trans (b_118_62 l3 l4)
    rw [← em1] at hC
    obtain ⟨v, m2, x1, -, x3⟩ := hX m1 (wq (wq q 100 9 (some y')) 100 10 (some y)) hm363
    obtain ⟨w1, w2, w3, ⟨w4, w5⟩, w6⟩ := x3 hx
    clear hX x3 em1
    have q9 : (wq (wq q 100 9 (some y')) 100 10 (some y)) 100 9 = some y' := by simp [wq, row]
    have q10 : (wq (wq q 100 9 (some y')) 100 10 (some y)) 100 10 = some y := by simp [wq, row]
    have qo : ∀ i j, ¬ (i = 100 ∧ (j = 9 ∨ j = 10)) → (wq (wq q 100 9 (some y')) 100 10 (some y)) i j = q i j := by
      intro i j h
      by_cases h1 : i = 100
      · by_cases h2 : j = 9
        · exact absurd ⟨h1, Or.inl h2⟩ h
        · by_cases h3 : j = 10
          · exact absurd ⟨h1, Or.inr h3⟩ h
          · simp [wq, row, h1, h2, h3]
      · simp [wq, row, h1]
    generalize hq1 : wq (wq q 100 9 (some y')) 100 10 (some y) = q1 at *
    have eo : ∀ e, e ≠ 363 → e ≠ 368 → e ≠ 369 → e ≠ 370 → e ≠ 371 → m2 e = m1 e := by
      intro e h1 h2 h3 h4 h5
      rw [w2 e h1 h4 h5, lx_o _ _ _ _ _ h1 h2 h3, bgX_o h1]
    have eb : ∀ j, j ≠ 4 → j ≠ 5 → j ≠ 6 → j ≠ 8 → j ≠ 24 → j ≠ 23 → j ≠ 7 → m2 363 j = bgX m1 (n : Int) 363 j := by
      intro j h4 h5 h6 h8 h24 h23 h7
      rw [w3 j h4 h5 h6 h8 h24, lx_b _ _ _ _ _ h23 h7]
    refine ⟨1, m1, q1, m2, hC, by rw [x1, w1], by rw [eb 0 (by decide) (by decide) (by decide) (by decide) (by decide) (by decide) (by decide), bgX_0], ?_⟩
    have e363 : ∀ j, j = 15 ∨ j = 16 ∨ j = 29 ∨ j = 30 ∨ j = 42 ∨ j = 52 → m2 363 j = m 363 j := by
      intro j hj
      rw [eb j (by omega) (by omega) (by omega) (by omega) (by omega) (by omega) (by omega), bgX_b (by omega) (by omega) (by omega) (by omega) (by omega), hm363 363 (by omega)]
    have ea : ∀ e, e ≠ 101 → e ≠ y' → e ≠ y' + 1 → e ≠ 363 → e ≠ 368 → e ≠ 369 → e ≠ 370 → e ≠ 371 → m2 e = m e := fun e h1 h2 h3 h4 h5 h6 h7 h8 => (eo e h4 h5 h6 h7 h8).trans (a1 e h1 h2 h3)
    refine ⟨⟨0, ⟨?_, ?_⟩, ⟨by omega, ?_, ?_⟩, ?_⟩, ⟨n0, r0, k0, h0, ?_⟩, ⟨y', y, q9, q10, l4, l3, Ne.symm l5, z', ?_, ?_, Or.inr ⟨?_, fun i hi => ?_⟩⟩, ⟨p0, p1, ?_⟩, ⟨b, ?_⟩, ?_, ?_⟩
    · rw [ea 102 (by omega) (by omega) (by omega) (by omega) (by omega) (by omega) (by omega) (by omega), ea 365 (by omega) (by omega) (by omega) (by omega) (by omega) (by omega) (by omega) (by omega)]
      exact t1
    · rw [ea 365 (by omega) (by omega) (by omega) (by omega) (by omega) (by omega) (by omega) (by omega)]
      exact t2
    · rw [eo 101 (by omega) (by omega) (by omega) (by omega) (by omega), a2]
      rfl
    · rw [eb 2 (by decide) (by decide) (by decide) (by decide) (by decide) (by decide) (by decide), bgX_2]
      rfl
    · rw [eo 101 (by omega) (by omega) (by omega) (by omega) (by omega), a3, if_pos hf, w4]
    · obtain ⟨⟨j1, j2⟩, j3, j4, j5, j6, j7, j8, j9⟩ := hK
      have e100 : m2 100 = m 100 := ea 100 (by omega) (by omega) (by omega) (by omega) (by omega) (by omega) (by omega) (by omega)
      refine ⟨⟨by rw [e363 15 (by omega)]; exact j1, by rw [e363 16 (by omega)]; exact j2⟩, kpR_q (fun e h1 h2 => ea e (by omega) (by omega) (by omega) (by omega) (by omega) (by omega) (by omega) (by omega)) (ea 376 (by omega) (by omega) (by omega) (by omega) (by omega) (by omega) (by omega) (by omega)) (ea 378 (by omega) (by omega) (by omega) (by omega) (by omega) (by omega) (by omega) (by omega)) j3, by rw [e363 29 (by omega)]; exact j4, by rw [e100, e363 30 (by omega)]; exact j5, j6, by rw [e100]; exact j7, by rw [e363 52 (by omega)]; exact j8, fun i hi => ?_⟩
      obtain ⟨e9, v1, v2⟩ := j9 i hi
      rw [ea 390 (by omega) (by omega) (by omega) (by omega) (by omega) (by omega) (by omega) (by omega)]
      exact ⟨e9, kpR_q (fun e h1 h2 => ea e (by omega) (by omega) (by omega) (by omega) (by omega) (by omega) (by omega) (by omega)) rfl rfl v1, v2⟩
    · rw [eo y' (by omega) (by omega) (by omega) (by omega) (by omega), a5]
    · rw [eo (y' + 1) (by omega) (by omega) (by omega) (by omega) (by omega), a4]
      exact ⟨by omega, g4, fun i hi => lk_okc (k5 i hi), by rw [Nat.sub_zero] at k7; exact k7⟩
    · rw [w5, k1]
    · rw [eo (y' + 1) (by omega) (by omega) (by omega) (by omega) (by omega), a4, (w6 i (by omega)).1, (w6 i (by omega)).2]
      exact k5 i hi
    · obtain ⟨p2, h1, h2, h3, h4, h5, h6, h7, h8, h9, ⟨z0, h10⟩, ⟨z1, h11⟩⟩ := hP
      have s0 := pic_rng h4
      have s1 := pic_rng h5
      refine ⟨p2, by rw [qo _ _ (by omega)]; exact h1, by rw [qo _ _ (by omega)]; exact h2, by rw [qo _ _ (by omega)]; exact h3, h4, h5, h6, h7, h8, h9, ⟨z0, ?_⟩, ⟨z1, ?_⟩⟩
      · unfold gP1 at *
        rw [ea p0 (by omega) (by omega) (by omega) (by omega) (by omega) (by omega) (by omega) (by omega), ea (p0 + 1) (by omega) (by omega) (by omega) (by omega) (by omega) (by omega) (by omega) (by omega), ea 380 (by omega) (by omega) (by omega) (by omega) (by omega) (by omega) (by omega) (by omega), ea 381 (by omega) (by omega) (by omega) (by omega) (by omega) (by omega) (by omega) (by omega)]
        exact h10
      · unfold gP1 at *
        rw [ea p1 (by omega) (by omega) (by omega) (by omega) (by omega) (by omega) (by omega) (by omega), ea (p1 + 1) (by omega) (by omega) (by omega) (by omega) (by omega) (by omega) (by omega) (by omega), ea 380 (by omega) (by omega) (by omega) (by omega) (by omega) (by omega) (by omega) (by omega), ea 381 (by omega) (by omega) (by omega) (by omega) (by omega) (by omega) (by omega) (by omega)]
        exact h11
    · obtain ⟨b', h1, h2, h3, h4, h5, z1, h6, h7, h8, h9⟩ := hB
      have s0 := book_rng h3
      refine ⟨b', by rw [qo _ _ (by omega)]; exact h1, by rw [qo _ _ (by omega)]; exact h2, h3, h4, h5, z1, h6, ?_, by rw [e363 42 (by omega)]; exact h8, ?_⟩
      · rw [ea b (by omega) (by omega) (by omega) (by omega) (by omega) (by omega) (by omega) (by omega)]
        exact h7
      · rw [ea (b + 1) (by omega) (by omega) (by omega) (by omega) (by omega) (by omega) (by omega) (by omega), ea (b + 2) (by omega) (by omega) (by omega) (by omega) (by omega) (by omega) (by omega) (by omega), ea (b + 3) (by omega) (by omega) (by omega) (by omega) (by omega) (by omega) (by omega) (by omega), ea 383 (by omega) (by omega) (by omega) (by omega) (by omega) (by omega) (by omega) (by omega)]
        exact h9
    · unfold gC at *
      rw [ea 100 (by omega) (by omega) (by omega) (by omega) (by omega) (by omega) (by omega) (by omega), ea 364 (by omega) (by omega) (by omega) (by omega) (by omega) (by omega) (by omega) (by omega)]
      exact hCC
    · unfold gS fB at *
      rw [ea (161 + 2) (by omega) (by omega) (by omega) (by omega) (by omega) (by omega) (by omega) (by omega), ea 161 (by omega) (by omega) (by omega) (by omega) (by omega) (by omega) (by omega) (by omega)]
      exact hS
  · have hx := rel_nf r3 hf
    rw [if_neg (fun z => z hf), T_86 (by omega)] at hC
    simp only [rBd_v, Option.toList_some, Option.toList_none, List.cons_append, List.nil_append, List.append_nil] at hC
    rw [b_118_51, ← em1] at hC
    obtain ⟨v, m2, x1, x2, -⟩ := hX m1 q hm363
    obtain ⟨w1, w2⟩ := x2 hx
    clear hX x2 em1
    rcases r3 with ⟨o1, -, -⟩ | ⟨-, -, o3, o4⟩
    · exact absurd o1 hf
    have eo : ∀ e, e ≠ 363 → e ≠ 368 → e ≠ 369 → m2 e = m1 e := by
      intro e h1 h2 h3
      rw [w2, mr_o _ _ h1, wr_o _ _ _ _ h1, lx_o _ _ _ _ _ h1 h2 h3, bgX_o h1]
    have eb : ∀ j, j ≠ 4 → j ≠ 5 → j ≠ 6 → j ≠ 8 → j ≠ 23 → j ≠ 7 → m2 363 j = bgX m1 (n : Int) 363 j := by
      intro j h4 h5 h6 h8 h23 h7
      rw [w2, mr_b _ _ h4 h5 h6, wr_b _ _ _ _ h8, lx_b _ _ _ _ _ h23 h7]
    refine ⟨sA.2.1 - 10, m1, q, m2, hC, by rw [x1, w1, o4], by rw [eb 0 (by decide) (by decide) (by decide) (by decide) (by decide) (by decide), bgX_0], ?_⟩
    -- the spare law's rows first
    have hSpare : RR (row (row m y' (m1 y')) (y' + 1) (m1 (y' + 1))) q := RR_sp hRR (fun e => by
      by_cases h1 : e = y'
      · exact Or.inr (Or.inl ⟨y', l2, Or.inl h1⟩)
      · by_cases h2 : e = y' + 1
        · exact Or.inr (Or.inl ⟨y', l2, Or.inr h2⟩)
        · exact Or.inl (by rw [row_o _ _ _ h2, row_o _ _ _ h1]))
    have hq : qk (row (row m y' (m1 y')) (y' + 1) (m1 (y' + 1))) m2 := by
      refine ⟨fun e h1 h2 h3 => ?_, fun j hj => ?_⟩
      · unfold scr at h1
        rw [eo e h3 (by omega) (by omega)]
        by_cases h4 : e = y' + 1
        · rw [h4, row_s]
        · rw [row_o _ _ _ h4]
          by_cases h5 : e = y'
          · rw [h5, row_s]
          · rw [row_o _ _ _ h5, a1 e h2 h5 h4]
      · rw [eb j (by omega) (by omega) (by omega) (by omega) (by omega) (by omega), bgX_b (by omega) (by omega) (by omega) (by omega) (by omega), hm363 363 (by omega), row_o _ _ _ (by omega), row_o _ _ _ (by omega)]
    refine RR_k (z := 0) hq ⟨⟨?_, ?_⟩, ⟨by omega, ?_, ?_⟩, ?_⟩ ?_ hSpare
    · rw [eo 102 (by omega) (by omega) (by omega), eo 365 (by omega) (by omega) (by omega), hm363 365 (by omega), a1 102 (by omega) (by omega) (by omega)]
      exact t1
    · rw [eo 365 (by omega) (by omega) (by omega), hm363 365 (by omega)]
      exact t2
    · rw [eo 101 (by omega) (by omega) (by omega), a2]
      rfl
    · rw [eb 2 (by decide) (by decide) (by decide) (by decide) (by decide) (by decide), bgX_2]
      rfl
    · rw [eo 101 (by omega) (by omega) (by omega), a3, if_neg hf, w2, mr_b _ _ (by decide) (by decide) (by decide), wr_s, o3]
    · unfold gS fB at *
      rw [eo (161 + 2) (by omega) (by omega) (by omega), eo 161 (by omega) (by omega) (by omega), a1 (161 + 2) (by omega) (by omega) (by omega), a1 161 (by omega) (by omega) (by omega)]
      exact hS
end S
