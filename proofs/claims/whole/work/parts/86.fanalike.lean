/-! ===== the call fan: alike ===== -/
theorem f161 : iFan 161 := (by decide +kernel : 161 ∈ fanIds)
theorem f108 : iFan 108 := (by decide +kernel : 108 ∈ fanIds)
section S
variable {d n : Nat} {m : Nat → Nat → Int} {q : Nat → Nat → Option Nat} {w : Option (Nat → Int64)}
theorem T_64 (hd : 1 ≤ d) {x : Nat} (hx : iLaw x) : ev d 64 [.ref x] (mk m q w) = vV (mk (wr (wr m (x + 1) 0 (-2)) x 3 1) q w) := by
  rw [e_64 hd _ rfl, b_64_0 hx]
theorem X_154 (hd : 4 ≤ d) {n : Nat} {xs : rd} {st : Nat} {rv pt : Int} {G : Nat → Int} {u1 u2 u3 : Option Value} (hs : gx n xs) : ∃ v m', gv d rR183 146 [some (.ref 363), u1, u2, u3] [] (mk (mr (fx m G st rv pt) xs) q w) = vI v (mk m' q w) ∧
    (xs.2.1 ≠ -1 → v = xs.2.2 - 10 ∧ m' = mr (wr (fx m G st rv pt) 363 8 xs.2.1) xs) ∧
    (xs.2.1 = -1 → v = st ∧ (∀ a, a ≠ 363 → a ≠ 366 → a ≠ 367 → a ≠ 376 → a ≠ 381 → m' a = m a) ∧ (m' 363 0 = m 363 0 ∧ m' 363 2 = m 363 2 ∧ m' 363 8 = -1) ∧
      (m' 363 15 = st ∧ m' 363 16 = rv ∧ m' 363 24 = 0 ∧ m' 363 29 = 0 ∧ m' 363 30 = 0 ∧ m' 363 42 = 0 ∧ m' 363 52 = 0) ∧ (m' 381 0 = 0 ∧ m' 381 1 = 0) ∧ ∀ j, j < 48 → m' 376 j = nwR G pt j) := by
  have e12 : mr (fx m G st rv pt) xs 363 12 = st := by rw [mr_b _ _ (by decide) (by decide) (by decide), fx_12]
  rw [b_183_146, e12, V_179 (by omega) hs]
  simp only [rBd_v, Option.toList_some, Option.toList_none, List.cons_append, List.nil_append, List.append_nil, b_183_154]
  rw [mr_5]
  simp only [iI_eq hs.2 (by omega : i32 (-1))]
  by_cases h : xs.2.1 = -1
  · rw [if_pos h, if_pos h]
    obtain ⟨m', h1, h2, h3, h4, h5, h6⟩ := V_164 (m := mr (wr (fx m G st rv pt) 363 8 xs.2.1) xs) (q := q) (w := w) (show 2 ≤ d by omega)
    rw [h1]
    simp only [rBd_v, Option.toList_some, Option.toList_none, List.cons_append, List.nil_append, List.append_nil, b_183_167]
    have eb : ∀ j, j ≠ 4 → j ≠ 5 → j ≠ 6 → j ≠ 8 → mr (wr (fx m G st rv pt) 363 8 xs.2.1) xs 363 j = fx m G st rv pt 363 j := by
      intro j j4 j5 j6 j8
      rw [mr_b _ _ j4 j5 j6, wr_b _ _ _ _ j8]
    refine ⟨_, m', rfl, fun z => absurd h z, fun _ => ⟨rfl, ?_, ⟨?_, ?_, ?_⟩, ⟨?_, ?_, h4.2.2⟩, h5, ?_⟩⟩
    · intro a a1 a2 a3 a4 a5
      rw [h2 a a1 a3 a4 a5, mr_o _ _ a1, wr_o _ _ _ _ a1, fx_o _ _ _ _ _ a1 a2]
    · rw [h3 0 (by decide) (by decide) (by decide) (by decide) (by decide) (by decide) (by decide) (by decide), eb 0 (by decide) (by decide) (by decide) (by decide), fx_b _ _ _ _ _ (by decide) (by decide) (by decide)]
    · rw [h3 2 (by decide) (by decide) (by decide) (by decide) (by decide) (by decide) (by decide) (by decide), eb 2 (by decide) (by decide) (by decide) (by decide), fx_b _ _ _ _ _ (by decide) (by decide) (by decide)]
    · rw [h3 8 (by decide) (by decide) (by decide) (by decide) (by decide) (by decide) (by decide) (by decide), mr_b _ _ (by decide) (by decide) (by decide), wr_s, h]
    · rw [h4.1, eb 12 (by decide) (by decide) (by decide) (by decide), fx_12]
    · rw [h4.2.1, eb 13 (by decide) (by decide) (by decide) (by decide), fx_13]
    · intro j hj
      rw [h6 j hj, eb 14 (by decide) (by decide) (by decide) (by decide), fx_14, mr_o _ _ (by decide), wr_o _ _ _ _ (by decide), fx_366]
  · rw [if_neg h, if_neg h, b_183_167]
    exact ⟨xs.2.2 - 10, mr (wr (fx m G st rv pt) 363 8 xs.2.1) xs, rfl, fun _ => ⟨rfl, rfl⟩, fun z => absurd z h⟩
/-- what the class has read -/
theorem C_117 (hd : 40 ≤ d) {a : Int} {z : Nat} (ha : i32 a) (hz : z ≤ 600) (h1 : m 101 1 = z) (h7 : i32 (m 161 7)) (hT : isT (m 102)) : ev d 117 [.ref 100, .int (iI a)] (mk m q w) =
    if 0 ≤ a ∧ a ≤ 600 ∧ a ≤ z then rBd (ev (d - 1) 85 [.ref 101] (mk (tr (rdF (m 102) a.toNat 161 600 0 (cl (wr m 101 2 a) 161) (0, 0, -1)).1 (rdF (m 102) a.toNat 161 600 0 (cl (wr m 101 2 a) 161) (0, 0, -1)).2) q w)) (fun v M' => gv (d - 1) rR117 41 [some (.ref 100), some (.int (iI a))] (v.toList ++ []) M')
    else some (.inr 0, (mk (wr m 100 17 (m 100 17 + 1)) q w, (1, 6))) := by
  rw [e_117 (by omega) _ rfl rfl, b_117_0, T_82 (by omega) ha (by omega) (by rw [h1]; omega), h1]
  simp only [rBd_v, Option.toList_some, Option.toList_none, List.cons_append, List.nil_append, List.append_nil, b_117_12]
  rw [T_116 (by omega)]
  by_cases h : 0 ≤ a ∧ a ≤ 600 ∧ a ≤ z
  · rw [if_pos h, zb_t h, if_neg (by decide)]
    simp only [rBd_v, Option.toList_some, Option.toList_none, List.cons_append, List.nil_append, List.append_nil, b_117_15]
    rw [T_83 (by omega) ha (by rw [h1]; omega) (by rw [h1]; omega)]
    simp only [rBd_v, Option.toList_some, Option.toList_none, List.cons_append, List.nil_append, List.append_nil, b_117_23]
    rw [T_31 (T := m 102) (n := a.toNat) (by omega) f161 ⟨wr_o _ _ _ _ (by decide), by rw [wr_s]; omega, by omega, hT⟩ ⟨by show 0 ≤ a.toNat; omega, by show i32 0; omega⟩ (by rw [wr_o _ _ _ _ (by decide)]; exact h7)]
    simp only [rBd_v, Option.toList_some, Option.toList_none, List.cons_append, List.nil_append, List.append_nil, b_117_34]
  · rw [if_neg h, zb_f h, if_pos rfl]
    rfl
/-- all that a new fan empties -/
def finC (m : Nat → Nat → Int) (y p0 p1 b : Nat) : Nat → Nat → Int := wr (wr (wr (wr (wr (wr (wr (wr m 107 2 0) 100 14 0) 100 15 0) (y + 1) 0 (-2)) y 3 1) p0 1 0) p1 1 0) b 3 0
theorem finC_o {y p0 p1 b e : Nat} (h1 : e ≠ 107) (h2 : e ≠ 100) (h3 : e ≠ y) (h4 : e ≠ y + 1) (h5 : e ≠ p0) (h6 : e ≠ p1) (h7 : e ≠ b) : finC m y p0 p1 b e = m e := by
  unfold finC
  simp only [wr_o _ _ _ _ h1, wr_o _ _ _ _ h2, wr_o _ _ _ _ h3, wr_o _ _ _ _ h4, wr_o _ _ _ _ h5, wr_o _ _ _ _ h6, wr_o _ _ _ _ h7]
theorem finC_v {y p0 p1 b : Nat} (hy : y = 182 ∨ y = 186) (hp0 : 190 ≤ p0) (hp1 : 190 ≤ p1) (hb : 192 ≤ b) (hp : p0 ≠ p1) (hb0 : b ≠ p0) (hb1 : b ≠ p1) : finC m y p0 p1 b 107 2 = 0 ∧ (finC m y p0 p1 b 100 14 = 0 ∧ finC m y p0 p1 b 100 15 = 0 ∧ finC m y p0 p1 b 100 16 = m 100 16 ∧ finC m y p0 p1 b 100 17 = m 100 17) ∧ finC m y p0 p1 b y 3 = 1 ∧ finC m y p0 p1 b (y + 1) 0 = -2 ∧ finC m y p0 p1 b p0 1 = 0 ∧ finC m y p0 p1 b p1 1 = 0 ∧ finC m y p0 p1 b b 3 = 0 := by
  unfold finC
  refine ⟨?_, ⟨?_, ?_, ?_, ?_⟩, ?_, ?_, ?_, ?_, wr_s _ _ _ _⟩
  · rw [wr_o _ _ _ _ (by omega), wr_o _ _ _ _ (by omega), wr_o _ _ _ _ (by omega), wr_o _ _ _ _ (by omega), wr_o _ _ _ _ (by omega), wr_o _ _ _ _ (by omega), wr_o _ _ _ _ (by omega), wr_s]
  · rw [wr_o _ _ _ _ (by omega), wr_o _ _ _ _ (by omega), wr_o _ _ _ _ (by omega), wr_o _ _ _ _ (by omega), wr_o _ _ _ _ (by omega), wr_b _ _ _ _ (by decide), wr_s]
  · rw [wr_o _ _ _ _ (by omega), wr_o _ _ _ _ (by omega), wr_o _ _ _ _ (by omega), wr_o _ _ _ _ (by omega), wr_o _ _ _ _ (by omega), wr_s]
  · rw [wr_o _ _ _ _ (by omega), wr_o _ _ _ _ (by omega), wr_o _ _ _ _ (by omega), wr_o _ _ _ _ (by omega), wr_o _ _ _ _ (by omega), wr_b _ _ _ _ (by decide), wr_b _ _ _ _ (by decide), wr_o _ _ _ _ (by decide)]
  · rw [wr_o _ _ _ _ (by omega), wr_o _ _ _ _ (by omega), wr_o _ _ _ _ (by omega), wr_o _ _ _ _ (by omega), wr_o _ _ _ _ (by omega), wr_b _ _ _ _ (by decide), wr_b _ _ _ _ (by decide), wr_o _ _ _ _ (by decide)]
  · rw [wr_o _ _ _ _ (by omega), wr_o _ _ _ _ (by omega), wr_o _ _ _ _ (by omega), wr_s]
  · rw [wr_o _ _ _ _ (by omega), wr_o _ _ _ _ (by omega), wr_o _ _ _ _ (by omega), wr_o _ _ _ _ (by omega), wr_s]
  · rw [wr_o _ _ _ _ (by omega), wr_o _ _ _ _ (by omega), wr_s]
  · rw [wr_o _ _ _ _ (by omega), wr_s]
theorem bk_pic {b p : Nat} (hb : iBook b) (hp : iPic p) : b ≠ p ∧ p + 1 ≠ b ∧ (p < 192 ∨ 196 + 3 < p) := (by decide +kernel : ∀ b ∈ bookIds, ∀ p ∈ picIds, b ≠ p ∧ p + 1 ≠ b ∧ (p < 192 ∨ 196 + 3 < p)) b hb p hp
set_option maxHeartbeats 2000000 in
theorem K_fan {a : Int} (ha : i32 a) : cTH 117 183 [.int (iI a)] 1 := by
  intro m q w hR d hd
  have hRR := hR
  obtain ⟨⟨z, ⟨t1, t2⟩, ⟨t3, t4, t5⟩, t6⟩, ⟨n0, r0, k0, h0, hK⟩, ⟨y, y', l1, l2, l3, l4, l5, lz, l6, l7⟩, ⟨p0, p1, p2, q0, q1, q2, i0, i1, i2, j0, j1, j2, -, -⟩, ⟨b, b', b1, b2, b3, b4, b5, -⟩, ⟨c1, c2⟩, ⟨s1, s2⟩⟩ := hR
  have hy := law_rng l3
  have hp0 := pic_rng i0
  have hp1 := pic_rng i1
  have hb := book_rng b3
  have hC := C_117 (q := q) (w := w) (d := d) (m := m) (by omega) ha t3 t4 (by omega) (by rw [t1]; exact t2)
  by_cases hg : 0 ≤ a ∧ a ≤ 600 ∧ a ≤ z
  case neg =>
    rw [if_neg hg] at hC
    refine Or.inr ⟨0, 0, _, noX (wr m 100 17 (m 100 17 + 1)) 1 1, Or.inl rfl, hC, ?_, noX_0, RR_no0 hRR⟩
    rw [X_183 (z := z) (by omega) ha t3 (by rw [wr_o _ _ _ _ (by decide)]; exact t5), if_neg (by omega)]
  rw [if_pos hg] at hC
  left
  obtain ⟨n, rfl⟩ : ∃ n : Nat, a = n := ⟨a.toNat, by omega⟩
  rw [Int.toNat_natCast] at hC
  have hn : n ≤ 600 := by omega
  obtain ⟨M0, eM0⟩ : ∃ M0, M0 = cl (wr m 101 2 (n : Int)) 161 := ⟨_, rfl⟩
  rw [← eM0] at hC
  have hM0 : ∀ e, e ≠ 161 → e ≠ 162 → e ≠ 101 → M0 e = m e := by
    intro e h1 h2 h3
    rw [eM0]
    unfold cl
    rw [row_o _ _ _ h2, row_o _ _ _ h1, wr_o _ _ _ _ h3]
  have hM0x : ∀ j, M0 161 j = if j = 1 then 99 else if j = 3 then 20 else if j = 7 then -1 else if j = 8 then (if m 161 7 = -1 then m 161 8 else 0) else if j < 7 then 0 else m 161 j := by
    intro j
    rw [eM0]
    unfold cl
    rw [row_o _ _ _ (by decide), row_s, wr_o _ _ _ _ (by decide)]
  have hM0y : ∀ j, j < 7 → M0 162 j = j := by
    intro j hj
    rw [eM0]
    unfold cl
    rw [row_s, if_pos hj]
  have hM01 : M0 101 = (wr m 101 2 (n : Int)) 101 := by
    rw [eM0]
    unfold cl
    rw [row_o _ _ _ (by decide), row_o _ _ _ (by decide)]
  have hM8 : M0 161 8 = 0 := by
    rw [hM0x 8]
    simp only [show ¬ (8 : Nat) = 1 by decide, show ¬ (8 : Nat) = 3 by decide, show ¬ (8 : Nat) = 7 by decide, if_false, if_true]
    split
    next h => rcases s2 with s2 | s2
              · exact s2.2
              · omega
    next => rfl
  have hM1 : M0 161 1 = 99 := by rw [hM0x 1]; rfl
  have hM3 : M0 161 3 = 20 := by rw [hM0x 3]; rfl
  have hM7 : M0 161 7 = -1 := by rw [hM0x 7]; rfl
  have hMz : ∀ j, j = 0 ∨ j = 2 ∨ j = 4 ∨ j = 5 ∨ j = 6 → M0 161 j = 0 := by
    intro j hj
    rw [hM0x j]
    rcases hj with rfl | rfl | rfl | rfl | rfl <;> rfl
  clear eM0 hM0x
  obtain ⟨x', G', st', rv', pt', f1, f2, f3, f4, f5, -, f6, f7⟩ := J_fan (T := m 102) (n := n) (by rw [t1]; exact t2) hn f161 60 0 0 M0 (m 366) 99 20 (0, 0, -1) (0, -1, m 363 6) (by omega) ⟨by show 0 ≤ n; omega, by show i32 0; omega⟩ ⟨by show 0 ≤ n; omega, by show i32 (-1); omega⟩ (Or.inl ⟨rfl, rfl, rfl⟩)
    (by intro i hi; rw [hM0 _ (by decide) (by decide) (by decide)]; exact s1 i hi) ⟨0, by omega, hMz 0 (by omega)⟩
    (fun _ => ⟨hMz 0 (by omega), by omega, hM1, by omega, by omega, hM3, by omega, by omega, fun i hi => absurd hi (by omega)⟩)
  rw [show 600 - 0 = 600 from rfl] at f2 f3 f4 f5 f6
  generalize hF : rdF (m 102) n 161 600 0 M0 (0, 0, -1) = F at *
  obtain ⟨mF, sF⟩ := F
  dsimp only at f2 f3 f4 f5 f6 hC
  have hmo : ∀ e, e ≠ 161 → e ≠ 162 → e ≠ 163 → e ≠ 101 → mF e = m e := fun e h1 h2 h3 h4 => (f5.1 e h1 h3).trans (hM0 e h1 h2 h4)
  have hm101 : mF 101 = (wr m 101 2 (n : Int)) 101 := (f5.1 101 (by decide) (by decide)).trans hM01
  have hO : onT mF (m 102) n := ⟨hmo 102 (by decide) (by decide) (by decide) (by decide), by rw [hm101, wr_s], hn, by rw [t1]; exact t2⟩
  have hgF := aFi_gd (T := m 102) f3
  rw [T_85 (by omega) hO f3] at hC
  simp only [rBd_v, Option.toList_some, Option.toList_none, List.cons_append, List.nil_append, List.append_nil] at hC
  rw [b_117_41] at hC
  simp only [zb_0] at hC
  generalize hA : aFi (m 102) n sF = sA at *
  have hX : ∀ (m1 : Nat → Nat → Int) (qr : Nat → Nat → Option Nat), (∀ e, 363 ≤ e → m1 e = m e) → ∃ v m', ev d 183 [.ref 363, .int (iI (n : Int))] (mk m1 qr w) = vI v (mk m' qr w) ∧
      (x'.2.1 ≠ -1 → v = x'.2.2 - 10 ∧ m' = mr (wr (fx (bgX m1 (n : Int)) G' (st' : Int) rv' pt') 363 8 x'.2.1) x') ∧
      (x'.2.1 = -1 → v = st' ∧ (∀ a, a ≠ 363 → a ≠ 366 → a ≠ 367 → a ≠ 376 → a ≠ 381 → m' a = m1 a) ∧ (m' 363 0 = 0 ∧ m' 363 2 = 0 ∧ m' 363 8 = -1) ∧
      (m' 363 15 = st' ∧ m' 363 16 = rv' ∧ m' 363 24 = 0 ∧ m' 363 29 = 0 ∧ m' 363 30 = 0 ∧ m' 363 42 = 0 ∧ m' 363 52 = 0) ∧ (m' 381 0 = 0 ∧ m' 381 1 = 0) ∧ ∀ j, j < 48 → m' 376 j = nwR G' pt' j) := by
    intro m1 qr h1
    have e3 := h1 363 (by decide)
    obtain ⟨u2', u3', g1⟩ := f7 (d - 1) (by omega) (bgX m1 (n : Int)) qr w (some (.int (iI (n : Int)))) none ⟨by rw [bgX_o (by decide), h1 365 (by decide), t1], bgX_3, hn, by rw [t1]; exact t2⟩
    obtain ⟨v, m', v1, v2, v3⟩ := X_154 (m := bgX m1 (n : Int)) (q := qr) (w := w) (d := d - 1) (G := G') (st := st') (rv := rv') (pt := pt') (u1 := some (.int (iI (n : Int)))) (u2 := u2') (u3 := u3') (by omega) f1
    refine ⟨v, m', ?_, v2, fun h => ?_⟩
    · rw [X_183 (z := z) (by omega) ha t3 (by rw [e3]; exact t5), if_pos (by omega), h1 366 (by decide), e3, g1, v1]
    · obtain ⟨w1, w2, ⟨w3, w4, w5⟩, w6, w7, w8⟩ := v3 h
      exact ⟨w1, fun a a1 a2 a3 a4 a5 => (w2 a a1 a2 a3 a4 a5).trans (bgX_o a1), ⟨w3.trans bgX_0, w4.trans bgX_2, w5⟩, w6, w7, w8⟩
  clear f7
  by_cases hf : sA.2.1 = 0
  · -- fine
    have hx := (rel_fine f2).mp hf
    obtain ⟨I1, I2, I3, I4, I5, I6, I7, I8, I9⟩ := f6 hx
    rw [if_pos (not_not_intro hf), T_22 (by omega) f108 f161 (by decide)] at hC
    simp only [rBd_v, Option.toList_some, Option.toList_none, List.cons_append, List.nil_append, List.append_nil] at hC
    rw [b_117_66, l1] at hC
    replace hC := hC.trans (b_117_88 l3)
    rw [T_64 (by omega) l3] at hC
    simp only [rBd_v, Option.toList_some, Option.toList_none, List.cons_append, List.nil_append, List.append_nil] at hC
    rw [b_117_91, q0] at hC
    replace hC := hC.trans (b_117_97 i0)
    rw [q1] at hC
    replace hC := hC.trans (b_117_107 i1)
    rw [b1] at hC
    replace hC := hC.trans (b_117_115 b3)
    have hk0 := bk_pic b3 i0
    have hk1 := bk_pic b3 i1
    obtain ⟨m1, a1, a2, a3, a4, a5, a6, ⟨a7, a8, a9, aa⟩, ab, ac, ad, ae, af, hC1⟩ : ∃ m1 : Nat → Nat → Int, (∀ e, e ≠ 100 → e ≠ 101 → e ≠ 107 → e ≠ 108 → e ≠ 109 → e ≠ 110 → e ≠ 161 → e ≠ 162 → e ≠ 163 → e ≠ y → e ≠ y + 1 → e ≠ p0 → e ≠ p1 → e ≠ b → m1 e = m e) ∧ (∀ j, j < 9 → m1 108 j = mF 161 j) ∧ (∀ j, j < 7 → m1 109 j = mF 162 j) ∧ (∀ j, j < 28 → m1 110 j = mF 163 j) ∧ (m1 161 = mF 161 ∧ m1 163 = mF 163 ∧ m1 101 1 = 0 ∧ m1 101 5 = -1) ∧
        m1 107 2 = 0 ∧ (m1 100 14 = 0 ∧ m1 100 15 = 0 ∧ m1 100 16 = m 100 16 ∧ m1 100 17 = m 100 17) ∧ m1 y 3 = 1 ∧ m1 (y + 1) 0 = -2 ∧ m1 p0 1 = 0 ∧ m1 p1 1 = 0 ∧ m1 b 3 = 0 ∧ ev d 117 [.ref 100, .int (iI (n : Int))] (mk m q w) = vI (m1 108 0) (mk m1 q w) := by
      refine ⟨finC (bc (tr (wr mF 101 1 0) sA) 108 161) y p0 p1 b, ?_, ?_, ?_, ?_, ⟨?_, ?_, ?_, ?_⟩, ?_⟩
      · intro e h1 h2 h3 h4 h5 h6 h7 h8 h9 h10 h11 h12 h13 h14
        rw [finC_o h3 h1 h10 h11 h12 h13 h14, bc_o _ h4 h5 h6, tr_o h2, wr_o _ _ _ _ h2, hmo e h7 h8 h9 h2]
      · intro j hj
        rw [finC_o (by omega) (by omega) (by omega) (by omega) (by omega) (by omega) (by omega), bc_0 _ hj, tr_o (by decide), wr_o _ _ _ _ (by decide)]
      · intro j hj
        rw [finC_o (by omega) (by omega) (by omega) (by omega) (by omega) (by omega) (by omega), bc_1 _ hj, tr_o (by decide), wr_o _ _ _ _ (by decide)]
      · intro j hj
        rw [finC_o (by omega) (by omega) (by omega) (by omega) (by omega) (by omega) (by omega), bc_2 _ hj, tr_o (by decide), wr_o _ _ _ _ (by decide)]
      · rw [finC_o (by omega) (by omega) (by omega) (by omega) (by omega) (by omega) (by omega), bc_o _ (by decide) (by decide) (by decide), tr_o (by decide), wr_o _ _ _ _ (by decide)]
      · rw [finC_o (by omega) (by omega) (by omega) (by omega) (by omega) (by omega) (by omega), bc_o _ (by decide) (by decide) (by decide), tr_o (by decide), wr_o _ _ _ _ (by decide)]
      · rw [finC_o (by omega) (by omega) (by omega) (by omega) (by omega) (by omega) (by omega), bc_o _ (by decide) (by decide) (by decide), tr_1, wr_s]
      · rw [finC_o (by omega) (by omega) (by omega) (by omega) (by omega) (by omega) (by omega), bc_o _ (by decide) (by decide) (by decide), tr_5, if_pos hf]
      · obtain ⟨v1, ⟨v2, v3, v4, v5⟩, v6, v7, v8, v9, v10⟩ := finC_v (m := bc (tr (wr mF 101 1 0) sA) 108 161) hy hp0.1 hp1.1 hb.1 j0 hk0.1 hk1.1
        have hb100 : bc (tr (wr mF 101 1 0) sA) 108 161 100 = m 100 := by
          rw [bc_o _ (by decide) (by decide) (by decide), tr_o (by decide), wr_o _ _ _ _ (by decide), hmo 100 (by decide) (by decide) (by decide) (by decide)]
        rw [hb100] at v4 v5
        exact ⟨v1, ⟨v2, v3, v4, v5⟩, v6, v7, v8, v9, v10, hC⟩
    clear hC
    obtain ⟨v, m2, x1, -, x3⟩ := hX m1 q (fun e he => a1 e (by omega) (by omega) (by omega) (by omega) (by omega) (by omega) (by omega) (by omega) (by omega) (by omega) (by omega) (by omega) (by omega) (by omega))
    obtain ⟨w1, w2, ⟨w3, w4, w5⟩, ⟨w6, w7, w8, w9, w10, w11, w12⟩, ⟨w13, w14⟩, w15⟩ := x3 hx
    clear hX x3
    have hst : m1 108 0 = st' := (a2 0 (by decide)).trans I1
    refine ⟨st', m1, q, m2, by rw [hC1, hst], by rw [x1, w1], w3, ?_⟩
    have hw : ∀ e, e < 363 → m2 e = m1 e := fun e he => w2 e (by omega) (by omega) (by omega) (by omega) (by omega)
    have e102 : m2 102 = m 102 := (hw 102 (by decide)).trans (a1 102 (by omega) (by omega) (by omega) (by omega) (by omega) (by omega) (by omega) (by omega) (by omega) (by omega) (by omega) (by omega) (by omega) (by omega))
    have e365 : m2 365 = m 365 := (w2 365 (by decide) (by decide) (by decide) (by decide) (by decide)).trans (a1 365 (by omega) (by omega) (by omega) (by omega) (by omega) (by omega) (by omega) (by omega) (by omega) (by omega) (by omega) (by omega) (by omega) (by omega))
    have e364 : m2 364 = m 364 := (w2 364 (by decide) (by decide) (by decide) (by decide) (by decide)).trans (a1 364 (by omega) (by omega) (by omega) (by omega) (by omega) (by omega) (by omega) (by omega) (by omega) (by omega) (by omega) (by omega) (by omega) (by omega))
    have hr' : ∃ rn : Nat, rv' = rn := ⟨rv'.toNat, by omega⟩
    obtain ⟨rn, rfl⟩ := hr'
    refine ⟨⟨0, ⟨by rw [e102, e365]; exact t1, by rw [e365]; exact t2⟩, ⟨by omega, by rw [hw 101 (by decide)]; exact a5.2.2.1, w4⟩, by rw [hw 101 (by decide), a5.2.2.2, w5]⟩, ⟨st', rn, 0, 0, ⟨w6, w7⟩, ⟨?_, by rw [hw 107 (by decide)]; exact a6, by omega, fun i hi => absurd hi (by omega)⟩, w9, by rw [hw 100 (by decide), a8, w10], by omega, by rw [hw 100 (by decide)]; exact a7, w12, fun i hi => absurd hi (by omega)⟩, ⟨y, y', l1, l2, l3, l4, l5, 1, by rw [hw y (by omega)]; exact ab, ?_⟩, ⟨p0, p1, p2, q0, q1, q2, i0, i1, i2, j0, j1, j2, ⟨0, by omega, by rw [hw p0 (by omega)]; exact ad, w13, fun i hi => absurd hi (by omega)⟩, ⟨0, by omega, by rw [hw p1 (by omega)]; exact ae, w14, fun i hi => absurd hi (by omega)⟩⟩, ⟨b, b', b1, b2, b3, b4, b5, 0, by omega, by rw [hw b (by omega)]; exact af, w11, fun i hi => absurd hi (by omega)⟩, ⟨by rw [hw 100 (by decide), e364, a9]; exact c1, by rw [hw 100 (by decide), e364, aa]; exact c2⟩, ?_, Or.inl ⟨?_, ?_⟩⟩
    · show fnR st' rn 400 (m2 108) (m2 109) (m2 110) (m2 376)
      rw [hw 108 (by decide), hw 109 (by decide), hw 110 (by decide)]
      have hA : ∀ j, j < 9 → j ≠ 0 → j ≠ 1 → j ≠ 3 → m1 108 j = M0 161 j := fun j hj h1 h2 h3 => (a2 j hj).trans (f5.2 j h1 h2 h3)
      have hn0 : ∀ j, j < 48 → 35 ≤ j → j ≠ 43 → j ≠ 45 → m2 376 j = 0 := by
        intro j hj h1 h2 h3
        rw [w15 j hj]
        unfold nwR
        rw [if_neg (by omega), if_neg (by omega), if_neg h2, if_neg h3]
      have z2 : m1 108 2 = 0 := (hA 2 (by decide) (by decide) (by decide) (by decide)).trans (hMz 2 (by omega))
      have z4 : m1 108 4 = 0 := (hA 4 (by decide) (by decide) (by decide) (by decide)).trans (hMz 4 (by omega))
      have z5 : m1 108 5 = 0 := (hA 5 (by decide) (by decide) (by decide) (by decide)).trans (hMz 5 (by omega))
      have z6 : m1 108 6 = 0 := (hA 6 (by decide) (by decide) (by decide) (by decide)).trans (hMz 6 (by omega))
      have z7 : m1 108 7 = -1 := (hA 7 (by decide) (by decide) (by decide) (by decide)).trans hM7
      have z8 : m1 108 8 = 0 := (hA 8 (by decide) (by decide) (by decide) (by decide)).trans hM8
      have z3 : m1 108 3 = pt' := (a2 3 (by decide)).trans I6
      have z1 : m1 108 1 = rn := (a2 1 (by decide)).trans I3
      have zB : ∀ k, k < 7 → m1 109 k = k := fun k hk => by
        rw [a3 k hk, f5.1 162 (by decide) (by decide)]
        exact hM0y k hk
      refine ⟨⟨hst, I2, z1, by omega⟩, ⟨by rw [z2, hn0 42 (by decide) (by decide) (by decide) (by decide)], by omega, by omega⟩, ⟨?_, by omega, by omega⟩, ⟨by rw [z4, hn0 47 (by decide) (by decide) (by decide) (by decide)], by omega, by omega⟩, by rw [z5, hn0 44 (by decide) (by decide) (by decide) (by decide)], ⟨?_, by rw [z8, hn0 46 (by decide) (by decide) (by decide) (by decide)], Or.inl ⟨z7, z8⟩⟩, ⟨0, z6, Nat.two_pow_pos _, fun s hs => ?_⟩, ⟨fun k hk => ?_, fun k hk => ?_, fun j k hj hk h => ?_⟩, fun i hi => ?_, fun i hi => ?_⟩
      · rw [z3, w15 43 (by decide)]
        rfl
      · rw [z7, w15 45 (by decide)]
        rfl
      · rw [hn0 (35 + s) (by omega) (by omega) (by omega) (by omega)]
        unfold bt
        simp
      · rw [zB k (by omega), w15 (28 + k) (by omega)]
        unfold nwR
        rw [if_neg (by omega), if_pos (by omega)]
        omega
      · rw [zB k (by omega)]
        omega
      · rw [zB j (by omega), zB k (by omega)] at h
        omega
      · rw [a4 i hi]
        exact f4 i hi
      · rw [a4 i (by omega), w15 i (by omega)]
        unfold nwR
        rw [if_pos (by omega)]
        exact I9 i hi
    · rw [hw (y + 1) (by omega), w8]
      refine ⟨⟨by omega, by omega, fun i hi => ?_, ?_⟩, Or.inl ⟨rfl, rfl, ac⟩⟩
      · obtain rfl : i = 0 := by omega
        rw [ac]
        unfold okc
        omega
      · exact seg_one (by rw [ac]; decide)
    · intro i hi
      rw [hw 163 (by decide), a5.2.1]
      exact f4 i hi
    · rw [hw 161 (by decide), a5.1, f5.2 7 (by decide) (by decide) (by decide)]
      exact hM7
    · rw [hw 161 (by decide), a5.1, f5.2 8 (by decide) (by decide) (by decide)]
      exact hM8
  · -- a fault
    have hx := rel_nf f2 hf
    rw [if_neg (fun z => z hf), T_86 (by omega)] at hC
    simp only [rBd_v, Option.toList_some, Option.toList_none, List.cons_append, List.nil_append, List.append_nil] at hC
    rw [b_117_51] at hC
    obtain ⟨v, m2, x1, x2, -⟩ := hX (tr (wr mF 101 1 0) sA) q (fun e he => by rw [tr_o (by omega), wr_o _ _ _ _ (by omega), hmo e (by omega) (by omega) (by omega) (by omega)])
    obtain ⟨w1, w2⟩ := x2 hx
    clear hX x2
    rcases f2 with ⟨g1, -, -⟩ | ⟨-, -, g3, g4⟩
    · exact absurd g1 hf
    have eb : ∀ j, j ≠ 4 → j ≠ 5 → j ≠ 6 → j ≠ 8 → j ≠ 12 → j ≠ 13 → j ≠ 14 → m2 363 j = bgX (tr (wr mF 101 1 0) sA) (n : Int) 363 j := by
      intro j h4 h5 h6 h8 h12 h13 h14
      rw [w2, mr_b _ _ h4 h5 h6, wr_b _ _ _ _ h8, fx_b _ _ _ _ _ h12 h13 h14]
    have eo : ∀ e, e ≠ 363 → e ≠ 366 → m2 e = tr (wr mF 101 1 0) sA e := by
      intro e h1 h2
      rw [w2, mr_o _ _ h1, wr_o _ _ _ _ h1, fx_o _ _ _ _ _ h1 h2, bgX_o h1]
    have hq : qk m m2 := by
      refine ⟨fun e h1 h2 h3 => ?_, fun j hj => ?_⟩
      · unfold scr at h1
        rw [eo e h3 (by omega), tr_o h2, wr_o _ _ _ _ h2, hmo e (by omega) (by omega) (by omega) h2]
      · rw [eb j (by omega) (by omega) (by omega) (by omega) (by omega) (by omega) (by omega), bgX_b (by omega) (by omega) (by omega) (by omega) (by omega), tr_o (by decide), wr_o _ _ _ _ (by decide), hmo 363 (by decide) (by decide) (by decide) (by decide)]
    refine ⟨sA.2.1 - 10, _, q, m2, hC, by rw [x1, w1, g4], by rw [eb 0 (by decide) (by decide) (by decide) (by decide) (by decide) (by decide) (by decide), bgX_0], ?_⟩
    obtain ⟨-, -, hL, hP, hB, hCC, -⟩ := hRR
    obtain ⟨y9, hL⟩ := hL
    obtain ⟨p8, p9, hP⟩ := hP
    obtain ⟨b9, hB⟩ := hB
    refine ⟨⟨0, ⟨?_, ?_⟩, ⟨by omega, ?_, ?_⟩, ?_⟩, ⟨n0, r0, k0, h0, gK_q hq hK⟩, ⟨y9, gL_q hq hL⟩, ⟨p8, p9, gP_q hq hP⟩, ⟨b9, gB_q hq hB⟩, gC_q hq hCC, ?_, Or.inl ⟨?_, ?_⟩⟩
    · rw [qq_a hq (by omega), qq_a hq (a := 365) (by omega)]
      exact t1
    · rw [qq_a hq (by omega)]
      exact t2
    · rw [eo 101 (by decide) (by decide), tr_1, wr_s]
      rfl
    · rw [eb 2 (by decide) (by decide) (by decide) (by decide) (by decide) (by decide) (by decide), bgX_2]
      rfl
    · rw [eo 101 (by decide) (by decide), tr_5, if_neg hf, w2, mr_b _ _ (by decide) (by decide) (by decide), wr_s, g3]
    · intro i hi
      rw [eo 163 (by decide) (by decide), tr_o (by decide), wr_o _ _ _ _ (by decide)]
      exact f4 i hi
    · rw [eo 161 (by decide) (by decide), tr_o (by decide), wr_o _ _ _ _ (by decide), f5.2 7 (by decide) (by decide) (by decide)]
      exact hM7
    · rw [eo 161 (by decide) (by decide), tr_o (by decide), wr_o _ _ _ _ (by decide), f5.2 8 (by decide) (by decide) (by decide)]
      exact hM8
end S
