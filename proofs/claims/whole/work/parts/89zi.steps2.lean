/-! ===== the steps of both, each with its own depth, and how often opened ===== -/
def mov2 (d d2 n r Q : Nat) (C : Nat → Int) (z x j jx : Nat) (As Ax : List Value) (m : Nat → Nat → Int) (q : Nat → Nat → Option Nat) (w : Option (Nat → Int64)) (G : Nat → Int) : Prop := ∃ (b : Int) (m1 : Nat → Nat → Int) (G1 : Nat → Int), (b = 0 ∨ b = 1) ∧ ev d j As (mk m q w) = vI b (mk m1 q w) ∧ qC x m m1 ∧ fnR n r Q (m1 x) (m1 (x + 1)) (m1 (x + 2)) G1 ∧ sim d2 n r C z jx Ax b G G1 ∧ (m1 x 5 = m x 5 ∨ m1 x 5 = m x 5 + 1)
section S
variable {d n : Nat} {m : Nat → Nat → Int} {q : Nat → Nat → Option Nat} {w : Option (Nat → Int64)} {x y d2 : Nat} {r Q z j jx : Nat} {G : Nat → Int} {C : Nat → Int} {As Ax : List Value}
theorem mov_no2 (hF : fnR n r Q (m x) (m (x + 1)) (m (x + 2)) G) (h1 : ev d j As (mk m q w) = vI 0 (mk m q w)) (h2 : ∀ (m' : Nat → Nat → Int) (q' : Nat → Nat → Option Nat) (w' : Option (Nat → Int64)), m' 377 = G → xR m' n r C z → ev d2 jx Ax (mk m' q' w') = vI 0 (mk m' q' w')) : mov2 d d2 n r Q C z x j jx As Ax m q w G :=
  ⟨0, m, G, Or.inl rfl, h1, fun a _ _ _ _ _ _ _ => rfl, hF, fun m' q' w' hG hx => ⟨m', h2 m' q' w' hG hx, hG, fun _ _ _ _ => rfl⟩, Or.inl rfl⟩
theorem mov_yes2 {m1 : Nat → Nat → Int} {G1 : Nat → Int} (h1 : ev d j As (mk m q w) = vI 1 (mk m1 q w)) (h5 : m1 x 5 = m x 5) (hq : ∀ a, a ≠ x → a ≠ x + 1 → a ≠ x + 2 → m1 a = m a) (hF : fnR n r Q (m1 x) (m1 (x + 1)) (m1 (x + 2)) G1) (h2 : ∀ (m' : Nat → Nat → Int) (q' : Nat → Nat → Option Nat) (w' : Option (Nat → Int64)), m' 377 = G → xR m' n r C z → ev d2 jx Ax (mk m' q' w') = vI 1 (mk (row m' 377 G1) q' w')) : mov2 d d2 n r Q C z x j jx As Ax m q w G :=
  ⟨1, m1, G1, Or.inr rfl, h1, fun a a1 a2 a3 _ _ _ _ => hq a a1 a2 a3, hF, fun m' q' w' hG hx => ⟨row m' 377 G1, h2 m' q' w' hG hx, row_s _ _ _, fun a h _ _ => row_o _ _ _ h⟩, Or.inl h5⟩
theorem M_shut2 (hd : 2 ≤ d) (hd2 : 2 ≤ d2) (hx : iFan x) (hF : fnR n r Q (m x) (m (x + 1)) (m (x + 2)) G) {C : Nat → Int} : ∃ (b : Int) (m1 : Nat → Nat → Int) (G1 : Nat → Int), (b = 0 ∨ b = 1) ∧ ev d 24 [.ref x] (mk m q w) = vI b (mk m1 q w) ∧ qC x m m1 ∧ fnR n r Q (m1 x) (m1 (x + 1)) (m1 (x + 2)) G1 ∧ sim d2 n r C z 205 [.ref 363] b G G1 ∧ m1 x 5 = m x 5 := by
  obtain ⟨f0, f2, f3, f4, f5, ⟨h7, h8, hc⟩, f6⟩ := id hF
  have hn := f0.2.1
  by_cases h : m x 7 = -1
  · refine ⟨0, m, G, Or.inl rfl, ?_, fun a _ _ _ _ _ _ _ => rfl, hF, ?_, rfl⟩
    · rw [T_24 hd hx (by omega), if_pos h]
    · intro m' q' w' hG hx'
      refine ⟨m', ?_, hG, fun _ _ _ _ => rfl⟩
      rw [V_205 (by omega) (by rw [hG]; omega), if_pos (by rw [hG]; omega)]
  · refine ⟨1, wr (wr m x 7 (-1)) x 8 0, row (row G 46 0) 45 (-1), Or.inr rfl, ?_, ?_, ?_, ?_, ?_⟩
    · rw [T_24 hd hx (by omega), if_neg h]
    · intro a h0 _ _ _ _ _ _
      rw [wr_o _ _ _ _ h0, wr_o _ _ _ _ h0]
    · rw [wr_o _ _ _ _ (by omega : x + 1 ≠ x), wr_o _ _ _ _ (by omega : x + 1 ≠ x), wr_o _ _ _ _ (by omega : x + 2 ≠ x), wr_o _ _ _ _ (by omega : x + 2 ≠ x), wr_x, wr_x]
      refine fnR_fld hF ?_ ?_ ?_ ?_ ?_ ?_ ?_ ?_ ?_
      · simp [row]
      · simp [row]
      · simp [row]; omega
      · simp [row]; omega
      · simp [row]; omega
      · simp [row]; omega
      · simp [row]
      · simp [row]
      · intro j hj
        rw [row_o _ _ _ (by omega), row_o _ _ _ (by omega)]
    · intro m' q' w' hG hx'
      refine ⟨_, by rw [V_205 (by omega) (by rw [hG]; omega), if_neg (by rw [hG]; omega)], ?_, ?_⟩
      · rw [wr_x, wr_x, hG]
      · intro a h1 _ _
        rw [wr_o _ _ _ _ h1, wr_o _ _ _ _ h1]
    · simp [wr, row]
theorem M_open2 (hd : 13 ≤ d) (hx : iFan x) (hy : clsL m y z) (hF : fnR n r Q (m x) (m (x + 1)) (m (x + 2)) G) {v k : Nat} (hv : v < 4) (hk : 1 ≤ k ∧ k ≤ 7) : ∃ (b : Int) (m1 : Nat → Nat → Int) (G1 : Nat → Int), (b = 0 ∨ b = 1) ∧ ev d 44 [.ref x, .ref y, .int (iI v), .int (iI k)] (mk m q w) = vI b (mk m1 q w) ∧ qC x m m1 ∧ fnR n r Q (m1 x) (m1 (x + 1)) (m1 (x + 2)) G1 ∧ sim d n r (m (y + 1)) z 204 [.ref 363, .int (iI v), .int (iI k)] b G G1 ∧ (m1 x 5 = m x 5 ∨ m1 x 5 = m x 5 + 1) := by
  obtain ⟨f0, f2, f3, f4, f5, ⟨h7, h8, hc⟩, f6⟩ := id hF
  have hn := f0.2.1
  obtain ⟨o, ⟨k1, k2, k3, k4⟩, -, -, ko, kb⟩ := fnR_k hF
  have hr := fan_rng hx
  have hl := law_rng hy.1
  have hE : gv (d - 1) rR44 19 [some (.ref x), some (.ref y), some (.int (iI v)), some (.int (iI k)), none] [] (mk m q w) = vI 0 (mk m q w) := b_44_19
  have hno : ∀ (m' : Nat → Nat → Int), ev d 44 [.ref x, .ref y, .int (iI v), .int (iI k)] (mk m q w) = vI 0 (mk m' q w) → m' = m → sim d n r (m (y + 1)) z 204 [.ref 363, .int (iI v), .int (iI k)] 0 G G → ∃ (b : Int) (m1 : Nat → Nat → Int) (G1 : Nat → Int), (b = 0 ∨ b = 1) ∧ ev d 44 [.ref x, .ref y, .int (iI v), .int (iI k)] (mk m q w) = vI b (mk m1 q w) ∧ qC x m m1 ∧ fnR n r Q (m1 x) (m1 (x + 1)) (m1 (x + 2)) G1 ∧ sim d n r (m (y + 1)) z 204 [.ref 363, .int (iI v), .int (iI k)] b G G1 ∧ (m1 x 5 = m x 5 ∨ m1 x 5 = m x 5 + 1) := by
    rintro m' h1 rfl h2
    exact ⟨0, m', G, Or.inl rfl, h1, fun a _ _ _ _ _ _ _ => rfl, hF, h2, Or.inl rfl⟩
  have hev : ev d 44 [.ref x, .ref y, .int (iI v), .int (iI k)] (mk m q w) = if ¬ m x 7 = -1 then vI 0 (mk m q w) else if ¬ ((1 : Int) ≤ k ∧ (k : Int) ≤ n) then vI 0 (mk m q w) else rBd (ev (d - 1) 43 [.ref y, .ref x, .int (iI v), .int (iI k)] (mk m q w)) (fun u M' => gv (d - 1) rR44 32 [some (.ref x), some (.ref y), some (.int (iI v)), some (.int (iI k)), none] (u.toList ++ [.int (iI (m x 2))]) M') := by
    rw [e_44 (by omega) _ rfl rfl rfl rfl]
    simp only [b_44_0 hy.1 hx, T_23 (m := m) (show 1 ≤ d - 1 by omega) hx (by omega), rBd_v, Option.toList_some, Option.toList_none, List.cons_append, List.nil_append, List.append_nil, b_44_4 hy.1 hx, zb_0, f0.1, T_6 (show 1 ≤ d - 1 by omega) (by omega : i32 (k : Int)) (by omega : i32 1) (by omega : i32 (n : Int)), b_44_16 hy.1 hx, hE]
  by_cases hs : m x 7 = -1
  · rw [if_neg (not_not_intro hs)] at hev
    by_cases hw : k ≤ n
    · rw [if_neg (not_not_intro (by omega))] at hev
      obtain ⟨F, S, h43⟩ := T_43 (q := q) (w := w) (show 12 ≤ d - 1 by omega) hy.1 hx hy.2.1 hy.2.2 k3 k4 (v := (v : Nat)) (k := (k : Nat))
      have hL := lawv_le (m (y + 1)) z (fq v k (m x 2) (m x 5) (pc o) (m x 3) (m x 4))
      rw [h43] at hev
      have ex : row (row m (y + 3) F) (y + 2) S x = m x := by rw [row_o _ _ _ (by omega), row_o _ _ _ (by omega)]
      simp only [rBd_v, Option.toList_some, Option.toList_none, List.cons_append, List.nil_append, List.append_nil, b_44_32 hx, ex, f0.2.2.1, iI_lt (by omega : i32 (r : Int)) (by omega : i32 (m x 2 + lawv (m (y + 1)) z (fq v k (m x 2) (m x 5) (pc o) (m x 3) (m x 4))))] at hev
      -- the reference
      have hX : ∀ (m' : Nat → Nat → Int) (q' : Nat → Nat → Option Nat) (w' : Option (Nat → Int64)), m' 377 = G → xR m' n r (m (y + 1)) z → ∃ F2 S2, ev (d - 1) 203 [.ref 363, .int (iI v), .int (iI k)] (mk m' q' w') = vI (lawv (m (y + 1)) z (fq v k (m x 2) (m x 5) (pc o) (m x 3) (m x 4))) (mk (row (row m' 373 F2) 372 S2) q' w') := by
        intro m' q' w' hG hx'
        obtain ⟨F2, S2, h⟩ := V_203 (m := m') (q := q') (w := w') (show 5 ≤ d - 1 by omega) hx'.2.2 hx'.1 hn ko (by rw [hG]; exact kb) (v := (v : Nat)) (k := (k : Nat))
        rw [hG, ← f2.1, ← f5, ← f3.1, ← f4.1] at h
        exact ⟨F2, S2, h⟩
      by_cases hg : (r : Int) < m x 2 + lawv (m (y + 1)) z (fq v k (m x 2) (m x 5) (pc o) (m x 3) (m x 4))
      · rw [if_pos hg] at hev
        refine ⟨0, _, G, Or.inl rfl, hev, ?_, ?_, ?_, Or.inl (congrFun ex 5)⟩
        · intro a _ _ _ _ _ _ _
          rw [row_o _ _ _ (by omega), row_o _ _ _ (by omega)]
        · rw [ex, row_o _ _ _ (by omega), row_o _ _ _ (by omega), row_o _ _ _ (by omega), row_o _ _ _ (by omega)]
          exact hF
        · intro m' q' w' hG hx'
          obtain ⟨F2, S2, h⟩ := hX m' q' w' hG hx'
          refine ⟨row (row m' 373 F2) 372 S2, ?_, by rw [row_o _ _ _ (by decide), row_o _ _ _ (by decide)]; exact hG, fun a h1 h2 h3 => by rw [row_o _ _ _ h2, row_o _ _ _ h3]⟩
          rw [e_204 (by omega) _ rfl rfl rfl]
          simp only [b_204_0, hG, hx'.1, iI_lt (by omega : i32 0) (by omega : i32 (G 46)), iI_lt (by omega : i32 (n : Int)) (by omega : i32 (k : Int)), h, rBd_v, Option.toList_some, Option.toList_none, List.cons_append, List.nil_append, List.append_nil, b_204_31, row_o _ _ _ (show 363 ≠ 372 by decide), row_o _ _ _ (show 363 ≠ 373 by decide), hx'.2.1, ← f2.1, iI_lt (by omega : i32 (r : Int)) (by omega : i32 (m x 2 + lawv (m (y + 1)) z (fq v k (m x 2) (m x 5) (pc o) (m x 3) (m x 4)))), b_204_39]
          rw [if_neg (by omega), if_neg (by omega), if_pos hg]
      · rw [if_neg hg] at hev
        refine ⟨1, _, row (row (row (row G 42 (m x 2 + lawv (m (y + 1)) z (fq v k (m x 2) (m x 5) (pc o) (m x 3) (m x 4)))) 45 v) 46 k) 44 (G 44 + 1), Or.inr rfl, hev, ?_, ?_, ?_, Or.inr (by rw [wr_b _ _ _ _ (by decide), wr_b _ _ _ _ (by decide), wr_s, wr_b _ _ _ _ (by decide), ex])⟩
        · intro a h0 _ _ _ _ _ _
          rw [wr_o _ _ _ _ h0, wr_o _ _ _ _ h0, wr_o _ _ _ _ h0, wr_o _ _ _ _ h0, row_o _ _ _ (by omega), row_o _ _ _ (by omega)]
        · have ex1 : row (row m (y + 3) F) (y + 2) S (x + 1) = m (x + 1) := by rw [row_o _ _ _ (by omega), row_o _ _ _ (by omega)]
          have ex2 : row (row m (y + 3) F) (y + 2) S (x + 2) = m (x + 2) := by rw [row_o _ _ _ (by omega), row_o _ _ _ (by omega)]
          simp only [wr_o _ _ _ _ (show x + 1 ≠ x by omega), wr_o _ _ _ _ (show x + 2 ≠ x by omega), wr_x, ex, ex1, ex2]
          refine fnR_fld hF ?_ ?_ ?_ ?_ ?_ ?_ ?_ ?_ ?_
          · simp [row]
          · simp [row]
          · simp [row]; omega
          · simp [row]; omega
          · simp [row]; omega
          · simp [row]; omega
          · simp [row]
          · simp [row]; omega
          · intro j hj
            rw [row_o _ _ _ (by omega), row_o _ _ _ (by omega), row_o _ _ _ (by omega), row_o _ _ _ (by omega)]
        · intro m' q' w' hG hx'
          obtain ⟨F2, S2, h⟩ := hX m' q' w' hG hx'
          have hG2 : row (row m' 373 F2) 372 S2 377 = G := by rw [row_o _ _ _ (by decide), row_o _ _ _ (by decide)]; exact hG
          obtain ⟨F3, S3, h3⟩ := hX (row (row m' 373 F2) 372 S2) q' w' hG2 hx'
          have hG3 : row (row (row (row m' 373 F2) 372 S2) 373 F3) 372 S3 377 = G := by rw [row_o _ _ _ (by decide), row_o _ _ _ (by decide)]; exact hG2
          refine ⟨wr (wr (wr (wr (row (row (row (row m' 373 F2) 372 S2) 373 F3) 372 S3) 377 42 (m x 2 + lawv (m (y + 1)) z (fq v k (m x 2) (m x 5) (pc o) (m x 3) (m x 4)))) 377 45 v) 377 46 k) 377 44 (G 44 + 1), ?_, ?_, ?_⟩
          · rw [e_204 (by omega) _ rfl rfl rfl]
            simp only [b_204_0, hG, hx'.1, iI_lt (by omega : i32 0) (by omega : i32 (G 46)), iI_lt (by omega : i32 (n : Int)) (by omega : i32 (k : Int)), h, rBd_v, Option.toList_some, Option.toList_none, List.cons_append, List.nil_append, List.append_nil, b_204_31, row_o _ _ _ (show 363 ≠ 372 by decide), row_o _ _ _ (show 363 ≠ 373 by decide), hx'.2.1, ← f2.1, iI_lt (by omega : i32 (r : Int)) (by omega : i32 (m x 2 + lawv (m (y + 1)) z (fq v k (m x 2) (m x 5) (pc o) (m x 3) (m x 4)))), h3]
            rw [if_neg (by omega), if_neg (by omega), if_neg hg, hG2, ← f2.1, b_204_55 (by omega) (by omega)]
            simp [wr_x, hG3, hG, row]
          · rw [wr_x, wr_x, wr_x, wr_x, hG3]
          · intro a h1 h2 h3
            rw [wr_o _ _ _ _ h1, wr_o _ _ _ _ h1, wr_o _ _ _ _ h1, wr_o _ _ _ _ h1, row_o _ _ _ h2, row_o _ _ _ h3, row_o _ _ _ h2, row_o _ _ _ h3]
    · rw [if_pos (by omega)] at hev
      refine hno m hev rfl ?_
      intro m' q' w' hG hx'
      refine ⟨m', ?_, hG, fun _ _ _ _ => rfl⟩
      rw [e_204 (by omega) _ rfl rfl rfl]
      simp only [b_204_0, hG, hx'.1, iI_lt (by omega : i32 0) (by omega : i32 (G 46)), iI_lt (by omega : i32 (n : Int)) (by omega : i32 (k : Int)), b_204_39]
      rw [if_neg (by omega), if_pos (by omega)]
  · rw [if_pos hs] at hev
    refine hno m hev rfl ?_
    intro m' q' w' hG hx'
    refine ⟨m', ?_, hG, fun _ _ _ _ => rfl⟩
    rw [e_204 (by omega) _ rfl rfl rfl]
    simp only [b_204_0, hG, iI_lt (by omega : i32 0) (by omega : i32 (G 46)), b_204_39]
    rw [if_pos (by omega)]
theorem M_swap2 (hd : 3 ≤ d) (hd2 : 3 ≤ d2) (hx : iFan x) (hF : fnR n r Q (m x) (m (x + 1)) (m (x + 2)) G) {a b : Nat} (ha : a < n) (hb : b < n) : mov2 d d2 n r Q C z x 45 206 [.ref x, .int (iI a), .int (iI b)] [.ref 363, .int (iI a), .int (iI b)] m q w G := by
  obtain ⟨f0, f2, f3, f4, f5, ⟨h7, h8, hc⟩, -, ⟨b1, b2, b3⟩, -⟩ := id hF
  have hn := f0.2.1
  have hT := T_45 (q := q) (w := w) hd hx (show i32 (m x 7) by omega) f0.1 hn (show i32 (a : Int) by omega) (show i32 (b : Int) by omega)
  simp only [Int.toNat_natCast] at hT
  by_cases h : m x 7 = -1 ∧ a ≠ b
  · rw [if_pos ⟨h.1, by omega, by omega, by omega⟩] at hT
    refine mov_yes2 (G1 := row (row G (28 + a) (G (28 + b))) (28 + b) (G (28 + a))) hT (by simp [wr, row]) ?_ ?_ ?_
    · intro c _ c1 _
      rw [wr_o _ _ _ _ c1, wr_o _ _ _ _ c1]
    · rw [wr_o _ _ _ _ (by omega : x ≠ x + 1), wr_o _ _ _ _ (by omega : x ≠ x + 1), wr_o _ _ _ _ (by omega : x + 2 ≠ x + 1), wr_o _ _ _ _ (by omega : x + 2 ≠ x + 1), wr_x, wr_x]
      have e : ∀ t, row (row (m (x + 1)) a (m (x + 1) b)) b (m (x + 1) a) t = m (x + 1) (if t = b then a else if t = a then b else t) := by
        intro t
        show (if t = b then m (x + 1) a else if t = a then m (x + 1) b else m (x + 1) t) = _
        split
        · rfl
        · split <;> rfl
      have el : ∀ t, t < n → (if t = b then a else if t = a then b else t) < n := by
        intro t ht
        split
        · exact ha
        · split
          · exact hb
          · exact ht
      refine fnR_B hF ?_ ?_ ?_ ?_
      · intro t ht
        rw [row_o _ _ _ (by omega), row_o _ _ _ (by omega)]
      · intro t ht
        rw [e, b1 _ (el t ht)]
        show _ = (if 28 + t = 28 + b then G (28 + a) else if 28 + t = 28 + a then G (28 + b) else G (28 + t))
        by_cases t1 : t = b
        · rw [if_pos (show 28 + t = 28 + b by omega), if_pos t1]
        · rw [if_neg (show ¬ 28 + t = 28 + b by omega), if_neg t1]
          by_cases t2 : t = a
          · rw [if_pos (show 28 + t = 28 + a by omega), if_pos t2]
          · rw [if_neg (show ¬ 28 + t = 28 + a by omega), if_neg t2]
      · intro t ht
        rw [e]
        exact b2 _ (el t ht)
      · intro i t hi ht he
        rw [e, e] at he
        have h9 := b3 _ _ (el i hi) (el t ht) he
        have hab := h.2
        by_cases i1 : i = b
        · rw [if_pos i1] at h9
          by_cases t1 : t = b
          · omega
          · rw [if_neg t1] at h9
            by_cases t2 : t = a
            · rw [if_pos t2] at h9
              omega
            · rw [if_neg t2] at h9
              omega
        · rw [if_neg i1] at h9
          by_cases i2 : i = a
          · rw [if_pos i2] at h9
            by_cases t1 : t = b
            · rw [if_pos t1] at h9
              omega
            · rw [if_neg t1] at h9
              by_cases t2 : t = a
              · omega
              · rw [if_neg t2] at h9
                omega
          · rw [if_neg i2] at h9
            by_cases t1 : t = b
            · rw [if_pos t1] at h9
              omega
            · rw [if_neg t1] at h9
              by_cases t2 : t = a
              · rw [if_pos t2] at h9
                omega
              · rw [if_neg t2] at h9
                exact h9
    · intro m' q' w' hG hx'
      rw [V_206 (by omega) (by rw [hG]; omega) (by omega) (by omega), if_pos ⟨by rw [hG]; omega, h.2⟩]
      simp only [wr, row_s, row_row, hG]
  · rw [if_neg (fun z => h ⟨z.1, fun e => z.2.1 (by rw [e])⟩)] at hT
    refine mov_no2 hF hT ?_
    intro m' q' w' hG hx'
    rw [V_206 (by omega) (by rw [hG]; omega) (by omega) (by omega), if_neg (by rw [hG]; omega)]
theorem M_turn2 (hd : 3 ≤ d) (hd2 : 3 ≤ d2) (hx : iFan x) (hF : fnR n r Q (m x) (m (x + 1)) (m (x + 2)) G) {a : Nat} (ha : a < n) : mov2 d d2 n r Q C z x 46 207 [.ref x, .int (iI a)] [.ref 363, .int (iI a)] m q w G := by
  obtain ⟨f0, f2, f3, f4, f5, ⟨h7, h8, hc⟩, ⟨o, o1, o2, o3⟩, ⟨b1, b2, b3⟩, -⟩ := id hF
  have hn := f0.2.1
  have ho := pow_lt hn o2
  have hT := T_46 (q := q) (w := w) hd hx (show i32 (m x 7) by omega) f0.1 hn (show i32 (a : Int) by omega)
  simp only [Int.toNat_natCast] at hT
  obtain ⟨s, hs⟩ : ∃ s : Nat, m (x + 1) a = s := ⟨(m (x + 1) a).toNat, by have := b2 a ha; omega⟩
  have hsn : s < n := by have := b2 a ha; omega
  have hGs : G (28 + a) = s := by rw [← b1 a ha]; exact hs
  by_cases h : m x 7 = -1
  · rw [if_pos ⟨h, by omega⟩, o1, hs, flp_ok o ho s (by omega)] at hT
    refine mov_yes2 (G1 := row G (35 + s) (1 - G (35 + s))) hT (by simp [wr, row]) ?_ ?_ ?_
    · intro c c0 _ _
      rw [wr_o _ _ _ _ c0]
    · rw [wr_o _ _ _ _ (by omega : x + 1 ≠ x), wr_o _ _ _ _ (by omega : x + 2 ≠ x), wr_x]
      refine fnR_6 (o1 := flp o s) hF ?_ ?_ ?_ ?_ ?_
      · intro t ht
        rw [row_o _ _ _ ht]
      · intro t ht
        rw [row_o _ _ _ (by omega)]
      · rw [row_s]
      · exact flp_lt n (by omega) o ho o2 s (by omega) hsn
      · intro t ht
        rw [flp_bt o ho s (by omega) t ht]
        have hb := bt_01 o s
        by_cases e : t = s
        · subst e
          rw [row_s, if_pos rfl, o3 t ht]
          omega
        · rw [row_o _ _ _ (by omega), if_neg e, o3 t ht]
    · intro m' q' w' hG hx'
      rw [V_207 (by omega) (by rw [hG]; omega) (by omega) (by rw [hG]; omega), if_pos (by rw [hG]; omega)]
      simp only [wr, row_s, hG, hGs, Int.toNat_natCast]
  · rw [if_neg (fun z => h z.1)] at hT
    refine mov_no2 hF hT ?_
    intro m' q' w' hG hx'
    rw [V_207 (by omega) (by rw [hG]; omega) (by omega) (by rw [hG]; omega), if_neg (by rw [hG]; omega)]
theorem M_paint2 (hd : 4 ≤ d) (hd2 : 4 ≤ d2) (hx : iFan x) (hF : fnR n r Q (m x) (m (x + 1)) (m (x + 2)) G) {a h c : Nat} (ha : a < n) (hh : h < 4) (hc : c < 16) : mov2 d d2 n r Q C z x 47 210 [.ref x, .int (iI a), .int (iI h), .int (iI c)] [.ref 363, .int (iI a), .int (iI h), .int (iI c)] m q w G := by
  obtain ⟨f0, f2, f3, f4, f5, f7, -, ⟨b1, b2, b3⟩, c1, c2⟩ := id hF
  obtain ⟨o, hk, hl, hC, ho, hb⟩ := fnR_k hF
  have hn := f0.2.1
  obtain ⟨s, hs⟩ : ∃ s : Nat, m (x + 1) a = s := ⟨(m (x + 1) a).toNat, by have := b2 a ha; omega⟩
  have hsn : s < n := by have := b2 a ha; omega
  have hGs : G (28 + a) = s := by rw [← b1 a ha]; exact hs
  obtain ⟨l1, l2, l3⟩ := fnR_lm hF hb hsn hh
  have hT := T_47 (q := q) (w := w) hd hx hk hl hC (show i32 (m x 3) by omega) ha hh (show i32 (c : Int) by omega)
  rw [hs, Int.toNat_natCast, l1] at hT
  have hV : ∀ (m' : Nat → Nat → Int) (q' : Nat → Nat → Option Nat) (w' : Option (Nat → Int64)), m' 377 = G → _ := fun m' q' w' (hG : m' 377 = G) => V_210 (m := m') (q := q') (w := w') (show 3 ≤ d2 by omega) (show a < 7 by omega) hh (by rw [hG]; exact hGs) (show s < 7 by omega) (by rw [hG, hb s (by omega)]; have := bt_01 o s; omega) (by rw [hG]; omega) (show i32 (c : Int) by omega) (by rw [hG]; omega)
  have hbs := bt_01 o s
  have eth : th o s h = if G (35 + s) = 1 then 3 - h else h := by
    unfold th
    rw [hb s (by omega)]
    by_cases e : bt o s = 1
    · rw [if_pos e, if_pos (by omega)]
    · rw [if_neg e, if_neg (by omega)]
  have etl := th_lt (o := o) (s := s) hh
  by_cases h0 : 0 < m x 3 ∧ xm G s h ≠ c
  · rw [if_pos h0] at hT
    refine mov_yes2 (G1 := row (row G (4 * s + th o s h) c) 43 (G 43 - 1)) hT (by simp [wr, row]) ?_ ?_ ?_
    · intro t t0 _ t2
      rw [wr_o _ _ _ _ t0, wr_o _ _ _ _ t2]
    · rw [wr_o _ _ _ _ (by omega : x + 1 ≠ x), wr_o _ _ _ _ (by omega : x + 1 ≠ x + 2), wr_o _ _ _ _ (by omega : x + 2 ≠ x), wr_x, wr_x, wr_o _ _ _ _ (by omega : x ≠ x + 2)]
      have hF2 : fnR n r Q (m x) (m (x + 1)) (row (m (x + 2)) (4 * s + th o s h) c) (row G (4 * s + th o s h) c) := by
        refine fnR_C hF ?_ ?_ ?_
        · intro t ht
          rw [row_o _ _ _ (by omega)]
        · intro i hi
          by_cases e : i = 4 * s + th o s h
          · rw [e, row_s]
            omega
          · rw [row_o _ _ _ e]
            exact c1 i hi
        · intro i hi
          by_cases e : i = 4 * s + th o s h
          · rw [e, row_s, row_s]
            omega
          · rw [row_o _ _ _ e, row_o _ _ _ e]
            exact c2 i hi
      refine fnR_fld hF2 ?_ ?_ ?_ ?_ ?_ ?_ ?_ ?_ ?_
      · rw [row_o _ _ _ (by decide)]
      · rw [row_o _ _ _ (by decide)]
      · rw [row_o _ _ _ (by decide), row_o _ _ _ (by decide), row_o _ _ _ (by omega)]
        exact f2
      · rw [row_s, row_s]
        omega
      · rw [row_o _ _ _ (by decide), row_o _ _ _ (by decide), row_o _ _ _ (by omega)]
        exact f4
      · rw [row_o _ _ _ (by decide), row_o _ _ _ (by decide), row_o _ _ _ (by omega)]
        exact f5
      · rw [row_o _ _ _ (by decide)]
      · rw [row_o _ _ _ (by omega), row_o _ _ _ (by omega), row_o _ _ _ (by omega), row_o _ _ _ (by omega), row_o _ _ _ (by omega), row_o _ _ _ (by omega)]
        exact f7
      · intro t ht
        rw [row_o _ _ _ (by omega)]
    · intro m' q' w' hG hx'
      rw [hV m' q' w' hG, hG, if_neg (by omega), ← eth]
  · rw [if_neg h0] at hT
    refine mov_no2 hF hT ?_
    intro m' q' w' hG hx'
    rw [hV m' q' w' hG, hG, if_pos (by omega)]
theorem M_oil2 (hd : 1 ≤ d) (hd2 : 1 ≤ d2) (hx : iFan x) (hF : fnR n r Q (m x) (m (x + 1)) (m (x + 2)) G) : mov2 d d2 n r Q C z x 48 211 [.ref x] [.ref 363] m q w G := by
  obtain ⟨f0, f2, f3, f4, f5, f7, f8⟩ := id hF
  have hn := f0.2.1
  have hT := T_48 (m := m) (q := q) (w := w) hd hx (by omega)
  have e := hlf (m x 2).toNat (by omega)
  rw [Int.toNat_of_nonneg f2.2.1] at e
  by_cases h : m x 2 = 0
  · rw [if_pos h] at hT
    refine mov_no2 hF hT ?_
    intro m' q' w' hG hx'
    rw [V_211 (by omega) (by rw [hG]; omega), if_pos (by rw [hG]; omega)]
  · rw [if_neg h, e] at hT
    refine mov_yes2 (G1 := row G 42 (((m x 2).toNat / 2 : Nat) : Int)) hT (by simp [wr, row]) ?_ ?_ ?_
    · intro c c0 _ _
      rw [wr_o _ _ _ _ c0]
    · rw [wr_o _ _ _ _ (by omega : x + 1 ≠ x), wr_o _ _ _ _ (by omega : x + 2 ≠ x), wr_x]
      refine fnR_fld hF ?_ ?_ ?_ ?_ ?_ ?_ ?_ ?_ ?_
      · simp [row]
      · simp [row]
      · have h9 : (((m x 2).toNat / 2 : Nat) : Int) ≤ m x 2 := by omega
        have h8 : (0 : Int) ≤ (((m x 2).toNat / 2 : Nat) : Int) := by omega
        rw [row_s, row_s]
        exact ⟨rfl, h8, Int.le_trans h9 f2.2.2⟩
      · simp [row]; omega
      · simp [row]; omega
      · simp [row]; omega
      · simp [row]
      · simp [row]; omega
      · intro j hj
        rw [row_o _ _ _ (by omega)]
    · intro m' q' w' hG hx'
      rw [V_211 (by omega) (by rw [hG]; omega), if_neg (by rw [hG]; omega), hG, ← f2.1, e]
      simp only [wr, hG]
theorem M_pass2 (hd : 10 ≤ d) (hx : iFan x) (hF : fnR n r Q (m x) (m (x + 1)) (m (x + 2)) G) : ∃ (m1 : Nat → Nat → Int) (G1 : Nat → Int), ev d 49 [.ref x] (mk m q w) = vV (mk m1 q w) ∧ (∀ a, a ≠ x → m1 a = m a) ∧ fnR n r (Q + 1) (m1 x) (m1 (x + 1)) (m1 (x + 2)) G1 ∧ (m x 4 < Q → fnR n r Q (m1 x) (m1 (x + 1)) (m1 (x + 2)) G1) ∧ (∀ (m' : Nat → Nat → Int) (q' : Nat → Nat → Option Nat) (w' : Option (Nat → Int64)), m' 377 = G → ev d 212 [.ref 363] (mk m' q' w') = vV (mk (row m' 377 G1) q' w')) ∧ m1 x 5 = m x 5 ∧ (m1 x 4 = m x 4 + 1) := by
  obtain ⟨f0, f2, f3, f4, f5, f7, f8⟩ := id hF
  have hn := f0.2.1
  refine ⟨_, row (row (row G 42 (if 3 < m x 2 then m x 2 - 3 else 0)) 43 (if 97 < m x 3 then 99 else m x 3 + 2)) 47 (m x 4 + 1), T_49 hd hx (by omega) (by omega), ?_, ?_, ?_, ?_, ?_, ?_⟩
  · intro a ha
    rw [wr_o _ _ _ _ ha, wr_o _ _ _ _ ha, wr_o _ _ _ _ ha]
  · simp only [wr_o _ _ _ _ (by omega : x + 1 ≠ x), wr_o _ _ _ _ (by omega : x + 2 ≠ x), wr_x]
    refine fnR_fld hF ?_ ?_ ?_ ?_ ?_ ?_ ?_ ?_ ?_
    · simp [row]
    · simp [row]
    · simp [row]
      split <;> omega
    · simp [row]
      split <;> omega
    · simp [row]; omega
    · simp [row]; omega
    · simp [row]
    · simp [row]; omega
    · intro j hj
      rw [row_o _ _ _ (by omega), row_o _ _ _ (by omega), row_o _ _ _ (by omega)]
  · intro h4
    simp only [wr_o _ _ _ _ (by omega : x + 1 ≠ x), wr_o _ _ _ _ (by omega : x + 2 ≠ x), wr_x]
    refine fnR_fld hF ?_ ?_ ?_ ?_ ?_ ?_ ?_ ?_ ?_
    · simp [row]
    · simp [row]
    · simp [row]
      split <;> omega
    · simp [row]
      split <;> omega
    · simp [row]; omega
    · simp [row]; omega
    · simp [row]
    · simp [row]; omega
    · intro j hj
      rw [row_o _ _ _ (by omega), row_o _ _ _ (by omega), row_o _ _ _ (by omega)]
  · intro m' q' w' hG
    rw [V_212 (by omega) (by rw [hG]; omega) (by rw [hG]; omega)]
    simp only [wr, row_s, row_row, hG, ← f2.1, ← f3.1, ← f4.1]
  · simp [wr, row]
  · simp [wr, row]
end S
