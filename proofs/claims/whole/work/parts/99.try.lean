section
/-! ===== the steps of both ===== -/
def mov (d n r Q : Nat) (C : Nat → Int) (z x j jx : Nat) (As Ax : List Value) (m : Nat → Nat → Int) (q : Nat → Nat → Option Nat) (w : Option (Nat → Int64)) (G : Nat → Int) : Prop := ∃ (b : Int) (m1 : Nat → Nat → Int) (G1 : Nat → Int), (b = 0 ∨ b = 1) ∧ ev d j As (mk m q w) = vI b (mk m1 q w) ∧ qC x m m1 ∧ fnR n r Q (m1 x) (m1 (x + 1)) (m1 (x + 2)) G1 ∧ sim d n r C z jx Ax b G G1
def flp (o s : Nat) : Nat := if bt o s = 1 then o - 2 ^ s else o + 2 ^ s
theorem flp_ok : ∀ o : Nat, o < 128 → ∀ s : Nat, s < 7 → zXor (o : Int) (zShl 1 (s : Int)) = (flp o s : Int) := by decide +kernel
theorem flp_bt : ∀ o : Nat, o < 128 → ∀ s : Nat, s < 7 → ∀ t : Nat, t < 7 → bt (flp o s) t = if t = s then 1 - bt o s else bt o t := by decide +kernel
theorem flp_lt : ∀ n : Nat, n < 8 → ∀ o : Nat, o < 128 → o < 2 ^ n → ∀ s : Nat, s < 7 → s < n → flp o s < 2 ^ n := by decide +kernel
theorem hlf : ∀ v : Nat, v < 201 → zDiv (v : Int) 2 = ((v / 2 : Nat) : Int) := by decide +kernel
section S
variable {d n : Nat} {m : Nat → Nat → Int} {q : Nat → Nat → Option Nat} {w : Option (Nat → Int64)} {x y : Nat} {r Q z j jx : Nat} {G : Nat → Int} {C : Nat → Int} {As Ax : List Value}
theorem mov_no (hF : fnR n r Q (m x) (m (x + 1)) (m (x + 2)) G) (h1 : ev d j As (mk m q w) = vI 0 (mk m q w)) (h2 : ∀ (m' : Nat → Nat → Int) (q' : Nat → Nat → Option Nat) (w' : Option (Nat → Int64)), m' 377 = G → xR m' n r C z → ev d jx Ax (mk m' q' w') = vI 0 (mk m' q' w')) : mov d n r Q C z x j jx As Ax m q w G :=
  ⟨0, m, G, Or.inl rfl, h1, fun a _ _ _ _ _ _ _ => rfl, hF, fun m' q' w' hG hx => ⟨m', h2 m' q' w' hG hx, hG, fun _ _ _ _ => rfl⟩⟩
theorem mov_yes {m1 : Nat → Nat → Int} {G1 : Nat → Int} (h1 : ev d j As (mk m q w) = vI 1 (mk m1 q w)) (hq : ∀ a, a ≠ x → a ≠ x + 1 → a ≠ x + 2 → m1 a = m a) (hF : fnR n r Q (m1 x) (m1 (x + 1)) (m1 (x + 2)) G1) (h2 : ∀ (m' : Nat → Nat → Int) (q' : Nat → Nat → Option Nat) (w' : Option (Nat → Int64)), m' 377 = G → xR m' n r C z → ev d jx Ax (mk m' q' w') = vI 1 (mk (row m' 377 G1) q' w')) : mov d n r Q C z x j jx As Ax m q w G :=
  ⟨1, m1, G1, Or.inr rfl, h1, fun a a1 a2 a3 _ _ _ _ => hq a a1 a2 a3, hF, fun m' q' w' hG hx => ⟨row m' 377 G1, h2 m' q' w' hG hx, row_s _ _ _, fun a h _ _ => row_o _ _ _ h⟩⟩
theorem V_210 (hd : 3 ≤ d) {a h s : Nat} (ha : a < 7) (hh : h < 4) (hs : m 377 (28 + a) = s) (hs7 : s < 7) (ho : i32 (m 377 (35 + s))) (h3 : i32 (m 377 43)) {c : Int} (hc : i32 c) (hm : i32 (xm (m 377) s h)) : ev d 210 [.ref 363, .int (iI a), .int (iI h), .int (iI c)] (mk m q w) =
    if m 377 43 = 0 ∨ xm (m 377) s h = c then vI 0 (mk m q w) else vI 1 (mk (row m 377 (row (row (m 377) (4 * s + if m 377 (35 + s) = 1 then 3 - h else h) c) 43 (m 377 43 - 1))) q w) := by
  have e1 : (28 + (a : Int)).toNat = 28 + a := by omega
  have hE : ∀ t : Nat, t < 4 → gv (d - 1) rR210 63 [some (.ref 363), some (.int (iI a)), some (.int (iI h)), some (.int (iI c)), some (.int (iI s))] [.int (iI t), .int (iI (4 * (s : Int))), .ref 377] (mk m q w) = vI 1 (mk (row m 377 (row (row (m 377) (4 * s + t) c) 43 (m 377 43 - 1))) q w) := by
    intro t ht
    rw [b_210_63 (by omega) (by omega), show (4 * (s : Int) + (t : Int)).toNat = 4 * s + t by omega]
    simp only [wr_x]
    rw [row_o _ _ _ (show 43 ≠ 4 * s + t by omega)]
    unfold wr
    rw [row_s, row_row]
  rw [e_210 (by omega) _ rfl rfl rfl rfl, b_210_0 (by omega) (by omega)]
  simp only [e1, hs, iI_eq h3 (by omega : i32 0), V_209 (show 2 ≤ d - 1 by omega) hs7 hh ho, rBd_v, Option.toList_some, Option.toList_none, List.cons_append, List.nil_append, List.append_nil, b_210_28, iI_eq hm hc, b_210_32]
  by_cases h0 : m 377 43 = 0
  · rw [if_pos h0, if_pos (Or.inl h0)]
  · rw [if_neg h0]
    by_cases h1 : xm (m 377) s h = c
    · rw [if_pos h1, if_pos (Or.inr h1)]
    · rw [if_neg h1, if_neg (fun z => z.elim h0 h1), b_210_34 (by omega) (by omega), show (35 + (s : Int)).toNat = 35 + s by omega]
      simp only [iI_eq ho (by omega : i32 1)]
      by_cases h2 : m 377 (35 + s) = 1
      · rw [if_pos h2, if_pos h2, show 3 - (h : Int) = ((3 - h : Nat) : Int) by omega]
        exact hE (3 - h) (by omega)
      · rw [if_neg h2, if_neg h2]
        exact hE h hh
theorem M_swap (hd : 3 ≤ d) (hx : iFan x) (hF : fnR n r Q (m x) (m (x + 1)) (m (x + 2)) G) {a b : Nat} (ha : a < n) (hb : b < n) : mov d n r Q C z x 45 206 [.ref x, .int (iI a), .int (iI b)] [.ref 363, .int (iI a), .int (iI b)] m q w G := by
  obtain ⟨f0, f2, f3, f4, f5, ⟨h7, h8, hc⟩, -, ⟨b1, b2, b3⟩, -⟩ := id hF
  have hn := f0.2.1
  have hT := T_45 (q := q) (w := w) hd hx (show i32 (m x 7) by omega) f0.1 hn (show i32 (a : Int) by omega) (show i32 (b : Int) by omega)
  simp only [Int.toNat_natCast] at hT
  by_cases h : m x 7 = -1 ∧ a ≠ b
  · rw [if_pos ⟨h.1, by omega, by omega, by omega⟩] at hT
    refine mov_yes (G1 := row (row G (28 + a) (G (28 + b))) (28 + b) (G (28 + a))) hT ?_ ?_ ?_
    · intro c _ c1 _
      rw [wr_o _ _ _ _ c1, wr_o _ _ _ _ c1]
    · rw [wr_o _ _ _ _ (by omega : x ≠ x + 1), wr_o _ _ _ _ (by omega : x ≠ x + 1), wr_o _ _ _ _ (by omega : x + 2 ≠ x + 1), wr_o _ _ _ _ (by omega : x + 2 ≠ x + 1), wr_x, wr_x]
      have e : ∀ t, row (row (m (x + 1)) a (m (x + 1) b)) b (m (x + 1) a) t = m (x + 1) (if t = b then a else if t = a then b else t) := by
        intro t
        show (if t = b then m (x + 1) a else if t = a then m (x + 1) b else m (x + 1) t) = _
        split
        · rfl
        · split <;> rfl
      have el : ∀ t, t < n → (if t = b then a else if t = a then b else t) < n := by
        intro t ht
        split
        · exact ha
        · split
          · exact hb
          · exact ht
      refine fnR_B hF ?_ ?_ ?_ ?_
      · intro t ht
        rw [row_o _ _ _ (by omega), row_o _ _ _ (by omega)]
      · intro t ht
        rw [e, b1 _ (el t ht)]
        show _ = (if 28 + t = 28 + b then G (28 + a) else if 28 + t = 28 + a then G (28 + b) else G (28 + t))
        by_cases t1 : t = b
        · rw [if_pos (show 28 + t = 28 + b by omega), if_pos t1]
        · rw [if_neg (show ¬ 28 + t = 28 + b by omega), if_neg t1]
          by_cases t2 : t = a
          · rw [if_pos (show 28 + t = 28 + a by omega), if_pos t2]
          · rw [if_neg (show ¬ 28 + t = 28 + a by omega), if_neg t2]
      · intro t ht
        rw [e]
        exact b2 _ (el t ht)
      · intro i t hi ht he
        rw [e, e] at he
        have h9 := b3 _ _ (el i hi) (el t ht) he
        have hab := h.2
        by_cases i1 : i = b
        · rw [if_pos i1] at h9
          by_cases t1 : t = b
          · omega
          · rw [if_neg t1] at h9
            by_cases t2 : t = a
            · rw [if_pos t2] at h9
              omega
            · rw [if_neg t2] at h9
              omega
        · rw [if_neg i1] at h9
          by_cases i2 : i = a
          · rw [if_pos i2] at h9
            by_cases t1 : t = b
            · rw [if_pos t1] at h9
              omega
            · rw [if_neg t1] at h9
              by_cases t2 : t = a
              · omega
              · rw [if_neg t2] at h9
                omega
          · rw [if_neg i2] at h9
            by_cases t1 : t = b
            · rw [if_pos t1] at h9
              omega
            · rw [if_neg t1] at h9
              by_cases t2 : t = a
              · rw [if_pos t2] at h9
                omega
              · rw [if_neg t2] at h9
                exact h9
    · intro m' q' w' hG hx'
      rw [V_206 (by omega) (by rw [hG]; omega) (by omega) (by omega), if_pos ⟨by rw [hG]; omega, h.2⟩]
      simp only [wr, row_s, row_row, hG]
  · rw [if_neg (fun z => h ⟨z.1, fun e => z.2.1 (by rw [e])⟩)] at hT
    refine mov_no hF hT ?_
    intro m' q' w' hG hx'
    rw [V_206 (by omega) (by rw [hG]; omega) (by omega) (by omega), if_neg (by rw [hG]; omega)]
theorem M_turn (hd : 3 ≤ d) (hx : iFan x) (hF : fnR n r Q (m x) (m (x + 1)) (m (x + 2)) G) {a : Nat} (ha : a < n) : mov d n r Q C z x 46 207 [.ref x, .int (iI a)] [.ref 363, .int (iI a)] m q w G := by
  obtain ⟨f0, f2, f3, f4, f5, ⟨h7, h8, hc⟩, ⟨o, o1, o2, o3⟩, ⟨b1, b2, b3⟩, -⟩ := id hF
  have hn := f0.2.1
  have ho := pow_lt hn o2
  have hT := T_46 (q := q) (w := w) hd hx (show i32 (m x 7) by omega) f0.1 hn (show i32 (a : Int) by omega)
  simp only [Int.toNat_natCast] at hT
  obtain ⟨s, hs⟩ : ∃ s : Nat, m (x + 1) a = s := ⟨(m (x + 1) a).toNat, by have := b2 a ha; omega⟩
  have hsn : s < n := by have := b2 a ha; omega
  have hGs : G (28 + a) = s := by rw [← b1 a ha]; exact hs
  by_cases h : m x 7 = -1
  · rw [if_pos ⟨h, by omega⟩, o1, hs, flp_ok o ho s (by omega)] at hT
    refine mov_yes (G1 := row G (35 + s) (1 - G (35 + s))) hT ?_ ?_ ?_
    · intro c c0 _ _
      rw [wr_o _ _ _ _ c0]
    · rw [wr_o _ _ _ _ (by omega : x + 1 ≠ x), wr_o _ _ _ _ (by omega : x + 2 ≠ x), wr_x]
      refine fnR_6 (o1 := flp o s) hF ?_ ?_ ?_ ?_ ?_
      · intro t ht
        rw [row_o _ _ _ ht]
      · intro t ht
        rw [row_o _ _ _ (by omega)]
      · rw [row_s]
      · exact flp_lt n (by omega) o ho o2 s (by omega) hsn
      · intro t ht
        rw [flp_bt o ho s (by omega) t ht]
        have hb := bt_01 o s
        by_cases e : t = s
        · subst e
          rw [row_s, if_pos rfl, o3 t ht]
          omega
        · rw [row_o _ _ _ (by omega), if_neg e, o3 t ht]
    · intro m' q' w' hG hx'
      rw [V_207 (by omega) (by rw [hG]; omega) (by omega) (by rw [hG]; omega), if_pos (by rw [hG]; omega)]
      simp only [wr, row_s, hG, hGs, Int.toNat_natCast]
  · rw [if_neg (fun z => h z.1)] at hT
    refine mov_no hF hT ?_
    intro m' q' w' hG hx'
    rw [V_207 (by omega) (by rw [hG]; omega) (by omega) (by rw [hG]; omega), if_neg (by rw [hG]; omega)]
theorem M_paint (hd : 4 ≤ d) (hx : iFan x) (hF : fnR n r Q (m x) (m (x + 1)) (m (x + 2)) G) {a h c : Nat} (ha : a < n) (hh : h < 4) (hc : c < 16) : mov d n r Q C z x 47 210 [.ref x, .int (iI a), .int (iI h), .int (iI c)] [.ref 363, .int (iI a), .int (iI h), .int (iI c)] m q w G := by
  obtain ⟨f0, f2, f3, f4, f5, f7, -, ⟨b1, b2, b3⟩, c1, c2⟩ := id hF
  obtain ⟨o, hk, hl, hC, ho, hb⟩ := fnR_k hF
  have hn := f0.2.1
  obtain ⟨s, hs⟩ : ∃ s : Nat, m (x + 1) a = s := ⟨(m (x + 1) a).toNat, by have := b2 a ha; omega⟩
  have hsn : s < n := by have := b2 a ha; omega
  have hGs : G (28 + a) = s := by rw [← b1 a ha]; exact hs
  obtain ⟨l1, l2, l3⟩ := fnR_lm hF hb hsn hh
  have hT := T_47 (q := q) (w := w) hd hx hk hl hC (show i32 (m x 3) by omega) ha hh (show i32 (c : Int) by omega)
  rw [hs, Int.toNat_natCast, l1] at hT
  have hV : ∀ (m' : Nat → Nat → Int) (q' : Nat → Nat → Option Nat) (w' : Option (Nat → Int64)), m' 377 = G → _ := fun m' q' w' (hG : m' 377 = G) => V_210 (m := m') (q := q') (w := w') (show 3 ≤ d by omega) (show a < 7 by omega) hh (by rw [hG]; exact hGs) (show s < 7 by omega) (by rw [hG, hb s (by omega)]; have := bt_01 o s; omega) (by rw [hG]; omega) (show i32 (c : Int) by omega) (by rw [hG]; omega)
  have hbs := bt_01 o s
  have eth : th o s h = if G (35 + s) = 1 then 3 - h else h := by
    unfold th
    rw [hb s (by omega)]
    by_cases e : bt o s = 1
    · rw [if_pos e, if_pos (by omega)]
    · rw [if_neg e, if_neg (by omega)]
  have etl := th_lt (o := o) (s := s) hh
  by_cases h0 : 0 < m x 3 ∧ xm G s h ≠ c
  · rw [if_pos h0] at hT
    refine mov_yes (G1 := row (row G (4 * s + th o s h) c) 43 (G 43 - 1)) hT ?_ ?_ ?_
    · intro t t0 _ t2
      rw [wr_o _ _ _ _ t0, wr_o _ _ _ _ t2]
    · rw [wr_o _ _ _ _ (by omega : x + 1 ≠ x), wr_o _ _ _ _ (by omega : x + 1 ≠ x + 2), wr_o _ _ _ _ (by omega : x + 2 ≠ x), wr_x, wr_x, wr_o _ _ _ _ (by omega : x ≠ x + 2)]
      have hF2 : fnR n r Q (m x) (m (x + 1)) (row (m (x + 2)) (4 * s + th o s h) c) (row G (4 * s + th o s h) c) := by
        refine fnR_C hF ?_ ?_ ?_
        · intro t ht
          rw [row_o _ _ _ (by omega)]
        · intro i hi
          by_cases e : i = 4 * s + th o s h
          · rw [e, row_s]
            omega
          · rw [row_o _ _ _ e]
            exact c1 i hi
        · intro i hi
          by_cases e : i = 4 * s + th o s h
          · rw [e, row_s, row_s]
            omega
          · rw [row_o _ _ _ e, row_o _ _ _ e]
            exact c2 i hi
      refine fnR_fld hF2 ?_ ?_ ?_ ?_ ?_ ?_ ?_ ?_ ?_
      · rw [row_o _ _ _ (by decide)]
      · rw [row_o _ _ _ (by decide)]
      · rw [row_o _ _ _ (by decide), row_o _ _ _ (by decide), row_o _ _ _ (by omega)]
        exact f2
      · rw [row_s, row_s]
        omega
      · rw [row_o _ _ _ (by decide), row_o _ _ _ (by decide), row_o _ _ _ (by omega)]
        exact f4
      · rw [row_o _ _ _ (by decide), row_o _ _ _ (by decide), row_o _ _ _ (by omega)]
        exact f5
      · rw [row_o _ _ _ (by decide)]
      · rw [row_o _ _ _ (by omega), row_o _ _ _ (by omega), row_o _ _ _ (by omega), row_o _ _ _ (by omega), row_o _ _ _ (by omega), row_o _ _ _ (by omega)]
        exact f7
      · intro t ht
        rw [row_o _ _ _ (by omega)]
    · intro m' q' w' hG hx'
      rw [hV m' q' w' hG, hG, if_neg (by omega), ← eth]
  · rw [if_neg h0] at hT
    refine mov_no hF hT ?_
    intro m' q' w' hG hx'
    rw [hV m' q' w' hG, hG, if_pos (by omega)]
theorem M_oil (hd : 1 ≤ d) (hx : iFan x) (hF : fnR n r Q (m x) (m (x + 1)) (m (x + 2)) G) : mov d n r Q C z x 48 211 [.ref x] [.ref 363] m q w G := by
  obtain ⟨f0, f2, f3, f4, f5, f7, f8⟩ := id hF
  have hn := f0.2.1
  have hT := T_48 (m := m) (q := q) (w := w) hd hx (by omega)
  have e := hlf (m x 2).toNat (by omega)
  rw [Int.toNat_of_nonneg f2.2.1] at e
  by_cases h : m x 2 = 0
  · rw [if_pos h] at hT
    refine mov_no hF hT ?_
    intro m' q' w' hG hx'
    rw [V_211 (by omega) (by rw [hG]; omega), if_pos (by rw [hG]; omega)]
  · rw [if_neg h, e] at hT
    refine mov_yes (G1 := row G 42 (((m x 2).toNat / 2 : Nat) : Int)) hT ?_ ?_ ?_
    · intro c c0 _ _
      rw [wr_o _ _ _ _ c0]
    · rw [wr_o _ _ _ _ (by omega : x + 1 ≠ x), wr_o _ _ _ _ (by omega : x + 2 ≠ x), wr_x]
      refine fnR_fld hF ?_ ?_ ?_ ?_ ?_ ?_ ?_ ?_ ?_
      · simp [row]
      · simp [row]
      · have h9 : (((m x 2).toNat / 2 : Nat) : Int) ≤ m x 2 := by omega
        have h8 : (0 : Int) ≤ (((m x 2).toNat / 2 : Nat) : Int) := by omega
        rw [row_s, row_s]
        exact ⟨rfl, h8, Int.le_trans h9 f2.2.2⟩
      · simp [row]; omega
      · simp [row]; omega
      · simp [row]; omega
      · simp [row]
      · simp [row]; omega
      · intro j hj
        rw [row_o _ _ _ (by omega)]
    · intro m' q' w' hG hx'
      rw [V_211 (by omega) (by rw [hG]; omega), if_neg (by rw [hG]; omega), hG, ← f2.1, e]
      simp only [wr, hG]
/-- a season goes by -/
theorem M_pass (hd : 10 ≤ d) (hx : iFan x) (hF : fnR n r Q (m x) (m (x + 1)) (m (x + 2)) G) : ∃ (m1 : Nat → Nat → Int) (G1 : Nat → Int), ev d 49 [.ref x] (mk m q w) = vV (mk m1 q w) ∧ (∀ a, a ≠ x → m1 a = m a) ∧ fnR n r (Q + 1) (m1 x) (m1 (x + 1)) (m1 (x + 2)) G1 ∧ (m x 4 < Q → fnR n r Q (m1 x) (m1 (x + 1)) (m1 (x + 2)) G1) ∧ (∀ (m' : Nat → Nat → Int) (q' : Nat → Nat → Option Nat) (w' : Option (Nat → Int64)), m' 377 = G → ev d 212 [.ref 363] (mk m' q' w') = vV (mk (row m' 377 G1) q' w')) ∧ m1 x 0 = m x 0 ∧ (m1 x 4 = m x 4 + 1) := by
  obtain ⟨f0, f2, f3, f4, f5, f7, f8⟩ := id hF
  have hn := f0.2.1
  refine ⟨_, row (row (row G 42 (if 3 < m x 2 then m x 2 - 3 else 0)) 43 (if 97 < m x 3 then 99 else m x 3 + 2)) 47 (m x 4 + 1), T_49 hd hx (by omega) (by omega), ?_, ?_, ?_, ?_, ?_, ?_⟩
  · intro a ha
    rw [wr_o _ _ _ _ ha, wr_o _ _ _ _ ha, wr_o _ _ _ _ ha]
  · simp only [wr_o _ _ _ _ (by omega : x + 1 ≠ x), wr_o _ _ _ _ (by omega : x + 2 ≠ x), wr_x]
    refine fnR_fld hF ?_ ?_ ?_ ?_ ?_ ?_ ?_ ?_ ?_
    · simp [row]
    · simp [row]
    · simp [row]
      split <;> omega
    · simp [row]
      split <;> omega
    · simp [row]; omega
    · simp [row]; omega
    · simp [row]
    · simp [row]; omega
    · intro j hj
      rw [row_o _ _ _ (by omega), row_o _ _ _ (by omega), row_o _ _ _ (by omega)]
  · intro h4
    simp only [wr_o _ _ _ _ (by omega : x + 1 ≠ x), wr_o _ _ _ _ (by omega : x + 2 ≠ x), wr_x]
    refine fnR_fld hF ?_ ?_ ?_ ?_ ?_ ?_ ?_ ?_ ?_
    · simp [row]
    · simp [row]
    · simp [row]
      split <;> omega
    · simp [row]
      split <;> omega
    · simp [row]; omega
    · simp [row]; omega
    · simp [row]
    · simp [row]; omega
    · intro j hj
      rw [row_o _ _ _ (by omega), row_o _ _ _ (by omega), row_o _ _ _ (by omega)]
  · intro m' q' w' hG
    rw [V_212 (by omega) (by rw [hG]; omega) (by rw [hG]; omega)]
    simp only [wr, row_s, row_row, hG, ← f2.1, ← f3.1, ← f4.1]
  · simp [wr, row]
  · simp [wr, row]
/-! any step -/
def okS (n k : Nat) (a b c : Int) : Prop := (k = 0 ∧ 0 ≤ a ∧ a < 4 ∧ 1 ≤ b ∧ b ≤ 7) ∨ k = 1 ∨ (k = 2 ∧ 0 ≤ a ∧ a < n ∧ 0 ≤ b ∧ b < n) ∨ (k = 3 ∧ 0 ≤ a ∧ a < n) ∨ (k = 4 ∧ 0 ≤ a ∧ a < n ∧ 0 ≤ b ∧ b < 4 ∧ 0 ≤ c ∧ c < 16) ∨ k = 5 ∨ k = 6
theorem sim_213 (hd : 2 ≤ d) {k : Nat} {a b c e : Int} {G1 : Nat → Int} (he : e = 0 ∨ e = 1) (hk : (k = 0 ∧ jx = 204 ∧ Ax = [.ref 363, .int (iI a), .int (iI b)]) ∨ (k = 1 ∧ jx = 205 ∧ Ax = [.ref 363]) ∨ (k = 2 ∧ jx = 206 ∧ Ax = [.ref 363, .int (iI a), .int (iI b)]) ∨ (k = 3 ∧ jx = 207 ∧ Ax = [.ref 363, .int (iI a)]) ∨ (k = 4 ∧ jx = 210 ∧ Ax = [.ref 363, .int (iI a), .int (iI b), .int (iI c)]) ∨ (k = 5 ∧ jx = 211 ∧ Ax = [.ref 363])) (h : sim (d - 1) n r C z jx Ax e G G1) : sim d n r C z 213 [.ref 363, .int (iI k), .int (iI a), .int (iI b), .int (iI c)] e G G1 := by
  intro m' q' w' hG hx
  obtain ⟨m2, h1, h2, h3⟩ := h m' q' w' hG hx
  refine ⟨m2, ?_, h2, h3⟩
  have h01 : iI e = iI 0 ∨ iI e = iI 1 := by
    rcases he with rfl | rfl
    · exact Or.inl rfl
    · exact Or.inr rfl
  rw [e_213 (by omega) _ rfl rfl rfl rfl rfl, b_213_0]
  rcases hk with ⟨rfl, rfl, rfl⟩ | ⟨rfl, rfl, rfl⟩ | ⟨rfl, rfl, rfl⟩ | ⟨rfl, rfl, rfl⟩ | ⟨rfl, rfl, rfl⟩ | ⟨rfl, rfl, rfl⟩
  · rw [if_pos (show iI ((0 : Nat) : Int) = iI 0 from rfl), h1]
    simp only [rBd_v, Option.toList_some, Option.toList_none, List.cons_append, List.nil_append, List.append_nil, b_213_10 h01]
  · rw [if_neg (show ¬ iI ((1 : Nat) : Int) = iI 0 by decide), if_pos (show iI ((1 : Nat) : Int) = iI 1 from rfl), h1]
    simp only [rBd_v, Option.toList_some, Option.toList_none, List.cons_append, List.nil_append, List.append_nil, b_213_20 h01]
  · rw [if_neg (show ¬ iI ((2 : Nat) : Int) = iI 0 by decide), if_neg (show ¬ iI ((2 : Nat) : Int) = iI 1 by decide), if_pos (show iI ((2 : Nat) : Int) = iI 2 from rfl), h1]
    simp only [rBd_v, Option.toList_some, Option.toList_none, List.cons_append, List.nil_append, List.append_nil, b_213_32 h01]
  · rw [if_neg (show ¬ iI ((3 : Nat) : Int) = iI 0 by decide), if_neg (show ¬ iI ((3 : Nat) : Int) = iI 1 by decide), if_neg (show ¬ iI ((3 : Nat) : Int) = iI 2 by decide), if_pos (show iI ((3 : Nat) : Int) = iI 3 from rfl), h1]
    simp only [rBd_v, Option.toList_some, Option.toList_none, List.cons_append, List.nil_append, List.append_nil, b_213_43 h01]
  · rw [if_neg (show ¬ iI ((4 : Nat) : Int) = iI 0 by decide), if_neg (show ¬ iI ((4 : Nat) : Int) = iI 1 by decide), if_neg (show ¬ iI ((4 : Nat) : Int) = iI 2 by decide), if_neg (show ¬ iI ((4 : Nat) : Int) = iI 3 by decide), if_pos (show iI ((4 : Nat) : Int) = iI 4 from rfl), h1]
    simp only [rBd_v, Option.toList_some, Option.toList_none, List.cons_append, List.nil_append, List.append_nil, b_213_57 h01]
  · rw [if_neg (show ¬ iI ((5 : Nat) : Int) = iI 0 by decide), if_neg (show ¬ iI ((5 : Nat) : Int) = iI 1 by decide), if_neg (show ¬ iI ((5 : Nat) : Int) = iI 2 by decide), if_neg (show ¬ iI ((5 : Nat) : Int) = iI 3 by decide), if_neg (show ¬ iI ((5 : Nat) : Int) = iI 4 by decide), if_pos (show iI ((5 : Nat) : Int) = iI 5 from rfl), h1]
    simp only [rBd_v, Option.toList_some, Option.toList_none, List.cons_append, List.nil_append, List.append_nil, b_213_67 h01]
theorem M_step (hd : 14 ≤ d) (hx : iFan x) (hy : clsL m y z) (hF : fnR n r 400 (m x) (m (x + 1)) (m (x + 2)) G) {k i : Nat} (hi : i < 148) {a b c : Int} (e1 : m 105 (3 * i) = a) (e2 : m 105 (3 * i + 1) = b) (e3 : m 105 (3 * i + 2) = c) (hk : okS n k a b c) : mov d n r 400 (m (y + 1)) z x 103 213 [.ref 103, .ref x, .ref y, .ref k, .int (iI (3 * (i : Int)))] [.ref 363, .int (iI k), .int (iI a), .int (iI b), .int (iI c)] m q w G := by
  have hn := hF.1.2.1
  have t0 : (3 * (i : Int)).toNat = 3 * i := by omega
  have t1 : (3 * (i : Int) + 1).toNat = 3 * i + 1 := by omega
  have t2 : (3 * (i : Int) + 2).toNat = 3 * i + 2 := by omega
  have hk8 : k < 8 := by unfold okS at hk; omega
  have hE := e_103 (d := d) (by omega) (mk m q w) (a0 := .ref 103) (a1 := .ref x) (a2 := .ref y) (a3 := .ref k) (a4 := .int (iI (3 * (i : Int)))) rfl rfl rfl rfl rfl
  rw [b_103_0 hx hy.1 hk8 (by omega) (by omega) (by omega) (by omega) (by omega) (by omega) (by omega), t0, t1, e1, e2] at hE
  have fin : ∀ {j jx : Nat} {As Ax : List Value}, mov (d - 1) n r 400 (m (y + 1)) z x j jx As Ax m q w G → (∀ (e : Int) (m1 : Nat → Nat → Int), (e = 0 ∨ e = 1) → ev (d - 1) j As (mk m q w) = vI e (mk m1 q w) → ev d 103 [.ref 103, .ref x, .ref y, .ref k, .int (iI (3 * (i : Int)))] (mk m q w) = vI e (mk m1 q w)) →
      ((k = 0 ∧ jx = 204 ∧ Ax = [.ref 363, .int (iI a), .int (iI b)]) ∨ (k = 1 ∧ jx = 205 ∧ Ax = [.ref 363]) ∨ (k = 2 ∧ jx = 206 ∧ Ax = [.ref 363, .int (iI a), .int (iI b)]) ∨ (k = 3 ∧ jx = 207 ∧ Ax = [.ref 363, .int (iI a)]) ∨ (k = 4 ∧ jx = 210 ∧ Ax = [.ref 363, .int (iI a), .int (iI b), .int (iI c)]) ∨ (k = 5 ∧ jx = 211 ∧ Ax = [.ref 363])) →
      mov d n r 400 (m (y + 1)) z x 103 213 [.ref 103, .ref x, .ref y, .ref k, .int (iI (3 * (i : Int)))] [.ref 363, .int (iI k), .int (iI a), .int (iI b), .int (iI c)] m q w G := by
    rintro j jx As Ax ⟨e, m1, G1, h1, h2, h3, h4, h5⟩ hc hq
    exact ⟨e, m1, G1, h1, hc e m1 h1 h2, h3, h4, sim_213 (by omega) h1 hq h5⟩
  have i01 : ∀ e : Int, (e = 0 ∨ e = 1) → iI e = iI 0 ∨ iI e = iI 1 := by
    rintro e (rfl | rfl)
    · exact Or.inl rfl
    · exact Or.inr rfl
  rcases hk with ⟨rfl, a0, a4, b1, b7⟩ | rfl | ⟨rfl, a0, an, b0, bn⟩ | ⟨rfl, a0, an⟩ | ⟨rfl, a0, an, b0, b4, c0, c16⟩ | rfl | rfl
  · obtain ⟨a, rfl⟩ := Int.eq_ofNat_of_zero_le a0
    obtain ⟨b, rfl⟩ := Int.eq_ofNat_of_zero_le (show 0 ≤ b by omega)
    refine fin (M_open (show 13 ≤ d - 1 by omega) hx hy hF (v := a) (k := b) (by omega) (by omega)) ?_ (Or.inl ⟨rfl, rfl, rfl⟩)
    intro e m1 he h
    rw [hE]
    refine Eq.trans (b_103_28_0 hx hy.1) ?_
    rw [b_103_68 hx hy.1]
    rw [h]
    simp only [rBd_v, Option.toList_some, Option.toList_none, List.cons_append, List.nil_append, List.append_nil, b_103_77 (i01 e he)]
  · obtain ⟨e, m1, G1, h1, h2, h3, h4, h5, -⟩ := M_shut (m := m) (q := q) (w := w) (z := z) (C := m (y + 1)) (show 2 ≤ d - 1 by omega) hx hF
    refine fin (j := 24) (jx := 205) ⟨e, m1, G1, h1, h2, h3, h4, h5⟩ ?_ (Or.inr (Or.inl ⟨rfl, rfl, rfl⟩))
    intro e m1 he h
    rw [hE]
    refine Eq.trans (b_103_28_1 hx hy.1) ?_
    rw [b_103_78 hx, h]
    simp only [rBd_v, Option.toList_some, Option.toList_none, List.cons_append, List.nil_append, List.append_nil, b_103_82 (i01 e he)]
  · obtain ⟨a, rfl⟩ := Int.eq_ofNat_of_zero_le a0
    obtain ⟨b, rfl⟩ := Int.eq_ofNat_of_zero_le b0
    refine fin (M_swap (show 3 ≤ d - 1 by omega) hx hF (a := a) (b := b) (by omega) (by omega)) ?_ (Or.inr (Or.inr (Or.inl ⟨rfl, rfl, rfl⟩)))
    intro e m1 he h
    rw [hE]
    refine Eq.trans (b_103_28_2 hx hy.1) ?_
    rw [b_103_83 hx]
    rw [h]
    simp only [rBd_v, Option.toList_some, Option.toList_none, List.cons_append, List.nil_append, List.append_nil, b_103_91 (i01 e he)]
  · obtain ⟨a, rfl⟩ := Int.eq_ofNat_of_zero_le a0
    refine fin (M_turn (show 3 ≤ d - 1 by omega) hx hF (a := a) (by omega)) ?_ (Or.inr (Or.inr (Or.inr (Or.inl ⟨rfl, rfl, rfl⟩))))
    intro e m1 he h
    rw [hE]
    refine Eq.trans (b_103_28_3 hx hy.1) ?_
    rw [b_103_92 hx]
    rw [h]
    simp only [rBd_v, Option.toList_some, Option.toList_none, List.cons_append, List.nil_append, List.append_nil, b_103_98 (i01 e he)]
  · obtain ⟨a, rfl⟩ := Int.eq_ofNat_of_zero_le a0
    obtain ⟨b, rfl⟩ := Int.eq_ofNat_of_zero_le b0
    obtain ⟨c, rfl⟩ := Int.eq_ofNat_of_zero_le c0
    refine fin (M_paint (show 4 ≤ d - 1 by omega) hx hF (a := a) (h := b) (c := c) (by omega) (by omega) (by omega)) ?_ (Or.inr (Or.inr (Or.inr (Or.inr (Or.inl ⟨rfl, rfl, rfl⟩)))))
    intro e m1 he h
    rw [hE]
    refine Eq.trans (b_103_28_4 hx hy.1) ?_
    rw [b_103_99 hx (by omega) (by omega), t2, e3]
    rw [h]
    simp only [rBd_v, Option.toList_some, Option.toList_none, List.cons_append, List.nil_append, List.append_nil, b_103_116 (i01 e he)]
  · refine fin (M_oil (show 1 ≤ d - 1 by omega) hx hF) ?_ (Or.inr (Or.inr (Or.inr (Or.inr (Or.inr ⟨rfl, rfl, rfl⟩)))))
    intro e m1 he h
    rw [hE]
    refine Eq.trans (b_103_28_5 hx hy.1) ?_
    rw [b_103_117 hx, h]
    simp only [rBd_v, Option.toList_some, Option.toList_none, List.cons_append, List.nil_append, List.append_nil, b_103_121 (i01 e he)]
  · obtain ⟨f0, f2, f3, f4, f5, f7, f8⟩ := id hF
    have hE2 : ev d 103 [.ref 103, .ref x, .ref y, .ref 6, .int (iI (3 * (i : Int)))] (mk m q w) = rBd (ev (d - 1) 50 [.ref x] (mk m q w)) (fun v M' => gv (d - 1) rR103 126 [some (.ref 103), some (.ref x), some (.ref y), some (.ref 6), some (.int (iI (3 * (i : Int)))), some (.int (iI a)), some (.int (iI b))] (v.toList ++ []) M') := by
      rw [hE]
      refine Eq.trans (b_103_28_d (s0 := 0) hx hy.1 (by omega) (by omega)) ?_
      exact b_103_122 hx
    have h50 := T_50 (m := m) (q := q) (w := w) (show 11 ≤ d - 1 by omega) hx (by omega) (by omega) (by omega)
    by_cases h4 : m x 4 < 400
    · obtain ⟨m1, G1, p1, p2, -, p3, p4, -, -⟩ := M_pass (m := m) (q := q) (w := w) (show 10 ≤ d - 1 by omega) hx hF
      have p5 : mk m1 q w = mk (wr (wr (wr m x 2 (if 3 < m x 2 then m x 2 - 3 else 0)) x 3 (if 97 < m x 3 then 99 else m x 3 + 2)) x 4 (m x 4 + 1)) q w := by
        rw [T_49 (show 10 ≤ d - 1 by omega) hx (by omega) (by omega)] at p1
        injection p1 with p1
        injection p1 with _ p1
        injection p1 with p1 _
        exact p1.symm
      rw [if_pos h4, ← p5] at h50
      rw [h50] at hE2
      simp only [rBd_v, Option.toList_some, Option.toList_none, List.cons_append, List.nil_append, List.append_nil, b_103_126 (Or.inr rfl)] at hE2
      refine ⟨1, m1, G1, Or.inr rfl, hE2, fun t t0 _ _ _ _ _ _ => p2 t t0, p3 h4, ?_⟩
      intro m' q' w' hG hx'
      refine ⟨row m' 377 G1, ?_, row_s _ _ _, fun t h _ _ => row_o _ _ _ h⟩
      rw [e_213 (by omega) _ rfl rfl rfl rfl rfl, b_213_0, if_neg (show ¬ iI ((6 : Nat) : Int) = iI 0 by decide), if_neg (show ¬ iI ((6 : Nat) : Int) = iI 1 by decide), if_neg (show ¬ iI ((6 : Nat) : Int) = iI 2 by decide), if_neg (show ¬ iI ((6 : Nat) : Int) = iI 3 by decide), if_neg (show ¬ iI ((6 : Nat) : Int) = iI 4 by decide), if_neg (show ¬ iI ((6 : Nat) : Int) = iI 5 by decide), if_pos (by rw [hG, iI_lt (by omega) (by omega)]; omega)]
      have p6 := M_pass (m := m) (q := q) (w := w) (show 10 ≤ d - 1 by omega) hx hF
      rw [p4 m' q' w' hG]
      simp only [rBd_v, Option.toList_some, Option.toList_none, List.cons_append, List.nil_append, List.append_nil, b_213_87]
    · rw [if_neg h4] at h50
      rw [h50] at hE2
      simp only [rBd_v, Option.toList_some, Option.toList_none, List.cons_append, List.nil_append, List.append_nil, b_103_126 (Or.inl rfl)] at hE2
      refine mov_no hF hE2 ?_
      intro m' q' w' hG hx'
      rw [e_213 (by omega) _ rfl rfl rfl rfl rfl, b_213_0, if_neg (show ¬ iI ((6 : Nat) : Int) = iI 0 by decide), if_neg (show ¬ iI ((6 : Nat) : Int) = iI 1 by decide), if_neg (show ¬ iI ((6 : Nat) : Int) = iI 2 by decide), if_neg (show ¬ iI ((6 : Nat) : Int) = iI 3 by decide), if_neg (show ¬ iI ((6 : Nat) : Int) = iI 4 by decide), if_neg (show ¬ iI ((6 : Nat) : Int) = iI 5 by decide), if_neg (by rw [hG, iI_lt (by omega) (by omega)]; omega)]
end S
end
section
/-! ===== a law is read: its codes, its facts ===== -/
def lw (m : Nat → Nat → Int) (x : Nat) (C : Nat → Int) (z : Nat) : Nat → Nat → Int := row (row m (x + 1) C) x (row (m x) 3 z)
def adC (C : Nat → Int) (z : Nat) (c : Int) : Nat → Int := if z < 150 then row C z c else C
def adZ (z : Nat) : Nat := if z < 150 then z + 1 else z
theorem adZ_le {z : Nat} (h : z ≤ 150) : adZ z ≤ 150 := by
  unfold adZ
  split <;> omega
section LW
variable (m : Nat → Nat → Int) {x : Nat} (C : Nat → Int) (z : Nat)
theorem lw_o {a : Nat} (h0 : a ≠ x) (h1 : a ≠ x + 1) : lw m x C z a = m a := by
  unfold lw
  rw [row_o _ _ _ h0, row_o _ _ _ h1]
theorem lw_1 : lw m x C z (x + 1) = C := by
  unfold lw
  rw [row_o _ _ _ (by omega), row_s]
theorem lw_3 : lw m x C z x 3 = z := by
  unfold lw
  rw [row_s, row_s]
theorem lw_add {k : Nat} {c : Int} {z2 : Nat} : wr (wr (lw m x C z) (x + 1) k c) x 3 z2 = lw m x (row C k c) z2 := by
  funext a b
  unfold lw wr row
  by_cases h1 : a = x
  · subst h1
    by_cases hb : b = 3
    · simp [hb]
    · simp [hb]
  · by_cases h2 : a = x + 1
    · subst h2
      simp
    · simp [h1, h2]
theorem lw_w3 {z2 : Nat} : wr m x 3 z2 = lw m x (m (x + 1)) z2 := by
  unfold lw wr
  rw [row_self]
theorem lw_on {T : Nat → Int} {n : Nat} (hx : iLaw x) (h : onT m T n) : onT (lw m x C z) T n := by
  have := law_rng hx
  unfold lw
  exact onT_row (onT_row h (by omega) (by omega)) (by omega) (by omega)
end LW
/-- the reference's codes that are being read, and how many brackets are open -/
def lx (m : Nat → Nat → Int) (E F : Nat → Int) (k op : Nat) : Nat → Nat → Int := row (row (row m 368 E) 369 F) 363 (row (row (m 363) 23 k) 7 op)
section LX
variable (m : Nat → Nat → Int) (E F : Nat → Int) (k op : Nat)
theorem lx_o {a : Nat} (h0 : a ≠ 363) (h1 : a ≠ 368) (h2 : a ≠ 369) : lx m E F k op a = m a := by
  unfold lx
  rw [row_o _ _ _ h0, row_o _ _ _ h2, row_o _ _ _ h1]
theorem lx_b {j : Nat} (h0 : j ≠ 23) (h1 : j ≠ 7) : lx m E F k op 363 j = m 363 j := by
  unfold lx
  rw [row_s, row_o _ _ _ h1, row_o _ _ _ h0]
theorem lx_23 : lx m E F k op 363 23 = k := by
  unfold lx
  rw [row_s, row_o _ _ _ (by decide), row_s]
theorem lx_7 : lx m E F k op 363 7 = op := by
  unfold lx
  rw [row_s, row_s]
theorem lx_w7 {p : Nat} : wr (lx m E F k op) 363 7 p = lx m E F k p := by
  unfold lx wr
  rw [row_row, row_s, row_row]
theorem lx_add {e f : Int} : wr (wr (wr (lx m E F k op) 368 k e) 369 k f) 363 23 (k + 1 : Nat) = lx m (row E k e) (row F k f) (k + 1) op := by
  funext a b
  unfold lx wr row
  by_cases h1 : a = 363
  · subst h1
    by_cases hb : b = 23
    · simp [hb]
    · by_cases hc : b = 7
      · simp [hc]
      · simp [hb, hc]
  · by_cases h2 : a = 368
    · subst h2
      simp
    · by_cases h3 : a = 369
      · subst h3
        simp
      · simp [h1, h2, h3]
theorem lx_on {T : Nat → Int} {n : Nat} (h : onX m T n) : onX (lx m E F k op) T n := by
  unfold onX at *
  rw [lx_o m E F k op (by decide) (by decide) (by decide), lx_b m E F k op (by decide) (by decide)]
  exact h
end LX
def xOp (b op : Nat) (s : rd) : rd := if s.2.1 = -1 then (if op = 6 then (s.1, (s.1 : Int), 3) else (s.1 + b, s.2)) else s
/-- words by their numbers -/
def lkW (v : Int) : List (Nat × List Nat) → Option Nat
  | [] => none
  | (k, l) :: r => if v = ofL 0 l then some k else lkW v r
theorem rel_tk {T : Nat → Int} {n : Nat} (L : List (Nat × List Nat)) (hL : ∀ e ∈ L, isL e.2) : ∀ (s x : rd), gd n s → x.1 ≤ n → rel s x → s.2.1 = 0 →
    (tkS T n L s).1 = lkW (wVal T n (skip T n x.1)) L ∧ gd n (tkS T n L s).2 ∧ (tkS T n L s).2.2 = s.2 ∧
    (∀ k, (tkS T n L s).1 = some k → rel (tkS T n L s).2 (wEnd T (n - skip T n x.1) (skip T n x.1), x.2) ∧ skip T n s.1 < (tkS T n L s).2.1) ∧
    ((tkS T n L s).1 = none → L ≠ [] → (tkS T n L s).2 = (skip T n s.1, s.2)) := by
  induction L with
  | nil => intro s x hs hx h h0; exact ⟨rfl, hs, rfl, (fun k hk => nomatch hk), fun _ hn => absurd rfl hn⟩
  | cons e L ih =>
    intro s x hs hx h h0
    obtain ⟨k, l⟩ := e
    have hl := hL (k, l) List.mem_cons_self
    have hi := rel_word hs hl h h0 (T := T)
    have hp := rel_at h h0
    have hsk := skip_le T hs.1
    unfold tkS lkW
    by_cases hw : aWd T n l s
    · rw [if_pos hw, if_pos (hi.mp hw)]
      refine ⟨rfl, aTw_gd' hs, ?_, fun j _ => ⟨rel_taken hl h hw, ?_⟩, fun hn => nomatch hn⟩
      · unfold aTw
        rw [if_pos hw]
      · unfold aTw
        rw [if_pos hw]
        have h9 : 0 < l.length := List.length_pos_iff.mpr hl.1
        show skip T n s.1 < skip T n s.1 + l.length
        omega
    · rw [if_neg hw, if_neg (fun z => hw (hi.mpr z))]
      have e1 : aTw T n l s = (skip T n s.1, s.2) := by
        unfold aTw aN
        rw [if_neg hw, if_pos h0]
      have hr : rel (aTw T n l s) (skip T n x.1, x.2) := rel_left h hw
      obtain ⟨i1, i2, i3, i4, i5⟩ := ih (fun e he => hL e (List.mem_cons_of_mem _ he)) (aTw T n l s) (skip T n x.1, x.2) (aTw_gd' hs) (skip_le T hx).2 hr (by rw [e1]; exact h0)
      have e2 : skip T n (skip T n x.1) = skip T n x.1 := skip_fix T hx
      have e3 : skip T n (skip T n s.1) = skip T n s.1 := skip_fix T hs.1
      refine ⟨?_, i2, ?_, fun j hj => ?_, fun hn hne => ?_⟩
      · rw [i1]
        show lkW (wVal T n (skip T n (skip T n x.1))) L = _
        rw [e2]
      · rw [i3, e1]
      · have := i4 j hj
        rw [e1] at this ⊢
        rw [show skip T n ((skip T n x.1, x.2) : rd).1 = skip T n x.1 from e2] at this
        rw [show skip T n ((skip T n s.1, s.2) : rd).1 = skip T n s.1 from e3] at this
        exact this
      · cases L with
        | nil =>
          rw [e1]
          rfl
        | cons a L2 =>
          rw [i5 hn (fun z => nomatch z), e1]
          show (skip T n (skip T n s.1), s.2) = _
          rw [e3]
def fcL : List (Nat × List Nat) := [(0, W30), (1, W33), (2, W32), (3, W16), (4, W29), (5, W20), (6, W23)]
theorem fcL_l : ∀ e ∈ fcL, isL e.2 := by
  intro e he
  rcases List.mem_cons.mp he with rfl | he
  · exact W30_l
  rcases List.mem_cons.mp he with rfl | he
  · exact W33_l
  rcases List.mem_cons.mp he with rfl | he
  · exact W32_l
  rcases List.mem_cons.mp he with rfl | he
  · exact W16_l
  rcases List.mem_cons.mp he with rfl | he
  · exact W29_l
  rcases List.mem_cons.mp he with rfl | he
  · exact W20_l
  rcases List.mem_cons.mp he with rfl | he
  · exact W23_l
  · exact absurd he List.not_mem_nil
theorem stL_l : ∀ e ∈ stL, isL e.2 := by
  intro e he
  rcases List.mem_cons.mp he with rfl | he
  · exact W15_l
  rcases List.mem_cons.mp he with rfl | he
  · exact W24_l
  rcases List.mem_cons.mp he with rfl | he
  · exact W26_l
  rcases List.mem_cons.mp he with rfl | he
  · exact W28_l
  rcases List.mem_cons.mp he with rfl | he
  · exact W18_l
  rcases List.mem_cons.mp he with rfl | he
  · exact W14_l
  rcases List.mem_cons.mp he with rfl | he
  · exact W23_l
  rcases List.mem_cons.mp he with rfl | he
  · exact W11_l
  · exact absurd he List.not_mem_nil
theorem tk_lt {T : Nat → Int} {n b : Nat} : ∀ (L : List (Nat × List Nat)), (∀ e ∈ L, e.1 < b) → ∀ (s : rd) (k : Nat), (tkS T n L s).1 = some k → k < b := by
  intro L
  induction L with
  | nil => intro _ s k h; cases h
  | cons e L ih =>
    intro h s k hk
    obtain ⟨j, l⟩ := e
    unfold tkS at hk
    by_cases hw : aWd T n l s
    · rw [if_pos hw] at hk
      cases hk
      exact h (_, l) List.mem_cons_self
    · rw [if_neg hw] at hk
      exact ih (fun e he => h e (List.mem_cons_of_mem _ he)) _ k hk
section S
variable {d n : Nat} {m : Nat → Nat → Int} {q : Nat → Nat → Option Nat} {w : Option (Nat → Int64)} {T : Nat → Int} {s : rd} {x z : Nat} {C : Nat → Int}
theorem T_65 (hd : 1 ≤ d) (hx : iLaw x) (hz : z ≤ 150) {c : Int} : ev d 65 [.ref x, .int (iI c)] (mk (tr (lw m x C z) s) q w) = vV (mk (tr (lw m x (adC C z c) (adZ z)) s) q w) := by
  have hl := law_rng hx
  have e3 : tr (lw m x C z) s x 3 = z := by rw [tr_o (by omega), lw_3]
  rw [e_65 hd _ rfl rfl, b_65_0 hx]
  simp only [e3, iI_lt (by omega : i32 (z : Int)) (by omega : i32 ((150 : Nat) : Int)), b_65_32]
  unfold adC adZ
  by_cases h : z < 150
  · rw [if_pos (by omega), if_pos h, if_pos h, b_65_12 hx (by rw [e3]; omega) (by rw [e3]; omega), b_65_32]
    simp only [e3, Int.toNat_natCast, wr_o _ _ _ _ (show x ≠ x + 1 by omega), tr_wo (m := lw m x C z) (show x + 1 ≠ 101 by omega)]
    rw [tr_wo (by omega), show (z : Int) + 1 = ((z + 1 : Nat) : Int) from rfl, lw_add]
  · rw [if_neg (by omega), if_neg h, if_neg h]

/-- a fact's word is looked for: the class -/
theorem R_66 (hd : 10 ≤ d) (hx : iLaw x) (h : onT m T n) {v2 : Int} {u3 : Option Value} (hs : gd n s) : gv d rR66 0 [some (.ref x), some (.ref 101), some (.int (iI v2)), u3] [] (mk (tr m s) q w) =
    gv d rR66 93 [some (.ref x), some (.ref 101), some (.int (iI v2)), u3] [.int (iI (match (tkS T n fcL s).1 with | some k => (k : Int) | none => -1))] (mk (tr m (tkS T n fcL s).2) q w) := by
  have r7 : ∀ s : rd, gd n s → gv d rR66 93 [some (.ref x), some (.ref 101), some (.int (iI v2)), u3] [.int (iI (-1))] (mk (tr m s) q w) = gv d rR66 93 [some (.ref x), some (.ref 101), some (.int (iI v2)), u3] [.int (iI (match (tkS T n [] s).1 with | some k => (k : Int) | none => -1))] (mk (tr m (tkS T n [] s).2) q w) := fun s _ => rfl
  have r6 : ∀ s : rd, gd n s → rBd (ev d 27 [.ref 101, .ref 23] (mk (tr m s) q w)) (fun v M' => gv d rR66 84 [some (.ref x), some (.ref 101), some (.int (iI v2)), u3] (v.toList ++ []) M') = gv d rR66 93 [some (.ref x), some (.ref 101), some (.int (iI v2)), u3] [.int (iI (match (tkS T n [(6, W23)] s).1 with | some k => (k : Int) | none => -1))] (mk (tr m (tkS T n [(6, W23)] s).2) q w) := by
    intro s hs
    rw [U_27 hd h hs W23_t]
    simp only [rBd_v, Option.toList_some, Option.toList_none, List.cons_append, List.nil_append, List.append_nil, b_66_84 hx, zb_0]
    unfold tkS
    by_cases hw : aWd T n W23 s
    · rw [if_neg (not_not_intro hw), if_pos hw]
      rfl
    · rw [if_pos hw, if_neg hw]
      exact r7 _ (aTw_gd' (l := W23) (T := T) hs)
  have r5 : ∀ s : rd, gd n s → rBd (ev d 27 [.ref 101, .ref 20] (mk (tr m s) q w)) (fun v M' => gv d rR66 71 [some (.ref x), some (.ref 101), some (.int (iI v2)), u3] (v.toList ++ []) M') = gv d rR66 93 [some (.ref x), some (.ref 101), some (.int (iI v2)), u3] [.int (iI (match (tkS T n [(5, W20), (6, W23)] s).1 with | some k => (k : Int) | none => -1))] (mk (tr m (tkS T n [(5, W20), (6, W23)] s).2) q w) := by
    intro s hs
    rw [U_27 hd h hs W20_t]
    simp only [rBd_v, Option.toList_some, Option.toList_none, List.cons_append, List.nil_append, List.append_nil, b_66_71 hx, zb_0]
    unfold tkS
    by_cases hw : aWd T n W20 s
    · rw [if_neg (not_not_intro hw), if_pos hw]
      rfl
    · rw [if_pos hw, if_neg hw]
      have h9 := r6 _ (aTw_gd' (l := W20) (T := T) hs)
      simp only [List.append_nil] at h9
      exact h9
  have r4 : ∀ s : rd, gd n s → rBd (ev d 27 [.ref 101, .ref 29] (mk (tr m s) q w)) (fun v M' => gv d rR66 58 [some (.ref x), some (.ref 101), some (.int (iI v2)), u3] (v.toList ++ []) M') = gv d rR66 93 [some (.ref x), some (.ref 101), some (.int (iI v2)), u3] [.int (iI (match (tkS T n [(4, W29), (5, W20), (6, W23)] s).1 with | some k => (k : Int) | none => -1))] (mk (tr m (tkS T n [(4, W29), (5, W20), (6, W23)] s).2) q w) := by
    intro s hs
    rw [U_27 hd h hs W29_t]
    simp only [rBd_v, Option.toList_some, Option.toList_none, List.cons_append, List.nil_append, List.append_nil, b_66_58 hx, zb_0]
    unfold tkS
    by_cases hw : aWd T n W29 s
    · rw [if_neg (not_not_intro hw), if_pos hw]
      rfl
    · rw [if_pos hw, if_neg hw]
      have h9 := r5 _ (aTw_gd' (l := W29) (T := T) hs)
      simp only [List.append_nil] at h9
      exact h9
  have r3 : ∀ s : rd, gd n s → rBd (ev d 27 [.ref 101, .ref 16] (mk (tr m s) q w)) (fun v M' => gv d rR66 45 [some (.ref x), some (.ref 101), some (.int (iI v2)), u3] (v.toList ++ []) M') = gv d rR66 93 [some (.ref x), some (.ref 101), some (.int (iI v2)), u3] [.int (iI (match (tkS T n [(3, W16), (4, W29), (5, W20), (6, W23)] s).1 with | some k => (k : Int) | none => -1))] (mk (tr m (tkS T n [(3, W16), (4, W29), (5, W20), (6, W23)] s).2) q w) := by
    intro s hs
    rw [U_27 hd h hs W16_t]
    simp only [rBd_v, Option.toList_some, Option.toList_none, List.cons_append, List.nil_append, List.append_nil, b_66_45 hx, zb_0]
    unfold tkS
    by_cases hw : aWd T n W16 s
    · rw [if_neg (not_not_intro hw), if_pos hw]
      rfl
    · rw [if_pos hw, if_neg hw]
      have h9 := r4 _ (aTw_gd' (l := W16) (T := T) hs)
      simp only [List.append_nil] at h9
      exact h9
  have r2 : ∀ s : rd, gd n s → rBd (ev d 27 [.ref 101, .ref 32] (mk (tr m s) q w)) (fun v M' => gv d rR66 32 [some (.ref x), some (.ref 101), some (.int (iI v2)), u3] (v.toList ++ []) M') = gv d rR66 93 [some (.ref x), some (.ref 101), some (.int (iI v2)), u3] [.int (iI (match (tkS T n [(2, W32), (3, W16), (4, W29), (5, W20), (6, W23)] s).1 with | some k => (k : Int) | none => -1))] (mk (tr m (tkS T n [(2, W32), (3, W16), (4, W29), (5, W20), (6, W23)] s).2) q w) := by
    intro s hs
    rw [U_27 hd h hs W32_t]
    simp only [rBd_v, Option.toList_some, Option.toList_none, List.cons_append, List.nil_append, List.append_nil, b_66_32 hx, zb_0]
    unfold tkS
    by_cases hw : aWd T n W32 s
    · rw [if_neg (not_not_intro hw), if_pos hw]
      rfl
    · rw [if_pos hw, if_neg hw]
      have h9 := r3 _ (aTw_gd' (l := W32) (T := T) hs)
      simp only [List.append_nil] at h9
      exact h9
  have r1 : ∀ s : rd, gd n s → rBd (ev d 27 [.ref 101, .ref 33] (mk (tr m s) q w)) (fun v M' => gv d rR66 19 [some (.ref x), some (.ref 101), some (.int (iI v2)), u3] (v.toList ++ []) M') = gv d rR66 93 [some (.ref x), some (.ref 101), some (.int (iI v2)), u3] [.int (iI (match (tkS T n [(1, W33), (2, W32), (3, W16), (4, W29), (5, W20), (6, W23)] s).1 with | some k => (k : Int) | none => -1))] (mk (tr m (tkS T n [(1, W33), (2, W32), (3, W16), (4, W29), (5, W20), (6, W23)] s).2) q w) := by
    intro s hs
    rw [U_27 hd h hs W33_t]
    simp only [rBd_v, Option.toList_some, Option.toList_none, List.cons_append, List.nil_append, List.append_nil, b_66_19 hx, zb_0]
    unfold tkS
    by_cases hw : aWd T n W33 s
    · rw [if_neg (not_not_intro hw), if_pos hw]
      rfl
    · rw [if_pos hw, if_neg hw]
      have h9 := r2 _ (aTw_gd' (l := W33) (T := T) hs)
      simp only [List.append_nil] at h9
      exact h9
  have r0 : ∀ s : rd, gd n s → rBd (ev d 27 [.ref 101, .ref 30] (mk (tr m s) q w)) (fun v M' => gv d rR66 6 [some (.ref x), some (.ref 101), some (.int (iI v2)), u3] (v.toList ++ []) M') = gv d rR66 93 [some (.ref x), some (.ref 101), some (.int (iI v2)), u3] [.int (iI (match (tkS T n [(0, W30), (1, W33), (2, W32), (3, W16), (4, W29), (5, W20), (6, W23)] s).1 with | some k => (k : Int) | none => -1))] (mk (tr m (tkS T n [(0, W30), (1, W33), (2, W32), (3, W16), (4, W29), (5, W20), (6, W23)] s).2) q w) := by
    intro s hs
    rw [U_27 hd h hs W30_t]
    simp only [rBd_v, Option.toList_some, Option.toList_none, List.cons_append, List.nil_append, List.append_nil, b_66_6 hx, zb_0]
    unfold tkS
    by_cases hw : aWd T n W30 s
    · rw [if_neg (not_not_intro hw), if_pos hw]
      rfl
    · rw [if_pos hw, if_neg hw]
      have h9 := r1 _ (aTw_gd' (l := W30) (T := T) hs)
      simp only [List.append_nil] at h9
      exact h9
  rw [b_66_0 hx]
  exact r0 s hs
theorem T_66 (hd : 11 ≤ d) (hx : iLaw x) (h : onT m T n) (hs : gd n s) (hz : z ≤ 150) {p : Nat} : ev d 66 [.ref x, .ref 101, .int (iI p)] (mk (tr (lw m x C z) s) q w) = match (tkS T n fcL s).1 with
    | some k => vV (mk (tr (lw m x (adC C z (-1 - (k : Int))) (adZ z)) (tkS T n fcL s).2) q w)
    | none => vV (mk (tr (lw m x C z) (aBl 1 p (tkS T n fcL s).2)) q w) := by
  have hg : ∀ (L : List (Nat × List Nat)) (s : rd), gd n s → gd n (tkS T n L s).2 := by
    intro L
    induction L with
    | nil => intro s hs; exact hs
    | cons e L ih =>
      intro s hs
      obtain ⟨k, l⟩ := e
      unfold tkS
      split
      · exact aTw_gd' hs
      · exact ih _ (aTw_gd' hs)
  have hlt := tk_lt (T := T) (n := n) (b := 7) fcL (by decide) s
  rw [e_66 (by omega) _ rfl rfl rfl, R_66 (show 10 ≤ d - 1 by omega) hx (lw_on m C z hx h) hs]
  have h2 := hg fcL s hs
  generalize hr : tkS T n fcL s = r at *
  obtain ⟨o, s2⟩ := r
  cases o with
  | none =>
    dsimp only at h2 ⊢
    rw [b_66_93 hx, if_pos rfl, U_5 (show 1 ≤ d - 1 by omega) h2]
    simp only [rBd_v, Option.toList_some, Option.toList_none, List.cons_append, List.nil_append, List.append_nil, b_66_105, b_66_115]
  | some k =>
    have hk := hlt k rfl
    dsimp only at h2 ⊢
    rw [b_66_93 hx, if_neg (by rw [iI_eq (by omega) (by omega)]; omega), T_65 (show 1 ≤ d - 1 by omega) hx hz]
    simp only [rBd_v, Option.toList_some, Option.toList_none, List.cons_append, List.nil_append, List.append_nil, b_66_115]
/-! the reference -/
variable {E F : Nat → Int} {k op : Nat}
theorem V_184 (hd : 2 ≤ d) (hs : gx n s) (hk : s.2.1 = -1 → k < 150) {e f : Int} : ev d 184 [.ref 363, .int (iI e), .int (iI f)] (mk (mr (lx m E F k op) s) q w) = if s.2.1 = -1 then vV (mk (mr (lx m (row E k e) (row F k f) (k + 1) op) s) q w) else vV (mk (mr (lx m E F k op) s) q w) := by
  have e23 : mr (lx m E F k op) s 363 23 = k := by rw [mr_b _ _ (by decide) (by decide) (by decide), lx_23]
  rw [e_184 (by omega) _ rfl rfl rfl]
  simp only [b_184_0, V_167 (m := lx m E F k op) (show 1 ≤ d - 1 by omega) hs, rBd_v, Option.toList_some, Option.toList_none, List.cons_append, List.nil_append, List.append_nil, b_184_4, zb_0]
  by_cases h0 : s.2.1 = -1
  · have := hk h0
    rw [if_neg (not_not_intro h0), if_pos h0, b_184_8 (by rw [e23]; omega) (by rw [e23]; omega) (by rw [wr_o _ _ _ _ (by decide), e23]; omega) (by rw [wr_o _ _ _ _ (by decide), e23]; omega)]
    simp only [wr_o _ _ _ _ (show 363 ≠ 368 by decide), wr_o _ _ _ _ (show 363 ≠ 369 by decide), e23, Int.toNat_natCast]
    rw [mr_wo (by decide), mr_wo (by decide), mr_wi (by decide) (by decide) (by decide), show (k : Int) + 1 = ((k + 1 : Nat) : Int) from rfl, lx_add]
  · rw [if_pos h0, if_neg h0]
theorem V_185 (hd : 2 ≤ d) (hs : gx n s) (hn : n ≤ 600) (hop : op ≤ 6) {b : Nat} (hb : b ≤ 5) : ev d 185 [.ref 363, .int (iI b)] (mk (mr (lx m E F k op) s) q w) = vV (mk (mr (lx m E F k (op + 1)) (xOp b op s)) q w) := by
  have e7 : ∀ s : rd, mr (lx m E F k op) s 363 7 = op := fun s => by rw [mr_b _ _ (by decide) (by decide) (by decide), lx_7]
  have hE : ∀ s : rd, gv (d - 1) rR185 42 [some (.ref 363), some (.int (iI b))] [] (mk (mr (lx m E F k op) s) q w) = vV (mk (mr (lx m E F k (op + 1)) s) q w) := by
    intro s
    rw [b_185_42, e7, mr_wi (by decide) (by decide) (by decide), show (op : Int) + 1 = ((op + 1 : Nat) : Int) from rfl, lx_w7]
  rw [e_185 (by omega) _ rfl rfl]
  simp only [b_185_0, V_167 (m := lx m E F k op) (show 1 ≤ d - 1 by omega) hs, rBd_v, Option.toList_some, Option.toList_none, List.cons_append, List.nil_append, List.append_nil, b_185_4, zb_0, e7, iI_eq (by omega : i32 (op : Int)) (by omega : i32 6), mr_4]
  unfold xOp
  by_cases h0 : s.2.1 = -1
  · rw [if_neg (not_not_intro h0), if_pos h0]
    by_cases h6 : op = 6
    · rw [if_pos (by omega), if_pos h6, V_168 (show 1 ≤ d - 1 by omega) hs]
      have e9 : xWr 3 s.1 s = (s.1, (s.1 : Int), 3) := by
        unfold xWr
        rw [if_pos h0]
      have hs9 : gx n (s.1, (s.1 : Int), 3) := ⟨hs.1, by have := hs.1; show i32 (s.1 : Int); omega⟩
      rw [e9]
      simp only [rBd_v, Option.toList_some, Option.toList_none, List.cons_append, List.nil_append, List.append_nil, b_185_25, V_167 (m := lx m E F k op) (show 1 ≤ d - 1 by omega) hs9, b_185_29, zb_0]
      rw [if_pos (by show ¬ (s.1 : Int) = -1; omega), hE]
    · rw [if_neg (by omega), if_neg h6]
      simp only [rBd_v, Option.toList_some, Option.toList_none, List.cons_append, List.nil_append, List.append_nil, b_185_25, V_167 (m := lx m E F k op) (show 1 ≤ d - 1 by omega) hs, b_185_29, zb_0, mr_4]
      rw [if_neg (not_not_intro h0), show (s.1 : Int) + (b : Int) = ((s.1 + b : Nat) : Int) from rfl, mr_w4, hE]
  · rw [if_pos h0, if_neg h0]
    simp only [b_185_25, V_167 (m := lx m E F k op) (show 1 ≤ d - 1 by omega) hs, rBd_v, Option.toList_some, Option.toList_none, List.cons_append, List.nil_append, List.append_nil, b_185_29, zb_0]
    rw [if_pos h0, hE]

theorem R_186 (hd : 10 ≤ d) {v : Int} (hv : i32 v) {u0 : Option Value} : rBd (ev d 173 [.ref 30] (mk m q w)) (fun u M' => gv d rR186 11 [u0, some (.int (iI v))] (u.toList ++ [.int (iI v)]) M') = vI (match lkW v fcL with | some k => (k : Int) | none => -1) (mk m q w) := by
  have r6 : rBd (ev d 173 [.ref 23] (mk m q w)) (fun u M' => gv d rR186 92 [u0, some (.int (iI v))] (u.toList ++ [.int (iI v)]) M') = vI (match lkW v [(6, W23)] with | some k => (k : Int) | none => -1) (mk m q w) := by
    rw [V_173 hd W23_t]
    simp only [rBd_v, Option.toList_some, Option.toList_none, List.cons_append, List.nil_append, List.append_nil, b_186_92, iI_eq hv (ofL_i W23_l), b_186_101]
    unfold lkW
    by_cases hw : v = ofL 0 W23
    · rw [if_pos hw, if_pos hw]
      rfl
    · rw [if_neg hw, if_neg hw]
      rfl
  have r5 : rBd (ev d 173 [.ref 20] (mk m q w)) (fun u M' => gv d rR186 78 [u0, some (.int (iI v))] (u.toList ++ [.int (iI v)]) M') = vI (match lkW v [(5, W20), (6, W23)] with | some k => (k : Int) | none => -1) (mk m q w) := by
    rw [V_173 hd W20_t]
    simp only [rBd_v, Option.toList_some, Option.toList_none, List.cons_append, List.nil_append, List.append_nil, b_186_78, iI_eq hv (ofL_i W20_l), b_186_101]
    unfold lkW
    by_cases hw : v = ofL 0 W20
    · rw [if_pos hw, if_pos hw]
      rfl
    · rw [if_neg hw, if_neg hw]
      have h9 := r6
      exact h9
  have r4 : rBd (ev d 173 [.ref 29] (mk m q w)) (fun u M' => gv d rR186 64 [u0, some (.int (iI v))] (u.toList ++ [.int (iI v)]) M') = vI (match lkW v [(4, W29), (5, W20), (6, W23)] with | some k => (k : Int) | none => -1) (mk m q w) := by
    rw [V_173 hd W29_t]
    simp only [rBd_v, Option.toList_some, Option.toList_none, List.cons_append, List.nil_append, List.append_nil, b_186_64, iI_eq hv (ofL_i W29_l), b_186_101]
    unfold lkW
    by_cases hw : v = ofL 0 W29
    · rw [if_pos hw, if_pos hw]
      rfl
    · rw [if_neg hw, if_neg hw]
      have h9 := r5
      exact h9
  have r3 : rBd (ev d 173 [.ref 16] (mk m q w)) (fun u M' => gv d rR186 50 [u0, some (.int (iI v))] (u.toList ++ [.int (iI v)]) M') = vI (match lkW v [(3, W16), (4, W29), (5, W20), (6, W23)] with | some k => (k : Int) | none => -1) (mk m q w) := by
    rw [V_173 hd W16_t]
    simp only [rBd_v, Option.toList_some, Option.toList_none, List.cons_append, List.nil_append, List.append_nil, b_186_50, iI_eq hv (ofL_i W16_l), b_186_101]
    unfold lkW
    by_cases hw : v = ofL 0 W16
    · rw [if_pos hw, if_pos hw]
      rfl
    · rw [if_neg hw, if_neg hw]
      have h9 := r4
      exact h9
  have r2 : rBd (ev d 173 [.ref 32] (mk m q w)) (fun u M' => gv d rR186 37 [u0, some (.int (iI v))] (u.toList ++ [.int (iI v)]) M') = vI (match lkW v [(2, W32), (3, W16), (4, W29), (5, W20), (6, W23)] with | some k => (k : Int) | none => -1) (mk m q w) := by
    rw [V_173 hd W32_t]
    simp only [rBd_v, Option.toList_some, Option.toList_none, List.cons_append, List.nil_append, List.append_nil, b_186_37, iI_eq hv (ofL_i W32_l), b_186_101]
    unfold lkW
    by_cases hw : v = ofL 0 W32
    · rw [if_pos hw, if_pos hw]
      rfl
    · rw [if_neg hw, if_neg hw]
      have h9 := r3
      exact h9
  have r1 : rBd (ev d 173 [.ref 33] (mk m q w)) (fun u M' => gv d rR186 24 [u0, some (.int (iI v))] (u.toList ++ [.int (iI v)]) M') = vI (match lkW v [(1, W33), (2, W32), (3, W16), (4, W29), (5, W20), (6, W23)] with | some k => (k : Int) | none => -1) (mk m q w) := by
    rw [V_173 hd W33_t]
    simp only [rBd_v, Option.toList_some, Option.toList_none, List.cons_append, List.nil_append, List.append_nil, b_186_24, iI_eq hv (ofL_i W33_l), b_186_101]
    unfold lkW
    by_cases hw : v = ofL 0 W33
    · rw [if_pos hw, if_pos hw]
      rfl
    · rw [if_neg hw, if_neg hw]
      have h9 := r2
      exact h9
  have r0 : rBd (ev d 173 [.ref 30] (mk m q w)) (fun u M' => gv d rR186 11 [u0, some (.int (iI v))] (u.toList ++ [.int (iI v)]) M') = vI (match lkW v [(0, W30), (1, W33), (2, W32), (3, W16), (4, W29), (5, W20), (6, W23)] with | some k => (k : Int) | none => -1) (mk m q w) := by
    rw [V_173 hd W30_t]
    simp only [rBd_v, Option.toList_some, Option.toList_none, List.cons_append, List.nil_append, List.append_nil, b_186_11, iI_eq hv (ofL_i W30_l), b_186_101]
    unfold lkW
    by_cases hw : v = ofL 0 W30
    · rw [if_pos hw, if_pos hw]
      rfl
    · rw [if_neg hw, if_neg hw]
      have h9 := r1
      exact h9
  exact r0
theorem V_186 (hd : 11 ≤ d) (h : onX m T n) (hs : gx n s) : ev d 186 [.ref 363] (mk (mr m s) q w) = vI (match lkW (wVal T n (skip T n s.1)) fcL with | some k => (k : Int) | none => -1) (mk (mr m (skip T n s.1, s.2)) q w) := by
  rw [e_186 (by omega) _ rfl, b_186_0, V_172 (show 2 ≤ d - 1 by omega) h hs]
  simp only [rBd_v, Option.toList_some, Option.toList_none, List.cons_append, List.nil_append, List.append_nil, b_186_4]
  have := R_186 (m := mr m (skip T n s.1, s.2)) (q := q) (w := w) (show 10 ≤ d - 1 by omega) (word_i (T := T) (n := n) (p := skip T n s.1)) (u0 := some (.ref 363))
  exact this
end S
end
section
/-! ===== a law is read by both: behind a fault ===== -/
section F
variable {T : Nat → Int} {n : Nat} {s x : rd}
theorem f_aN (h : s.2.1 ≠ 0) : aN T n s = s := if_neg h
theorem f_aTk (h : s.2.1 ≠ 0) {c : Int} : aTk T n c s = s := by
  unfold aTk
  rw [if_neg (fun z => h z.1), f_aN h]
theorem f_aTw (h : s.2.1 ≠ 0) {l : List Nat} : aTw T n l s = s := by
  unfold aTw
  rw [if_neg (fun z => h z.1), f_aN h]
theorem f_aBl (h : s.2.1 ≠ 0) {kd : Int} {z : Nat} : aBl kd z s = s := if_neg h
theorem f_aEx (h : s.2.1 ≠ 0) {c : Int} : aEx T n c s = s := by
  unfold aEx
  rw [if_neg (fun z => h z.1), f_aTk h, f_aBl h]
theorem f_tk (h : s.2.1 ≠ 0) : ∀ L : List (Nat × List Nat), tkS T n L s = (none, s) := by
  intro L
  induction L with
  | nil => rfl
  | cons e L ih =>
    obtain ⟨k, l⟩ := e
    unfold tkS
    rw [if_neg (fun z => h z.1), f_aTw h, ih]
theorem f_aNum (h : s.2.1 ≠ 0) {lo hi : Int} : aNum T n lo hi s = (lo, s) := if_neg h
theorem f_xSg (h : s.2.1 ≠ -1) {c : Int} : xSg T n c s = s := if_neg h
theorem f_xOp (h : s.2.1 ≠ -1) {b op : Nat} : xOp b op s = s := if_neg h
theorem f_xWr (h : s.2.1 ≠ -1) {kd : Int} {z : Nat} : xWr kd z s = s := if_neg h
theorem f_xNum (h : s.2.1 ≠ -1) {lo hi : Int} : xNum T n lo hi s = (0, s) := if_neg h
theorem rel_f {s' x' : rd} (h : rel s x) (h0 : s.2.1 ≠ 0) (h1 : s'.2 = s.2) (h2 : x'.2 = x.2) : rel s' x' := by
  rcases h with ⟨h3, -, -⟩ | h3
  · exact absurd h3 h0
  · unfold rel
    rw [h1, h2]
    exact Or.inr h3
theorem rel_nf (h : rel s x) (h0 : s.2.1 ≠ 0) : x.2.1 ≠ -1 := fun z => h0 ((rel_fine h).mpr z)
theorem aN_fix (h0 : s.2.1 = 0) (hk : skip T n s.1 = s.1) : aN T n s = s := by
  unfold aN
  rw [if_pos h0, hk]
theorem num_gt {lo hi : Int} (h0 : s.2.1 = 0) (h : (aNum T n lo hi s).2.2.1 = 0) : skip T n s.1 < (aNum T n lo hi s).2.1 := by
  have h2 := (dig_le T (n - skip T n s.1) (skip T n s.1) 0 (by omega) (by omega)).1
  unfold aNum at h ⊢
  rw [if_pos h0] at h ⊢
  dsimp only at h ⊢
  by_cases h3 : (dig T (n - skip T n s.1) (skip T n s.1) 0).2 = skip T n s.1
  · rw [if_pos h3] at h
    unfold aBl at h
    rw [if_pos h0] at h
    exact absurd h (by show ¬ (1 : Int) = 0; decide)
  · rw [if_neg h3] at h ⊢
    split at h
    next h4 =>
      rw [if_pos h4]
      show _ < (dig _ _ _ _).2
      omega
    next h4 =>
      unfold aBl at h
      rw [if_pos h0] at h
      exact absurd h (by show ¬ (2 : Int) = 0; decide)
theorem xSg_gx {c : Int} (hc : 0 < c) (hn : n ≤ 600) (h : gx n s) : gx n (xSg T n c s) := by
  have hk := skip_le T h.1
  unfold xSg
  by_cases h0 : s.2.1 = -1
  · rw [if_pos h0]
    split
    next h1 =>
      refine ⟨?_, h.2⟩
      show skip T n s.1 + 1 ≤ n
      unfold hv at h1
      by_cases h2 : skip T n s.1 < n
      · exact h2
      · rw [if_neg h2] at h1
        omega
    next => exact ⟨hk.2, by show i32 ((skip T n s.1 : Nat) : Int); omega⟩
  · rw [if_neg h0]
    exact h
end F
section S
variable {d n : Nat} {m : Nat → Nat → Int} {q : Nat → Nat → Option Nat} {w : Option (Nat → Int64)} {T : Nat → Int} {s xs : rd} {x z op k : Nat} {C E F : Nat → Int}
theorem F_71 (hd : 12 ≤ d) (hx : iLaw x) (h : onT m T n) (hs : gd n s) (h0 : s.2.1 ≠ 0) (hz : z ≤ 150) {o : Int} : ev d 71 [.ref x, .ref 101, .int (iI o)] (mk (tr (lw m x C z) s) q w) = vV (mk (tr (lw m x C z) (skip T n s.1, s.2)) q w) := by
  have hO := lw_on m C z hx h
  obtain ⟨s1, e1⟩ : ∃ s1 : rd, s1 = (skip T n s.1, s.2) := ⟨_, rfl⟩
  have hs1 : gd n s1 := by rw [e1]; exact ⟨(skip_le T hs.1).2, hs.2⟩
  have h1 : s1.2.1 ≠ 0 := by rw [e1]; exact h0
  rw [e_71 (by omega) _ rfl rfl rfl, b_71_0 hx, U_2 (show 1 ≤ d - 1 by omega) hO hs, ← e1]
  simp only [rBd_v, Option.toList_some, Option.toList_none, List.cons_append, List.nil_append, List.append_nil, b_71_4 hx]
  rw [U_4 (show 2 ≤ d - 1 by omega) hO hs1, f_aN h1]
  simp only [rBd_v, Option.toList_some, Option.toList_none, List.cons_append, List.nil_append, List.append_nil, b_71_9 hx, zb_0]
  rw [if_pos (fun z => h1 z.1), U_8 (show 2 ≤ d - 1 by omega) hO hs1 (by omega), f_aTk h1]
  simp only [rBd_v, Option.toList_some, Option.toList_none, List.cons_append, List.nil_append, List.append_nil, b_71_33 hx, zb_0]
  rw [if_pos (fun z => h1 z.1), U_27 (show 10 ≤ d - 1 by omega) hO hs1 W12_t, f_aTw h1]
  simp only [rBd_v, Option.toList_some, Option.toList_none, List.cons_append, List.nil_append, List.append_nil, b_71_52 hx, zb_0]
  rw [if_pos (fun z => h1 z.1), U_27 (show 10 ≤ d - 1 by omega) hO hs1 W13_t, f_aTw h1]
  simp only [rBd_v, Option.toList_some, Option.toList_none, List.cons_append, List.nil_append, List.append_nil, b_71_73 hx, zb_0]
  rw [if_pos (fun z => h1 z.1), T_66 (show 11 ≤ d - 1 by omega) hx h hs1 hz, f_tk h1]
  dsimp only
  rw [f_aBl h1]
  simp only [rBd_v, Option.toList_some, Option.toList_none, List.cons_append, List.nil_append, List.append_nil, b_71_94]
theorem F_69_8 (hd : 2 ≤ d) (hx : iLaw x) (h : onT m T n) (hs : gd n s) (h1 : s.2.1 ≠ 0) {o i : Int} (hi : i32 i) {u : Option Value} : gv d rR69 8 [some (.ref x), some (.ref 101), some (.int (iI o)), some (.int (iI i)), u] [] (mk (tr (lw m x C z) s) q w) = vV (mk (tr (lw m x C z) s) q w) := by
  have hO := lw_on m C z hx h
  rw [b_69_8 hx]
  simp only [iI_lt hi (by omega : i32 150), U_8 (m := lw m x C z) hd hO hs (by omega : i32 42), f_aTk h1, rBd_v, Option.toList_some, Option.toList_none, List.cons_append, List.nil_append, List.append_nil, b_69_21 hx, zb_0]
  split
  · rw [if_pos (fun z => h1 z.1), U_8 hd hO hs (by omega), f_aTk h1]
    simp only [rBd_v, Option.toList_some, Option.toList_none, List.cons_append, List.nil_append, List.append_nil, b_69_35 hx, zb_0]
    rw [if_pos (fun z => h1 z.1), U_8 hd hO hs (by omega), f_aTk h1]
    simp only [rBd_v, Option.toList_some, Option.toList_none, List.cons_append, List.nil_append, List.append_nil, b_69_49 hx, zb_0]
    rw [if_pos (fun z => h1 z.1), b_69_58 hx, if_pos rfl]
  · rfl
theorem F_69 (hd : 13 ≤ d) (hx : iLaw x) (h : onT m T n) (hs : gd n s) (h0 : s.2.1 ≠ 0) (hz : z ≤ 150) {o : Int} : ev d 69 [.ref x, .ref 101, .int (iI o)] (mk (tr (lw m x C z) s) q w) = vV (mk (tr (lw m x C z) (skip T n s.1, s.2)) q w) := by
  rw [e_69 (by omega) _ rfl rfl rfl, b_69_0 hx, F_71 (by omega) hx h hs h0 hz]
  simp only [rBd_v, Option.toList_some, Option.toList_none, List.cons_append, List.nil_append, List.append_nil, b_69_6 hx]
  exact F_69_8 (s := (skip T n s.1, s.2)) (by omega) hx h ⟨(skip_le T hs.1).2, hs.2⟩ h0 (by omega)
theorem F_70_8 (hd : 2 ≤ d) (hx : iLaw x) (h : onT m T n) (hs : gd n s) (h1 : s.2.1 ≠ 0) {o i : Int} (hi : i32 i) {u : Option Value} : gv d rR70 8 [some (.ref x), some (.ref 101), some (.int (iI o)), some (.int (iI i)), u] [] (mk (tr (lw m x C z) s) q w) = vV (mk (tr (lw m x C z) s) q w) := by
  have hO := lw_on m C z hx h
  rw [b_70_8 hx]
  simp only [iI_lt hi (by omega : i32 150), U_8 (m := lw m x C z) hd hO hs (by omega : i32 43), f_aTk h1, rBd_v, Option.toList_some, Option.toList_none, List.cons_append, List.nil_append, List.append_nil, b_70_21 hx, zb_0]
  split
  · rw [if_pos (fun z => h1 z.1), U_8 hd hO hs (by omega), f_aTk h1]
    simp only [rBd_v, Option.toList_some, Option.toList_none, List.cons_append, List.nil_append, List.append_nil, b_70_35 hx, zb_0]
    rw [if_pos (fun z => h1 z.1), b_70_44 hx, if_pos rfl]
  · rfl
theorem F_70 (hd : 14 ≤ d) (hx : iLaw x) (h : onT m T n) (hs : gd n s) (h0 : s.2.1 ≠ 0) (hz : z ≤ 150) {o : Int} : ev d 70 [.ref x, .ref 101, .int (iI o)] (mk (tr (lw m x C z) s) q w) = vV (mk (tr (lw m x C z) (skip T n s.1, s.2)) q w) := by
  rw [e_70 (by omega) _ rfl rfl rfl, b_70_0 hx, F_69 (by omega) hx h hs h0 hz]
  simp only [rBd_v, Option.toList_some, Option.toList_none, List.cons_append, List.nil_append, List.append_nil, b_70_6 hx]
  exact F_70_8 (s := (skip T n s.1, s.2)) (by omega) hx h ⟨(skip_le T hs.1).2, hs.2⟩ h0 (by omega)
theorem G_190 (hd : 2 ≤ d) (hs : gx n xs) (h0 : xs.2.1 ≠ -1) : ev d 190 [.ref 363] (mk (mr m xs) q w) = vV (mk (mr m xs) q w) := by
  rw [e_190 (by omega) _ rfl]
  simp only [b_190_0, V_167 (show 1 ≤ d - 1 by omega) hs, rBd_v, Option.toList_some, Option.toList_none, List.cons_append, List.nil_append, List.append_nil, b_190_4, zb_0]
  rw [if_pos h0]
theorem G_187 (hd : 3 ≤ d) (hs : gx n xs) (h0 : xs.2.1 ≠ -1) : ev d 187 [.ref 363] (mk (mr m xs) q w) = vV (mk (mr m xs) q w) := by
  rw [e_187 (by omega) _ rfl]
  simp only [b_187_0, G_190 (show 2 ≤ d - 1 by omega) hs h0, rBd_v, Option.toList_some, Option.toList_none, List.cons_append, List.nil_append, List.append_nil, b_187_4, V_167 (show 1 ≤ d - 1 by omega) hs, b_187_8, zb_0]
  rw [if_pos h0, b_187_90]
theorem G_188 (hd : 4 ≤ d) (hs : gx n xs) (h0 : xs.2.1 ≠ -1) : ev d 188 [.ref 363] (mk (mr m xs) q w) = vV (mk (mr m xs) q w) := by
  rw [e_188 (by omega) _ rfl]
  simp only [b_188_0, G_187 (show 3 ≤ d - 1 by omega) hs h0, rBd_v, Option.toList_some, Option.toList_none, List.cons_append, List.nil_append, List.append_nil, b_188_4, V_167 (show 1 ≤ d - 1 by omega) hs, b_188_8, zb_0]
  rw [if_pos h0, b_188_67]
/-! a pair's rest behind a fault -/
def tailC (T : Nat → Int) (n d pc x : Nat) (o c : Int) (C : Nat → Int) (z : Nat) (s : rd) : Prop := ∃ (C' : Nat → Int) (z' : Nat) (s' : rd), (∀ (m : Nat → Nat → Int) (q : Nat → Nat → Option Nat) (w : Option (Nat → Int64)) (u : Option Value), onT m T n → gv d rR68 pc [some (.ref x), some (.ref 101), some (.int (iI o)), u, some (.int (iI c))] [] (mk (tr (lw m x C z) s) q w) = vV (mk (tr (lw m x C' z') s') q w)) ∧ s'.2 = s.2 ∧ gd n s' ∧ z' ≤ 150
theorem tail47 (hd : 1 ≤ d) (hx : iLaw x) (hs : gd n s) (hz : z ≤ 150) {o c : Int} : tailC T n d 47 x o c C z s := by
  refine ⟨adC C z c, adZ z, s, ?_, rfl, hs, adZ_le hz⟩
  intro m q w u h
  rw [b_68_47 hx, T_65 hd hx hz]
  simp only [rBd_v, Option.toList_some, Option.toList_none, List.cons_append, List.nil_append, List.append_nil, b_68_53]
theorem tail41 (hd : 3 ≤ d) (hx : iLaw x) (hs : gd n s) (h0 : s.2.1 ≠ 0) (hz : z ≤ 150) {o c : Int} : tailC T n d 41 x o c C z s := by
  obtain ⟨C', z', s', h1, h2⟩ := tail47 (T := T) (C := C) (o := o) (c := c) (show 1 ≤ d by omega) hx hs hz
  refine ⟨C', z', s', ?_, h2⟩
  intro m q w u h
  rw [b_68_41 hx, U_9 hd (lw_on m C z hx h) hs (by omega), f_aEx h0]
  simp only [rBd_v, Option.toList_some, Option.toList_none, List.cons_append, List.nil_append, List.append_nil]
  exact h1 m q w u h
theorem tail33 (hd : 14 ≤ d) (hx : iLaw x) (hs : gd n s) (h0 : s.2.1 ≠ 0) (hz : z ≤ 150) {o c : Int} : tailC T n d 33 x o c C z s := by
  obtain ⟨C', z', s', h1, h2⟩ := tail41 (T := T) (C := C) (o := o) (c := c) (s := (skip T n s.1, s.2)) (show 3 ≤ d by omega) hx ⟨(skip_le T hs.1).2, hs.2⟩ h0 hz
  refine ⟨C', z', s', ?_, h2⟩
  intro m q w u h
  rw [b_68_33 hx, F_70 hd hx h hs h0 hz]
  simp only [rBd_v, Option.toList_some, Option.toList_none, List.cons_append, List.nil_append, List.append_nil]
  exact h1 m q w u h
theorem tail27 (hd : 14 ≤ d) (hx : iLaw x) (hs : gd n s) (h0 : s.2.1 ≠ 0) (hz : z ≤ 150) {o c : Int} : tailC T n d 27 x o c C z s := by
  obtain ⟨C', z', s', h1, h2⟩ := tail33 (T := T) (C := C) (o := o) (c := c) hd hx hs h0 hz
  refine ⟨C', z', s', ?_, h2⟩
  intro m q w u h
  rw [b_68_27 hx, U_9 (by omega) (lw_on m C z hx h) hs (by omega), f_aEx h0]
  simp only [rBd_v, Option.toList_some, Option.toList_none, List.cons_append, List.nil_append, List.append_nil]
  exact h1 m q w u h
theorem tail19 (hd : 14 ≤ d) (hx : iLaw x) (hs : gd n s) (h0 : s.2.1 ≠ 0) (hz : z ≤ 150) {o c : Int} : tailC T n d 19 x o c C z s := by
  obtain ⟨C', z', s', h1, h2⟩ := tail27 (T := T) (C := C) (o := o) (c := c) (s := (skip T n s.1, s.2)) hd hx ⟨(skip_le T hs.1).2, hs.2⟩ h0 hz
  refine ⟨C', z', s', ?_, h2⟩
  intro m q w u h
  rw [b_68_19 hx, F_70 hd hx h hs h0 hz]
  simp only [rBd_v, Option.toList_some, Option.toList_none, List.cons_append, List.nil_append, List.append_nil]
  exact h1 m q w u h
theorem xt31 (hd : 2 ≤ d) (hs : gx n xs) (h0 : xs.2.1 ≠ -1) {e : Int} {u : Option Value} : gv d rR189 31 [some (.ref 363), u, some (.int (iI e))] [] (mk (mr (lx m E F k (op + 1)) xs) q w) = vV (mk (mr (lx m E F k op) xs) q w) := by
  have e7 : mr (lx m E F k (op + 1)) xs 363 7 = ((op + 1 : Nat) : Int) := by rw [mr_b _ _ (by decide) (by decide) (by decide), lx_7]
  rw [b_189_31, e7, mr_wi (by decide) (by decide) (by decide), show ((op + 1 : Nat) : Int) - 1 = ((op : Nat) : Int) by omega, lx_w7, V_184 hd hs (fun z => absurd z h0), if_neg h0]
  simp only [rBd_v, Option.toList_some, Option.toList_none, List.cons_append, List.nil_append, List.append_nil, b_189_47]
theorem xt25 (hd : 2 ≤ d) (h : onX m T n) (hs : gx n xs) (h0 : xs.2.1 ≠ -1) {e : Int} {u : Option Value} : gv d rR189 25 [some (.ref 363), u, some (.int (iI e))] [] (mk (mr (lx m E F k (op + 1)) xs) q w) = vV (mk (mr (lx m E F k op) xs) q w) := by
  rw [b_189_25, V_176 hd (lx_on m E F k (op + 1) h) hs (by omega), f_xSg h0]
  simp only [rBd_v, Option.toList_some, Option.toList_none, List.cons_append, List.nil_append, List.append_nil]
  exact xt31 hd hs h0
theorem xt21 (hd : 4 ≤ d) (h : onX m T n) (hs : gx n xs) (h0 : xs.2.1 ≠ -1) {e : Int} {u : Option Value} : gv d rR189 21 [some (.ref 363), u, some (.int (iI e))] [] (mk (mr (lx m E F k (op + 1)) xs) q w) = vV (mk (mr (lx m E F k op) xs) q w) := by
  rw [b_189_21, G_188 hd hs h0]
  simp only [rBd_v, Option.toList_some, Option.toList_none, List.cons_append, List.nil_append, List.append_nil]
  exact xt25 (by omega) h hs h0
theorem xt15 (hd : 4 ≤ d) (h : onX m T n) (hs : gx n xs) (h0 : xs.2.1 ≠ -1) {e : Int} {u : Option Value} : gv d rR189 15 [some (.ref 363), u, some (.int (iI e))] [] (mk (mr (lx m E F k (op + 1)) xs) q w) = vV (mk (mr (lx m E F k op) xs) q w) := by
  rw [b_189_15, V_176 (by omega) (lx_on m E F k (op + 1) h) hs (by omega), f_xSg h0]
  simp only [rBd_v, Option.toList_some, Option.toList_none, List.cons_append, List.nil_append, List.append_nil]
  exact xt21 hd h hs h0
theorem xt11 (hd : 4 ≤ d) (h : onX m T n) (hs : gx n xs) (h0 : xs.2.1 ≠ -1) {e : Int} {u : Option Value} : gv d rR189 11 [some (.ref 363), u, some (.int (iI e))] [] (mk (mr (lx m E F k (op + 1)) xs) q w) = vV (mk (mr (lx m E F k op) xs) q w) := by
  rw [b_189_11, G_188 hd hs h0]
  simp only [rBd_v, Option.toList_some, Option.toList_none, List.cons_append, List.nil_append, List.append_nil]
  exact xt15 hd h hs h0
theorem xt5 (hd : 4 ≤ d) (h : onX m T n) (hs : gx n xs) (h0 : xs.2.1 ≠ -1) {e : Int} {u : Option Value} : gv d rR189 5 [some (.ref 363), u, some (.int (iI e))] [] (mk (mr (lx m E F k (op + 1)) xs) q w) = vV (mk (mr (lx m E F k op) xs) q w) := by
  rw [b_189_5, V_176 (by omega) (lx_on m E F k (op + 1) h) hs (by omega), f_xSg h0]
  simp only [rBd_v, Option.toList_some, Option.toList_none, List.cons_append, List.nil_append, List.append_nil]
  exact xt11 hd h hs h0
end S
end
