/-! ===== the steps of both ===== -/
def mov (d n r Q : Nat) (C : Nat → Int) (z x j jx : Nat) (As Ax : List Value) (m : Nat → Nat → Int) (q : Nat → Nat → Option Nat) (w : Option (Nat → Int64)) (G : Nat → Int) : Prop := ∃ (b : Int) (m1 : Nat → Nat → Int) (G1 : Nat → Int), (b = 0 ∨ b = 1) ∧ ev d j As (mk m q w) = vI b (mk m1 q w) ∧ qC x m m1 ∧ fnR n r Q (m1 x) (m1 (x + 1)) (m1 (x + 2)) G1 ∧ sim d n r C z jx Ax b G G1
def flp (o s : Nat) : Nat := if bt o s = 1 then o - 2 ^ s else o + 2 ^ s
theorem flp_ok : ∀ o : Nat, o < 128 → ∀ s : Nat, s < 7 → zXor (o : Int) (zShl 1 (s : Int)) = (flp o s : Int) := by decide +kernel
theorem flp_bt : ∀ o : Nat, o < 128 → ∀ s : Nat, s < 7 → ∀ t : Nat, t < 7 → bt (flp o s) t = if t = s then 1 - bt o s else bt o t := by decide +kernel
theorem flp_lt : ∀ n : Nat, n < 8 → ∀ o : Nat, o < 128 → o < 2 ^ n → ∀ s : Nat, s < 7 → s < n → flp o s < 2 ^ n := by decide +kernel
theorem hlf : ∀ v : Nat, v < 201 → zDiv (v : Int) 2 = ((v / 2 : Nat) : Int) := by decide +kernel
section S
variable {d n : Nat} {m : Nat → Nat → Int} {q : Nat → Nat → Option Nat} {w : Option (Nat → Int64)} {x y : Nat} {r Q z j jx : Nat} {G : Nat → Int} {C : Nat → Int} {As Ax : List Value}
theorem mov_no (hF : fnR n r Q (m x) (m (x + 1)) (m (x + 2)) G) (h1 : ev d j As (mk m q w) = vI 0 (mk m q w)) (h2 : ∀ (m' : Nat → Nat → Int) (q' : Nat → Nat → Option Nat) (w' : Option (Nat → Int64)), m' 377 = G → xR m' n r C z → ev d jx Ax (mk m' q' w') = vI 0 (mk m' q' w')) : mov d n r Q C z x j jx As Ax m q w G :=
  ⟨0, m, G, Or.inl rfl, h1, fun a _ _ _ _ _ _ _ => rfl, hF, fun m' q' w' hG hx => ⟨m', h2 m' q' w' hG hx, hG, fun _ _ _ _ => rfl⟩⟩
theorem mov_yes {m1 : Nat → Nat → Int} {G1 : Nat → Int} (h1 : ev d j As (mk m q w) = vI 1 (mk m1 q w)) (hq : ∀ a, a ≠ x → a ≠ x + 1 → a ≠ x + 2 → m1 a = m a) (hF : fnR n r Q (m1 x) (m1 (x + 1)) (m1 (x + 2)) G1) (h2 : ∀ (m' : Nat → Nat → Int) (q' : Nat → Nat → Option Nat) (w' : Option (Nat → Int64)), m' 377 = G → xR m' n r C z → ev d jx Ax (mk m' q' w') = vI 1 (mk (row m' 377 G1) q' w')) : mov d n r Q C z x j jx As Ax m q w G :=
  ⟨1, m1, G1, Or.inr rfl, h1, fun a a1 a2 a3 _ _ _ _ => hq a a1 a2 a3, hF, fun m' q' w' hG hx => ⟨row m' 377 G1, h2 m' q' w' hG hx, row_s _ _ _, fun a h _ _ => row_o _ _ _ h⟩⟩
theorem V_210 (hd : 3 ≤ d) {a h s : Nat} (ha : a < 7) (hh : h < 4) (hs : m 377 (28 + a) = s) (hs7 : s < 7) (ho : i32 (m 377 (35 + s))) (h3 : i32 (m 377 43)) {c : Int} (hc : i32 c) (hm : i32 (xm (m 377) s h)) : ev d 210 [.ref 363, .int (iI a), .int (iI h), .int (iI c)] (mk m q w) =
    if m 377 43 = 0 ∨ xm (m 377) s h = c then vI 0 (mk m q w) else vI 1 (mk (row m 377 (row (row (m 377) (4 * s + if m 377 (35 + s) = 1 then 3 - h else h) c) 43 (m 377 43 - 1))) q w) := by
  have e1 : (28 + (a : Int)).toNat = 28 + a := by omega
  have hE : ∀ t : Nat, t < 4 → gv (d - 1) rR210 63 [some (.ref 363), some (.int (iI a)), some (.int (iI h)), some (.int (iI c)), some (.int (iI s))] [.int (iI t), .int (iI (4 * (s : Int))), .ref 377] (mk m q w) = vI 1 (mk (row m 377 (row (row (m 377) (4 * s + t) c) 43 (m 377 43 - 1))) q w) := by
    intro t ht
    rw [b_210_63 (by omega) (by omega), show (4 * (s : Int) + (t : Int)).toNat = 4 * s + t by omega]
    simp only [wr_x]
    rw [row_o _ _ _ (show 43 ≠ 4 * s + t by omega)]
    unfold wr
    rw [row_s, row_row]
  rw [e_210 (by omega) _ rfl rfl rfl rfl, b_210_0 (by omega) (by omega)]
  simp only [e1, hs, iI_eq h3 (by omega : i32 0), V_209 (show 2 ≤ d - 1 by omega) hs7 hh ho, rBd_v, Option.toList_some, Option.toList_none, List.cons_append, List.nil_append, List.append_nil, b_210_28, iI_eq hm hc, b_210_32]
  by_cases h0 : m 377 43 = 0
  · rw [if_pos h0, if_pos (Or.inl h0)]
  · rw [if_neg h0]
    by_cases h1 : xm (m 377) s h = c
    · rw [if_pos h1, if_pos (Or.inr h1)]
    · rw [if_neg h1, if_neg (fun z => z.elim h0 h1), b_210_34 (by omega) (by omega), show (35 + (s : Int)).toNat = 35 + s by omega]
      simp only [iI_eq ho (by omega : i32 1)]
      by_cases h2 : m 377 (35 + s) = 1
      · rw [if_pos h2, if_pos h2, show 3 - (h : Int) = ((3 - h : Nat) : Int) by omega]
        exact hE (3 - h) (by omega)
      · rw [if_neg h2, if_neg h2]
        exact hE h hh
theorem M_swap (hd : 3 ≤ d) (hx : iFan x) (hF : fnR n r Q (m x) (m (x + 1)) (m (x + 2)) G) {a b : Nat} (ha : a < n) (hb : b < n) : mov d n r Q C z x 45 206 [.ref x, .int (iI a), .int (iI b)] [.ref 363, .int (iI a), .int (iI b)] m q w G := by
  obtain ⟨f0, f2, f3, f4, f5, ⟨h7, h8, hc⟩, -, ⟨b1, b2, b3⟩, -⟩ := id hF
  have hn := f0.2.1
  have hT := T_45 (q := q) (w := w) hd hx (show i32 (m x 7) by omega) f0.1 hn (show i32 (a : Int) by omega) (show i32 (b : Int) by omega)
  simp only [Int.toNat_natCast] at hT
  by_cases h : m x 7 = -1 ∧ a ≠ b
  · rw [if_pos ⟨h.1, by omega, by omega, by omega⟩] at hT
    refine mov_yes (G1 := row (row G (28 + a) (G (28 + b))) (28 + b) (G (28 + a))) hT ?_ ?_ ?_
    · intro c _ c1 _
      rw [wr_o _ _ _ _ c1, wr_o _ _ _ _ c1]
    · rw [wr_o _ _ _ _ (by omega : x ≠ x + 1), wr_o _ _ _ _ (by omega : x ≠ x + 1), wr_o _ _ _ _ (by omega : x + 2 ≠ x + 1), wr_o _ _ _ _ (by omega : x + 2 ≠ x + 1), wr_x, wr_x]
      have e : ∀ t, row (row (m (x + 1)) a (m (x + 1) b)) b (m (x + 1) a) t = m (x + 1) (if t = b then a else if t = a then b else t) := by
        intro t
        show (if t = b then m (x + 1) a else if t = a then m (x + 1) b else m (x + 1) t) = _
        split
        · rfl
        · split <;> rfl
      have el : ∀ t, t < n → (if t = b then a else if t = a then b else t) < n := by
        intro t ht
        split
        · exact ha
        · split
          · exact hb
          · exact ht
      refine fnR_B hF ?_ ?_ ?_ ?_
      · intro t ht
        rw [row_o _ _ _ (by omega), row_o _ _ _ (by omega)]
      · intro t ht
        rw [e, b1 _ (el t ht)]
        show _ = (if 28 + t = 28 + b then G (28 + a) else if 28 + t = 28 + a then G (28 + b) else G (28 + t))
        by_cases t1 : t = b
        · rw [if_pos (show 28 + t = 28 + b by omega), if_pos t1]
        · rw [if_neg (show ¬ 28 + t = 28 + b by omega), if_neg t1]
          by_cases t2 : t = a
          · rw [if_pos (show 28 + t = 28 + a by omega), if_pos t2]
          · rw [if_neg (show ¬ 28 + t = 28 + a by omega), if_neg t2]
      · intro t ht
        rw [e]
        exact b2 _ (el t ht)
      · intro i t hi ht he
        rw [e, e] at he
        have h9 := b3 _ _ (el i hi) (el t ht) he
        have hab := h.2
        by_cases i1 : i = b
        · rw [if_pos i1] at h9
          by_cases t1 : t = b
          · omega
          · rw [if_neg t1] at h9
            by_cases t2 : t = a
            · rw [if_pos t2] at h9
              omega
            · rw [if_neg t2] at h9
              omega
        · rw [if_neg i1] at h9
          by_cases i2 : i = a
          · rw [if_pos i2] at h9
            by_cases t1 : t = b
            · rw [if_pos t1] at h9
              omega
            · rw [if_neg t1] at h9
              by_cases t2 : t = a
              · omega
              · rw [if_neg t2] at h9
                omega
          · rw [if_neg i2] at h9
            by_cases t1 : t = b
            · rw [if_pos t1] at h9
              omega
            · rw [if_neg t1] at h9
              by_cases t2 : t = a
              · rw [if_pos t2] at h9
                omega
              · rw [if_neg t2] at h9
                exact h9
    · intro m' q' w' hG hx'
      rw [V_206 (by omega) (by rw [hG]; omega) (by omega) (by omega), if_pos ⟨by rw [hG]; omega, h.2⟩]
      simp only [wr, row_s, row_row, hG]
  · rw [if_neg (fun z => h ⟨z.1, fun e => z.2.1 (by rw [e])⟩)] at hT
    refine mov_no hF hT ?_
    intro m' q' w' hG hx'
    rw [V_206 (by omega) (by rw [hG]; omega) (by omega) (by omega), if_neg (by rw [hG]; omega)]
theorem M_turn (hd : 3 ≤ d) (hx : iFan x) (hF : fnR n r Q (m x) (m (x + 1)) (m (x + 2)) G) {a : Nat} (ha : a < n) : mov d n r Q C z x 46 207 [.ref x, .int (iI a)] [.ref 363, .int (iI a)] m q w G := by
  obtain ⟨f0, f2, f3, f4, f5, ⟨h7, h8, hc⟩, ⟨o, o1, o2, o3⟩, ⟨b1, b2, b3⟩, -⟩ := id hF
  have hn := f0.2.1
  have ho := pow_lt hn o2
  have hT := T_46 (q := q) (w := w) hd hx (show i32 (m x 7) by omega) f0.1 hn (show i32 (a : Int) by omega)
  simp only [Int.toNat_natCast] at hT
  obtain ⟨s, hs⟩ : ∃ s : Nat, m (x + 1) a = s := ⟨(m (x + 1) a).toNat, by have := b2 a ha; omega⟩
  have hsn : s < n := by have := b2 a ha; omega
  have hGs : G (28 + a) = s := by rw [← b1 a ha]; exact hs
  by_cases h : m x 7 = -1
  · rw [if_pos ⟨h, by omega⟩, o1, hs, flp_ok o ho s (by omega)] at hT
    refine mov_yes (G1 := row G (35 + s) (1 - G (35 + s))) hT ?_ ?_ ?_
    · intro c c0 _ _
      rw [wr_o _ _ _ _ c0]
    · rw [wr_o _ _ _ _ (by omega : x + 1 ≠ x), wr_o _ _ _ _ (by omega : x + 2 ≠ x), wr_x]
      refine fnR_6 (o1 := flp o s) hF ?_ ?_ ?_ ?_ ?_
      · intro t ht
        rw [row_o _ _ _ ht]
      · intro t ht
        rw [row_o _ _ _ (by omega)]
      · rw [row_s]
      · exact flp_lt n (by omega) o ho o2 s (by omega) hsn
      · intro t ht
        rw [flp_bt o ho s (by omega) t ht]
        have hb := bt_01 o s
        by_cases e : t = s
        · subst e
          rw [row_s, if_pos rfl, o3 t ht]
          omega
        · rw [row_o _ _ _ (by omega), if_neg e, o3 t ht]
    · intro m' q' w' hG hx'
      rw [V_207 (by omega) (by rw [hG]; omega) (by omega) (by rw [hG]; omega), if_pos (by rw [hG]; omega)]
      simp only [wr, row_s, hG, hGs, Int.toNat_natCast]
  · rw [if_neg (fun z => h z.1)] at hT
    refine mov_no hF hT ?_
    intro m' q' w' hG hx'
    rw [V_207 (by omega) (by rw [hG]; omega) (by omega) (by rw [hG]; omega), if_neg (by rw [hG]; omega)]
theorem M_paint (hd : 4 ≤ d) (hx : iFan x) (hF : fnR n r Q (m x) (m (x + 1)) (m (x + 2)) G) {a h c : Nat} (ha : a < n) (hh : h < 4) (hc : c < 16) : mov d n r Q C z x 47 210 [.ref x, .int (iI a), .int (iI h), .int (iI c)] [.ref 363, .int (iI a), .int (iI h), .int (iI c)] m q w G := by
  obtain ⟨f0, f2, f3, f4, f5, f7, -, ⟨b1, b2, b3⟩, c1, c2⟩ := id hF
  obtain ⟨o, hk, hl, hC, ho, hb⟩ := fnR_k hF
  have hn := f0.2.1
  obtain ⟨s, hs⟩ : ∃ s : Nat, m (x + 1) a = s := ⟨(m (x + 1) a).toNat, by have := b2 a ha; omega⟩
  have hsn : s < n := by have := b2 a ha; omega
  have hGs : G (28 + a) = s := by rw [← b1 a ha]; exact hs
  obtain ⟨l1, l2, l3⟩ := fnR_lm hF hb hsn hh
  have hT := T_47 (q := q) (w := w) hd hx hk hl hC (show i32 (m x 3) by omega) ha hh (show i32 (c : Int) by omega)
  rw [hs, Int.toNat_natCast, l1] at hT
  have hV : ∀ (m' : Nat → Nat → Int) (q' : Nat → Nat → Option Nat) (w' : Option (Nat → Int64)), m' 377 = G → _ := fun m' q' w' (hG : m' 377 = G) => V_210 (m := m') (q := q') (w := w') (show 3 ≤ d by omega) (show a < 7 by omega) hh (by rw [hG]; exact hGs) (show s < 7 by omega) (by rw [hG, hb s (by omega)]; have := bt_01 o s; omega) (by rw [hG]; omega) (show i32 (c : Int) by omega) (by rw [hG]; omega)
  have hbs := bt_01 o s
  have eth : th o s h = if G (35 + s) = 1 then 3 - h else h := by
    unfold th
    rw [hb s (by omega)]
    by_cases e : bt o s = 1
    · rw [if_pos e, if_pos (by omega)]
    · rw [if_neg e, if_neg (by omega)]
  have etl := th_lt (o := o) (s := s) hh
  by_cases h0 : 0 < m x 3 ∧ xm G s h ≠ c
  · rw [if_pos h0] at hT
    refine mov_yes (G1 := row (row G (4 * s + th o s h) c) 43 (G 43 - 1)) hT ?_ ?_ ?_
    · intro t t0 _ t2
      rw [wr_o _ _ _ _ t0, wr_o _ _ _ _ t2]
    · rw [wr_o _ _ _ _ (by omega : x + 1 ≠ x), wr_o _ _ _ _ (by omega : x + 1 ≠ x + 2), wr_o _ _ _ _ (by omega : x + 2 ≠ x), wr_x, wr_x, wr_o _ _ _ _ (by omega : x ≠ x + 2)]
      have hF2 : fnR n r Q (m x) (m (x + 1)) (row (m (x + 2)) (4 * s + th o s h) c) (row G (4 * s + th o s h) c) := by
        refine fnR_C hF ?_ ?_ ?_
        · intro t ht
          rw [row_o _ _ _ (by omega)]
        · intro i hi
          by_cases e : i = 4 * s + th o s h
          · rw [e, row_s]
            omega
          · rw [row_o _ _ _ e]
            exact c1 i hi
        · intro i hi
          by_cases e : i = 4 * s + th o s h
          · rw [e, row_s, row_s]
            omega
          · rw [row_o _ _ _ e, row_o _ _ _ e]
            exact c2 i hi
      refine fnR_fld hF2 ?_ ?_ ?_ ?_ ?_ ?_ ?_ ?_ ?_
      · rw [row_o _ _ _ (by decide)]
      · rw [row_o _ _ _ (by decide)]
      · rw [row_o _ _ _ (by decide), row_o _ _ _ (by decide), row_o _ _ _ (by omega)]
        exact f2
      · rw [row_s, row_s]
        omega
      · rw [row_o _ _ _ (by decide), row_o _ _ _ (by decide), row_o _ _ _ (by omega)]
        exact f4
      · rw [row_o _ _ _ (by decide), row_o _ _ _ (by decide), row_o _ _ _ (by omega)]
        exact f5
      · rw [row_o _ _ _ (by decide)]
      · rw [row_o _ _ _ (by omega), row_o _ _ _ (by omega), row_o _ _ _ (by omega), row_o _ _ _ (by omega), row_o _ _ _ (by omega), row_o _ _ _ (by omega)]
        exact f7
      · intro t ht
        rw [row_o _ _ _ (by omega)]
    · intro m' q' w' hG hx'
      rw [hV m' q' w' hG, hG, if_neg (by omega), ← eth]
  · rw [if_neg h0] at hT
    refine mov_no hF hT ?_
    intro m' q' w' hG hx'
    rw [hV m' q' w' hG, hG, if_pos (by omega)]
theorem M_oil (hd : 1 ≤ d) (hx : iFan x) (hF : fnR n r Q (m x) (m (x + 1)) (m (x + 2)) G) : mov d n r Q C z x 48 211 [.ref x] [.ref 363] m q w G := by
  obtain ⟨f0, f2, f3, f4, f5, f7, f8⟩ := id hF
  have hn := f0.2.1
  have hT := T_48 (m := m) (q := q) (w := w) hd hx (by omega)
  have e := hlf (m x 2).toNat (by omega)
  rw [Int.toNat_of_nonneg f2.2.1] at e
  by_cases h : m x 2 = 0
  · rw [if_pos h] at hT
    refine mov_no hF hT ?_
    intro m' q' w' hG hx'
    rw [V_211 (by omega) (by rw [hG]; omega), if_pos (by rw [hG]; omega)]
  · rw [if_neg h, e] at hT
    refine mov_yes (G1 := row G 42 (((m x 2).toNat / 2 : Nat) : Int)) hT ?_ ?_ ?_
    · intro c c0 _ _
      rw [wr_o _ _ _ _ c0]
    · rw [wr_o _ _ _ _ (by omega : x + 1 ≠ x), wr_o _ _ _ _ (by omega : x + 2 ≠ x), wr_x]
      refine fnR_fld hF ?_ ?_ ?_ ?_ ?_ ?_ ?_ ?_ ?_
      · simp [row]
      · simp [row]
      · have h9 : (((m x 2).toNat / 2 : Nat) : Int) ≤ m x 2 := by omega
        have h8 : (0 : Int) ≤ (((m x 2).toNat / 2 : Nat) : Int) := by omega
        rw [row_s, row_s]
        exact ⟨rfl, h8, Int.le_trans h9 f2.2.2⟩
      · simp [row]; omega
      · simp [row]; omega
      · simp [row]; omega
      · simp [row]
      · simp [row]; omega
      · intro j hj
        rw [row_o _ _ _ (by omega)]
    · intro m' q' w' hG hx'
      rw [V_211 (by omega) (by rw [hG]; omega), if_neg (by rw [hG]; omega), hG, ← f2.1, e]
      simp only [wr, hG]
/-- a season goes by -/
theorem M_pass (hd : 10 ≤ d) (hx : iFan x) (hF : fnR n r Q (m x) (m (x + 1)) (m (x + 2)) G) : ∃ (m1 : Nat → Nat → Int) (G1 : Nat → Int), ev d 49 [.ref x] (mk m q w) = vV (mk m1 q w) ∧ (∀ a, a ≠ x → m1 a = m a) ∧ fnR n r (Q + 1) (m1 x) (m1 (x + 1)) (m1 (x + 2)) G1 ∧ (m x 4 < Q → fnR n r Q (m1 x) (m1 (x + 1)) (m1 (x + 2)) G1) ∧ (∀ (m' : Nat → Nat → Int) (q' : Nat → Nat → Option Nat) (w' : Option (Nat → Int64)), m' 377 = G → ev d 212 [.ref 363] (mk m' q' w') = vV (mk (row m' 377 G1) q' w')) ∧ m1 x 0 = m x 0 ∧ (m1 x 4 = m x 4 + 1) := by
  obtain ⟨f0, f2, f3, f4, f5, f7, f8⟩ := id hF
  have hn := f0.2.1
  refine ⟨_, row (row (row G 42 (if 3 < m x 2 then m x 2 - 3 else 0)) 43 (if 97 < m x 3 then 99 else m x 3 + 2)) 47 (m x 4 + 1), T_49 hd hx (by omega) (by omega), ?_, ?_, ?_, ?_, ?_, ?_⟩
  · intro a ha
    rw [wr_o _ _ _ _ ha, wr_o _ _ _ _ ha, wr_o _ _ _ _ ha]
  · simp only [wr_o _ _ _ _ (by omega : x + 1 ≠ x), wr_o _ _ _ _ (by omega : x + 2 ≠ x), wr_x]
    refine fnR_fld hF ?_ ?_ ?_ ?_ ?_ ?_ ?_ ?_ ?_
    · simp [row]
    · simp [row]
    · simp [row]
      split <;> omega
    · simp [row]
      split <;> omega
    · simp [row]; omega
    · simp [row]; omega
    · simp [row]
    · simp [row]; omega
    · intro j hj
      rw [row_o _ _ _ (by omega), row_o _ _ _ (by omega), row_o _ _ _ (by omega)]
  · intro h4
    simp only [wr_o _ _ _ _ (by omega : x + 1 ≠ x), wr_o _ _ _ _ (by omega : x + 2 ≠ x), wr_x]
    refine fnR_fld hF ?_ ?_ ?_ ?_ ?_ ?_ ?_ ?_ ?_
    · simp [row]
    · simp [row]
    · simp [row]
      split <;> omega
    · simp [row]
      split <;> omega
    · simp [row]; omega
    · simp [row]; omega
    · simp [row]
    · simp [row]; omega
    · intro j hj
      rw [row_o _ _ _ (by omega), row_o _ _ _ (by omega), row_o _ _ _ (by omega)]
  · intro m' q' w' hG
    rw [V_212 (by omega) (by rw [hG]; omega) (by rw [hG]; omega)]
    simp only [wr, row_s, row_row, hG, ← f2.1, ← f3.1, ← f4.1]
  · simp [wr, row]
  · simp [wr, row]
/-! any step -/
def okS (n k : Nat) (a b c : Int) : Prop := (k = 0 ∧ 0 ≤ a ∧ a < 4 ∧ 1 ≤ b ∧ b ≤ 7) ∨ k = 1 ∨ (k = 2 ∧ 0 ≤ a ∧ a < n ∧ 0 ≤ b ∧ b < n) ∨ (k = 3 ∧ 0 ≤ a ∧ a < n) ∨ (k = 4 ∧ 0 ≤ a ∧ a < n ∧ 0 ≤ b ∧ b < 4 ∧ 0 ≤ c ∧ c < 16) ∨ k = 5 ∨ k = 6
theorem sim_213 (hd : 2 ≤ d) {k : Nat} {a b c e : Int} {G1 : Nat → Int} (he : e = 0 ∨ e = 1) (hk : (k = 0 ∧ jx = 204 ∧ Ax = [.ref 363, .int (iI a), .int (iI b)]) ∨ (k = 1 ∧ jx = 205 ∧ Ax = [.ref 363]) ∨ (k = 2 ∧ jx = 206 ∧ Ax = [.ref 363, .int (iI a), .int (iI b)]) ∨ (k = 3 ∧ jx = 207 ∧ Ax = [.ref 363, .int (iI a)]) ∨ (k = 4 ∧ jx = 210 ∧ Ax = [.ref 363, .int (iI a), .int (iI b), .int (iI c)]) ∨ (k = 5 ∧ jx = 211 ∧ Ax = [.ref 363])) (h : sim (d - 1) n r C z jx Ax e G G1) : sim d n r C z 213 [.ref 363, .int (iI k), .int (iI a), .int (iI b), .int (iI c)] e G G1 := by
  intro m' q' w' hG hx
  obtain ⟨m2, h1, h2, h3⟩ := h m' q' w' hG hx
  refine ⟨m2, ?_, h2, h3⟩
  have h01 : iI e = iI 0 ∨ iI e = iI 1 := by
    rcases he with rfl | rfl
    · exact Or.inl rfl
    · exact Or.inr rfl
  rw [e_213 (by omega) _ rfl rfl rfl rfl rfl, b_213_0]
  rcases hk with ⟨rfl, rfl, rfl⟩ | ⟨rfl, rfl, rfl⟩ | ⟨rfl, rfl, rfl⟩ | ⟨rfl, rfl, rfl⟩ | ⟨rfl, rfl, rfl⟩ | ⟨rfl, rfl, rfl⟩
  · rw [if_pos (show iI ((0 : Nat) : Int) = iI 0 from rfl), h1]
    simp only [rBd_v, Option.toList_some, Option.toList_none, List.cons_append, List.nil_append, List.append_nil, b_213_10 h01]
  · rw [if_neg (show ¬ iI ((1 : Nat) : Int) = iI 0 by decide), if_pos (show iI ((1 : Nat) : Int) = iI 1 from rfl), h1]
    simp only [rBd_v, Option.toList_some, Option.toList_none, List.cons_append, List.nil_append, List.append_nil, b_213_20 h01]
  · rw [if_neg (show ¬ iI ((2 : Nat) : Int) = iI 0 by decide), if_neg (show ¬ iI ((2 : Nat) : Int) = iI 1 by decide), if_pos (show iI ((2 : Nat) : Int) = iI 2 from rfl), h1]
    simp only [rBd_v, Option.toList_some, Option.toList_none, List.cons_append, List.nil_append, List.append_nil, b_213_32 h01]
  · rw [if_neg (show ¬ iI ((3 : Nat) : Int) = iI 0 by decide), if_neg (show ¬ iI ((3 : Nat) : Int) = iI 1 by decide), if_neg (show ¬ iI ((3 : Nat) : Int) = iI 2 by decide), if_pos (show iI ((3 : Nat) : Int) = iI 3 from rfl), h1]
    simp only [rBd_v, Option.toList_some, Option.toList_none, List.cons_append, List.nil_append, List.append_nil, b_213_43 h01]
  · rw [if_neg (show ¬ iI ((4 : Nat) : Int) = iI 0 by decide), if_neg (show ¬ iI ((4 : Nat) : Int) = iI 1 by decide), if_neg (show ¬ iI ((4 : Nat) : Int) = iI 2 by decide), if_neg (show ¬ iI ((4 : Nat) : Int) = iI 3 by decide), if_pos (show iI ((4 : Nat) : Int) = iI 4 from rfl), h1]
    simp only [rBd_v, Option.toList_some, Option.toList_none, List.cons_append, List.nil_append, List.append_nil, b_213_57 h01]
  · rw [if_neg (show ¬ iI ((5 : Nat) : Int) = iI 0 by decide), if_neg (show ¬ iI ((5 : Nat) : Int) = iI 1 by decide), if_neg (show ¬ iI ((5 : Nat) : Int) = iI 2 by decide), if_neg (show ¬ iI ((5 : Nat) : Int) = iI 3 by decide), if_neg (show ¬ iI ((5 : Nat) : Int) = iI 4 by decide), if_pos (show iI ((5 : Nat) : Int) = iI 5 from rfl), h1]
    simp only [rBd_v, Option.toList_some, Option.toList_none, List.cons_append, List.nil_append, List.append_nil, b_213_67 h01]
theorem M_step (hd : 14 ≤ d) (hx : iFan x) (hy : clsL m y z) (hF : fnR n r 400 (m x) (m (x + 1)) (m (x + 2)) G) {k i : Nat} (hi : i < 148) {a b c : Int} (e1 : m 105 (3 * i) = a) (e2 : m 105 (3 * i + 1) = b) (e3 : m 105 (3 * i + 2) = c) (hk : okS n k a b c) : mov d n r 400 (m (y + 1)) z x 103 213 [.ref 103, .ref x, .ref y, .ref k, .int (iI (3 * (i : Int)))] [.ref 363, .int (iI k), .int (iI a), .int (iI b), .int (iI c)] m q w G := by
  have hn := hF.1.2.1
  have t0 : (3 * (i : Int)).toNat = 3 * i := by omega
  have t1 : (3 * (i : Int) + 1).toNat = 3 * i + 1 := by omega
  have t2 : (3 * (i : Int) + 2).toNat = 3 * i + 2 := by omega
  have hk8 : k < 8 := by unfold okS at hk; omega
  have hE := e_103 (d := d) (by omega) (mk m q w) (a0 := .ref 103) (a1 := .ref x) (a2 := .ref y) (a3 := .ref k) (a4 := .int (iI (3 * (i : Int)))) rfl rfl rfl rfl rfl
  rw [b_103_0 hx hy.1 hk8, T_6 (show 1 ≤ d - 1 by omega) (by omega : i32 (3 * (i : Int))) (by omega : i32 0) (by omega : i32 (((450 : Nat) : Int) - 3))] at hE
  simp only [rBd_v, Option.toList_some, Option.toList_none, List.cons_append, List.nil_append, List.append_nil, b_103_17 hx hy.1 hk8, zb_0] at hE
  rw [if_neg (not_not_intro (show 0 ≤ 3 * (i : Int) ∧ 3 * (i : Int) ≤ ((450 : Nat) : Int) - 3 by omega)), b_103_22 hx hy.1 hk8 (by omega) (by omega) (by omega) (by omega) (by omega) (by omega) (by omega), t0, t1, e1, e2] at hE
  have fin : ∀ {j jx : Nat} {As Ax : List Value}, mov (d - 1) n r 400 (m (y + 1)) z x j jx As Ax m q w G → (∀ (e : Int) (m1 : Nat → Nat → Int), (e = 0 ∨ e = 1) → ev (d - 1) j As (mk m q w) = vI e (mk m1 q w) → ev d 103 [.ref 103, .ref x, .ref y, .ref k, .int (iI (3 * (i : Int)))] (mk m q w) = vI e (mk m1 q w)) →
      ((k = 0 ∧ jx = 204 ∧ Ax = [.ref 363, .int (iI a), .int (iI b)]) ∨ (k = 1 ∧ jx = 205 ∧ Ax = [.ref 363]) ∨ (k = 2 ∧ jx = 206 ∧ Ax = [.ref 363, .int (iI a), .int (iI b)]) ∨ (k = 3 ∧ jx = 207 ∧ Ax = [.ref 363, .int (iI a)]) ∨ (k = 4 ∧ jx = 210 ∧ Ax = [.ref 363, .int (iI a), .int (iI b), .int (iI c)]) ∨ (k = 5 ∧ jx = 211 ∧ Ax = [.ref 363])) →
      mov d n r 400 (m (y + 1)) z x 103 213 [.ref 103, .ref x, .ref y, .ref k, .int (iI (3 * (i : Int)))] [.ref 363, .int (iI k), .int (iI a), .int (iI b), .int (iI c)] m q w G := by
    rintro j jx As Ax ⟨e, m1, G1, h1, h2, h3, h4, h5⟩ hc hq
    exact ⟨e, m1, G1, h1, hc e m1 h1 h2, h3, h4, sim_213 (by omega) h1 hq h5⟩
  have i01 : ∀ e : Int, (e = 0 ∨ e = 1) → iI e = iI 0 ∨ iI e = iI 1 := by
    rintro e (rfl | rfl)
    · exact Or.inl rfl
    · exact Or.inr rfl
  rcases hk with ⟨rfl, a0, a4, b1, b7⟩ | rfl | ⟨rfl, a0, an, b0, bn⟩ | ⟨rfl, a0, an⟩ | ⟨rfl, a0, an, b0, b4, c0, c16⟩ | rfl | rfl
  · obtain ⟨a, rfl⟩ := Int.eq_ofNat_of_zero_le a0
    obtain ⟨b, rfl⟩ := Int.eq_ofNat_of_zero_le (show 0 ≤ b by omega)
    refine fin (M_open (show 13 ≤ d - 1 by omega) hx hy hF (v := a) (k := b) (by omega) (by omega)) ?_ (Or.inl ⟨rfl, rfl, rfl⟩)
    intro e m1 he h
    rw [hE]
    refine Eq.trans (b_103_50_0 hx hy.1) ?_
    rw [b_103_88 hx hy.1]
    rw [h]
    simp only [rBd_v, Option.toList_some, Option.toList_none, List.cons_append, List.nil_append, List.append_nil, b_103_97 (i01 e he)]
  · obtain ⟨e, m1, G1, h1, h2, h3, h4, h5, -⟩ := M_shut (m := m) (q := q) (w := w) (z := z) (C := m (y + 1)) (show 2 ≤ d - 1 by omega) hx hF
    refine fin (j := 24) (jx := 205) ⟨e, m1, G1, h1, h2, h3, h4, h5⟩ ?_ (Or.inr (Or.inl ⟨rfl, rfl, rfl⟩))
    intro e m1 he h
    rw [hE]
    refine Eq.trans (b_103_50_1 hx hy.1) ?_
    rw [b_103_98 hx, h]
    simp only [rBd_v, Option.toList_some, Option.toList_none, List.cons_append, List.nil_append, List.append_nil, b_103_102 (i01 e he)]
  · obtain ⟨a, rfl⟩ := Int.eq_ofNat_of_zero_le a0
    obtain ⟨b, rfl⟩ := Int.eq_ofNat_of_zero_le b0
    refine fin (M_swap (show 3 ≤ d - 1 by omega) hx hF (a := a) (b := b) (by omega) (by omega)) ?_ (Or.inr (Or.inr (Or.inl ⟨rfl, rfl, rfl⟩)))
    intro e m1 he h
    rw [hE]
    refine Eq.trans (b_103_50_2 hx hy.1) ?_
    rw [b_103_103 hx]
    rw [h]
    simp only [rBd_v, Option.toList_some, Option.toList_none, List.cons_append, List.nil_append, List.append_nil, b_103_111 (i01 e he)]
  · obtain ⟨a, rfl⟩ := Int.eq_ofNat_of_zero_le a0
    refine fin (M_turn (show 3 ≤ d - 1 by omega) hx hF (a := a) (by omega)) ?_ (Or.inr (Or.inr (Or.inr (Or.inl ⟨rfl, rfl, rfl⟩))))
    intro e m1 he h
    rw [hE]
    refine Eq.trans (b_103_50_3 hx hy.1) ?_
    rw [b_103_112 hx]
    rw [h]
    simp only [rBd_v, Option.toList_some, Option.toList_none, List.cons_append, List.nil_append, List.append_nil, b_103_118 (i01 e he)]
  · obtain ⟨a, rfl⟩ := Int.eq_ofNat_of_zero_le a0
    obtain ⟨b, rfl⟩ := Int.eq_ofNat_of_zero_le b0
    obtain ⟨c, rfl⟩ := Int.eq_ofNat_of_zero_le c0
    refine fin (M_paint (show 4 ≤ d - 1 by omega) hx hF (a := a) (h := b) (c := c) (by omega) (by omega) (by omega)) ?_ (Or.inr (Or.inr (Or.inr (Or.inr (Or.inl ⟨rfl, rfl, rfl⟩)))))
    intro e m1 he h
    rw [hE]
    refine Eq.trans (b_103_50_4 hx hy.1) ?_
    rw [b_103_119 hx (by omega) (by omega), t2, e3]
    rw [h]
    simp only [rBd_v, Option.toList_some, Option.toList_none, List.cons_append, List.nil_append, List.append_nil, b_103_136 (i01 e he)]
  · refine fin (M_oil (show 1 ≤ d - 1 by omega) hx hF) ?_ (Or.inr (Or.inr (Or.inr (Or.inr (Or.inr ⟨rfl, rfl, rfl⟩)))))
    intro e m1 he h
    rw [hE]
    refine Eq.trans (b_103_50_5 hx hy.1) ?_
    rw [b_103_137 hx, h]
    simp only [rBd_v, Option.toList_some, Option.toList_none, List.cons_append, List.nil_append, List.append_nil, b_103_141 (i01 e he)]
  · obtain ⟨f0, f2, f3, f4, f5, f7, f8⟩ := id hF
    have hE2 : ev d 103 [.ref 103, .ref x, .ref y, .ref 6, .int (iI (3 * (i : Int)))] (mk m q w) = rBd (ev (d - 1) 50 [.ref x] (mk m q w)) (fun v M' => gv (d - 1) rR103 146 [some (.ref 103), some (.ref x), some (.ref y), some (.ref 6), some (.int (iI (3 * (i : Int)))), some (.int (iI a)), some (.int (iI b))] (v.toList ++ []) M') := by
      rw [hE]
      refine Eq.trans (b_103_50_d (s0 := 0) hx hy.1 (by omega) (by omega)) ?_
      exact b_103_142 hx
    have h50 := T_50 (m := m) (q := q) (w := w) (show 11 ≤ d - 1 by omega) hx (by omega) (by omega) (by omega)
    by_cases h4 : m x 4 < 400
    · obtain ⟨m1, G1, p1, p2, -, p3, p4, -, -⟩ := M_pass (m := m) (q := q) (w := w) (show 10 ≤ d - 1 by omega) hx hF
      have p5 : mk m1 q w = mk (wr (wr (wr m x 2 (if 3 < m x 2 then m x 2 - 3 else 0)) x 3 (if 97 < m x 3 then 99 else m x 3 + 2)) x 4 (m x 4 + 1)) q w := by
        rw [T_49 (show 10 ≤ d - 1 by omega) hx (by omega) (by omega)] at p1
        injection p1 with p1
        injection p1 with _ p1
        injection p1 with p1 _
        exact p1.symm
      rw [if_pos h4, ← p5] at h50
      rw [h50] at hE2
      simp only [rBd_v, Option.toList_some, Option.toList_none, List.cons_append, List.nil_append, List.append_nil, b_103_146 (Or.inr rfl)] at hE2
      refine ⟨1, m1, G1, Or.inr rfl, hE2, fun t t0 _ _ _ _ _ _ => p2 t t0, p3 h4, ?_⟩
      intro m' q' w' hG hx'
      refine ⟨row m' 377 G1, ?_, row_s _ _ _, fun t h _ _ => row_o _ _ _ h⟩
      rw [e_213 (by omega) _ rfl rfl rfl rfl rfl, b_213_0, if_neg (show ¬ iI ((6 : Nat) : Int) = iI 0 by decide), if_neg (show ¬ iI ((6 : Nat) : Int) = iI 1 by decide), if_neg (show ¬ iI ((6 : Nat) : Int) = iI 2 by decide), if_neg (show ¬ iI ((6 : Nat) : Int) = iI 3 by decide), if_neg (show ¬ iI ((6 : Nat) : Int) = iI 4 by decide), if_neg (show ¬ iI ((6 : Nat) : Int) = iI 5 by decide), if_pos (by rw [hG, iI_lt (by omega) (by omega)]; omega)]
      have p6 := M_pass (m := m) (q := q) (w := w) (show 10 ≤ d - 1 by omega) hx hF
      rw [p4 m' q' w' hG]
      simp only [rBd_v, Option.toList_some, Option.toList_none, List.cons_append, List.nil_append, List.append_nil, b_213_87]
    · rw [if_neg h4] at h50
      rw [h50] at hE2
      simp only [rBd_v, Option.toList_some, Option.toList_none, List.cons_append, List.nil_append, List.append_nil, b_103_146 (Or.inl rfl)] at hE2
      refine mov_no hF hE2 ?_
      intro m' q' w' hG hx'
      rw [e_213 (by omega) _ rfl rfl rfl rfl rfl, b_213_0, if_neg (show ¬ iI ((6 : Nat) : Int) = iI 0 by decide), if_neg (show ¬ iI ((6 : Nat) : Int) = iI 1 by decide), if_neg (show ¬ iI ((6 : Nat) : Int) = iI 2 by decide), if_neg (show ¬ iI ((6 : Nat) : Int) = iI 3 by decide), if_neg (show ¬ iI ((6 : Nat) : Int) = iI 4 by decide), if_neg (show ¬ iI ((6 : Nat) : Int) = iI 5 by decide), if_neg (by rw [hG, iI_lt (by omega) (by omega)]; omega)]
end S
