/-! ===== all deeds, by the reference ===== -/
section S
variable {d n : Nat} {m : Nat → Nat → Int} {q : Nat → Nat → Option Nat} {w : Option (Nat → Int64)} {r Q o : Nat} {A B C G : Nat → Int}
theorem X_217w (hd : 3 ≤ d) (hF : fnR n r Q A B C G) (hG : ∀ j, j < 42 → m 377 j = G j) (h6 : A 6 = o) (h15 : m 363 15 = n) {v k : Nat} (hv : v < 4) (hk : k < n) : ev d 217 [.ref 363, .int (iI v), .int (iI k)] (mk m q w) = vI (mkI n B C o v k) (mk m q w) := by
  have hn := hF.1.2.1
  have hb := fnR_o hF h6
  have hbs := hF.2.2.2.2.2.2.2.1
  rw [V_217 hd hv h15 hn hk (fun j hj => by
    have e1 := hbs.1 j hj
    have e2 := hbs.2.1 j hj
    rw [hG _ (by omega)]
    omega) (fun s hs => by
    have e1 := hb s hs
    have e2 := bt_01 o s
    rw [hG _ (by omega)]
    omega), mk_x2 (G2 := m 377) hF h6 hv hk hG]
theorem L_251i (hd : 4 ≤ d) (hF : fnR n r Q A B C G) (hG : ∀ j, j < 42 → m 377 j = G j) (h6 : A 6 = o) (h15 : m 363 15 = n) {i : Nat} (h48 : m 363 48 = i) (hi : i < 28) {v : Nat} (hv : v < 4) {u1 : Option Value} : ∀ (g k : Nat) (m1 : Nat → Nat → Int), k + g = n → (∀ a, a ≠ 387 → m1 a = m a) → ∃ (u3 : Option Value) (S : Nat → Int),
    gv d rR251 19 [some (.ref 363), u1, some (.int (iI (v : Int))), some (.int (iI (k : Int)))] [] (mk m1 q w) = gv d rR251 12 [some (.ref 363), u1, some (.int (iI ((v + 1 : Nat) : Int))), u3] [] (mk (row m1 387 S) q w) ∧
    (∀ k', k ≤ k' → k' < n → S ((i * 4 + v) * 7 + k') = mkI n B C o v k') ∧ (∀ j, j < (i * 4 + v) * 7 + k → S j = m1 387 j) := by
  have hn := hF.1.2.1
  intro g
  induction g with
  | zero =>
    intro k m1 hg hm
    refine ⟨some (.int (iI (k : Int))), m1 387, ?_, fun k' h1 h2 => by omega, fun _ _ => rfl⟩
    rw [b_251_19, hm 363 (by decide), h15, if_neg (by rw [iI_lt (by omega) (by omega)]; omega), row_self]
    rfl
  | succ g ih =>
    intro k m1 hg hm
    obtain ⟨u3, S, h1, h2, h3⟩ := ih (k + 1) (wr m1 387 ((i * 4 + v) * 7 + k) (mkI n B C o v k)) (by omega) (fun a ha => by rw [wr_o _ _ _ _ ha, hm a ha])
    refine ⟨u3, S, ?_, fun k' h4 h5 => ?_, fun j hj => ?_⟩
    · have hX := X_217w (d := d) (m := m1) (q := q) (w := w) (by omega) hF (fun j hj => by rw [hm 377 (by decide)]; exact hG j hj) h6 (by rw [hm 363 (by decide)]; exact h15) hv (show k < n by omega)
      rw [b_251_19, hm 363 (by decide), h15, h48, if_pos (by rw [iI_lt (by omega) (by omega)]; omega), hX]
      simp only [rBd_v, Option.toList_some, Option.toList_none, List.cons_append, List.nil_append, List.append_nil]
      rw [show (((i : Int) * 4 + v) * 7 + k) = (((i * 4 + v) * 7 + k : Nat) : Int) by omega, b_251_50 (by omega) (by omega), Int.toNat_natCast, show (k : Int) + 1 = ((k + 1 : Nat) : Int) from rfl, h1]
      unfold wr
      rw [row_row]
    · by_cases e : k' = k
      · subst e
        rw [h3 _ (by omega), wr_s]
      · exact h2 k' (by omega) h5
    · rw [h3 j (by omega), wr_b _ _ _ _ (by omega)]
theorem L_251 (hd : 4 ≤ d) (hF : fnR n r Q A B C G) (hG : ∀ j, j < 42 → m 377 j = G j) (h6 : A 6 = o) (h15 : m 363 15 = n) {i : Nat} (h48 : m 363 48 = i) (hi : i < 28) {u1 : Option Value} : ∀ (g v : Nat) (m1 : Nat → Nat → Int) (u3 : Option Value), v + g = 4 → (∀ a, a ≠ 387 → m1 a = m a) → ∃ (S : Nat → Int),
    gv d rR251 12 [some (.ref 363), u1, some (.int (iI (v : Int))), u3] [] (mk m1 q w) = vV (mk (wr (row m1 387 S) 363 48 (i + 1)) q w) ∧
    (∀ v' k', v ≤ v' → v' < 4 → k' < n → S ((i * 4 + v') * 7 + k') = mkI n B C o v' k') ∧ (∀ j, j < (i * 4 + v) * 7 → S j = m1 387 j) := by
  have hn := hF.1.2.1
  intro g
  induction g with
  | zero =>
    intro v m1 u3 hg hm
    refine ⟨m1 387, ?_, fun v' k' h1 h2 => by omega, fun _ _ => rfl⟩
    rw [b_251_12, if_neg (by rw [iI_lt (by omega) (by omega)]; omega), row_self, hm 363 (by decide), h48]
  | succ g ih =>
    intro v m1 u3 hg hm
    obtain ⟨u3', S1, h1, h2, h3⟩ := L_251i (m := m) (q := q) (w := w) (u1 := u1) hd hF hG h6 h15 h48 hi (v := v) (by omega) n 0 m1 (by omega) hm
    obtain ⟨S, h4, h5, h7⟩ := ih (v + 1) (row m1 387 S1) u3' (by omega) (fun a ha => by rw [row_o _ _ _ ha, hm a ha])
    refine ⟨S, ?_, fun v' k' a1 a2 a3 => ?_, fun j hj => ?_⟩
    · rw [b_251_12, if_pos (by rw [iI_lt (by omega) (by omega)]; omega), show iI 0 = iI ((0 : Nat) : Int) from rfl, h1, h4, row_row]
    · by_cases e : v' = v
      · subst e
        rw [h7 _ (by omega), row_s]
        exact h2 k' (by omega) a3
      · exact h5 v' k' (by omega) a2 a3
    · rw [h7 j (by omega), row_s, h3 j (by omega)]
/-- the reference has laid the deeds l -/
def rIs (n o : Nat) (B C : Nat → Int) (M0 M : Nat → Nat → Int) (l : List Nat) : Prop := (∀ a, a ≠ 363 → a ≠ 377 → a ≠ 387 → a ≠ 388 → M a = M0 a) ∧ (∀ j, j ≠ 48 → M 363 j = M0 363 j) ∧ M 363 48 = l.length ∧ lst (M 388) l ∧ ∀ (j c : Nat), l[j]? = some c → ∀ v k : Nat, v < 4 → k < n → M 387 ((j * 4 + v) * 7 + k) = sgc n o B C c v k
theorem V_251 (hd : 5 ≤ d) (hF : fnR n r Q A B C G) (h6 : A 6 = o) {M0 : Nat → Nat → Int} (h15 : M0 363 15 = n) {l : List Nat} (hI : rIs n o B C M0 m l) (hl : l.length < 28) {c : Nat} (hc : vld n c) (hG : ∀ j, j < 42 → m 377 j = sgG B G c j) : ∃ m' : Nat → Nat → Int, ev d 251 [.ref 363, .int (iI (c : Int))] (mk m q w) = vV (mk m' q w) ∧ rIs n o B C M0 m' (l ++ [c]) := by
  obtain ⟨i1, i2, i3, i4, i5⟩ := hI
  obtain ⟨s1, s2, s3⟩ := fnR_sg hF h6 hc
  have hn := hF.1.2.1
  obtain ⟨S, h1, h2, h3⟩ := L_251 (d := d - 1) (m := wr m 388 l.length c) (q := q) (w := w) (u1 := some (.int (iI (c : Int)))) (by omega) s1 (fun j hj => by rw [wr_o _ _ _ _ (by decide)]; exact hG j hj) s2 (by rw [wr_o _ _ _ _ (by decide), i2 15 (by decide)]; exact h15) (i := l.length) (by rw [wr_o _ _ _ _ (by decide)]; exact i3) hl 4 0 (wr m 388 l.length c) none (by omega) (fun _ _ => rfl)
  refine ⟨wr (row (wr m 388 l.length c) 387 S) 363 48 (l.length + 1), ?_, ?_, ?_, ?_, ?_, ?_⟩
  · rw [e_251 (by omega) _ rfl rfl, b_251_0 (by omega) (by omega), i3, Int.toNat_natCast]
    exact h1
  · intro a a1 a2 a3 a4
    rw [wr_o _ _ _ _ a1, row_o _ _ _ a3, wr_o _ _ _ _ a4, i1 a a1 a2 a3 a4]
  · intro j hj
    rw [wr_b _ _ _ _ hj, row_o _ _ _ (by decide), wr_o _ _ _ _ (by decide), i2 j hj]
  · rw [wr_s, List.length_append]
    rfl
  · rw [wr_o _ _ _ _ (by decide), row_o _ _ _ (by decide), wr_x]
    exact lst_add i4
  · intro j e he v k hv hk
    rw [wr_o _ _ _ _ (by decide), row_s]
    by_cases a1 : j < l.length
    · rw [List.getElem?_append_left a1] at he
      rw [h3 _ (by omega), wr_o _ _ _ _ (by decide)]
      exact i5 j e he v k hv hk
    · by_cases a2 : j = l.length
      · subst a2
        rw [List.getElem?_append_right (Nat.le_refl _), Nat.sub_self] at he
        cases he
        rw [h2 v k (by omega) hv hk]
        rfl
      · exfalso
        rw [List.getElem?_eq_none (by rw [List.length_append]; simp only [List.length_cons, List.length_nil]; omega)] at he
        cases he
/-- the row is taken and shut -/
def sh2 (M : Nat → Nat → Int) : Nat → Nat → Int := wr (cp M 376 377 48) 377 46 0
theorem sh2_o {M : Nat → Nat → Int} {a : Nat} (h : a ≠ 377) : sh2 M a = M a := by
  unfold sh2 cp
  rw [wr_o _ _ _ _ h, row_o _ _ _ h]
theorem sh2_7 {M : Nat → Nat → Int} {j : Nat} (h : j < 46) : sh2 M 377 j = M 376 j := by
  unfold sh2 cp
  rw [wr_b _ _ _ _ (by omega), row_s, if_pos (by omega)]
theorem sh2_6 {M : Nat → Nat → Int} : sh2 M 377 46 = 0 := by
  unfold sh2
  rw [wr_s]
theorem rIs_7 {B C : Nat → Int} {M0 M M1 : Nat → Nat → Int} {l : List Nat} (h : ∀ a, a ≠ 377 → M1 a = M a) (hI : rIs n o B C M0 M l) : rIs n o B C M0 M1 l := by
  obtain ⟨i1, i2, i3, i4, i5⟩ := hI
  unfold rIs
  rw [h 363 (by decide), h 387 (by decide), h 388 (by decide)]
  exact ⟨fun a a1 a2 a3 a4 => (h a a2).trans (i1 a a1 a2 a3 a4), i2, i3, i4, i5⟩
/-- a deed is done and kept -/
theorem X_turn (hd : 6 ≤ d) (hF : fnR n r Q A B C G) (h6 : A 6 = o) {M0 : Nat → Nat → Int} (h15 : M0 363 15 = n) (hG0 : ∀ j, j < 42 → M0 376 j = G j) {l : List Nat} (hI : rIs n o B C M0 m l) (hl : l.length < 28) {p : Nat} (hp : p < n) {u2 : Option Value} : ∃ m' : Nat → Nat → Int, gv d rR252 7 [some (.ref 363), some (.int (iI (p : Int))), u2] [] (mk m q w) = gv d rR252 7 [some (.ref 363), some (.int (iI ((p + 1 : Nat) : Int))), u2] [] (mk m' q w) ∧ rIs n o B C M0 m' (l ++ [p]) := by
  have hn := hF.1.2.1
  have hbs := hF.2.2.2.2.2.2.2.1
  have e1 := hbs.1 p hp
  have e2 := hbs.2.1 p hp
  have e376 : ∀ j, j < 42 → m 376 j = G j := fun j hj => by rw [hI.1 376 (by decide) (by decide) (by decide) (by decide)]; exact hG0 j hj
  have es : sh2 m 377 (28 + p) = B p := by rw [sh2_7 (by omega), e376 _ (by omega), e1]
  have hT := V_207 (d := d) (m := sh2 m) (q := q) (w := w) (by omega) (by rw [sh2_6]; omega) (a := p) (by omega) (by rw [es]; omega)
  rw [sh2_6, if_pos rfl, es] at hT
  obtain ⟨m', h1, h2⟩ := V_251 (d := d) (m := wr (sh2 m) 377 (35 + (B p).toNat) (1 - sh2 m 377 (35 + (B p).toNat))) (q := q) (w := w) (l := l) (c := p) (by omega) hF h6 h15 (rIs_7 (fun a ha => by rw [wr_o _ _ _ _ ha, sh2_o ha]) hI) hl (Or.inl hp) (fun j hj => by
    unfold sgG
    rw [if_pos (by omega), wr_x]
    by_cases e : j = 35 + (B p).toNat
    · subst e
      rw [row_s, row_s, sh2_7 (by omega), e376 _ (by omega)]
    · rw [row_o _ _ _ e, row_o _ _ _ e, sh2_7 (by omega), e376 _ (by omega)])
  refine ⟨m', ?_, h2⟩
  rw [b_252_7, hI.2.1 15 (by decide), h15, if_pos (by rw [iI_lt (by omega) (by omega)]; omega), V_200 (by omega)]
  simp only [rBd_v, Option.toList_some, Option.toList_none, List.cons_append, List.nil_append, List.append_nil]
  rw [b_252_19, show wr (cp m 376 377 48) 377 46 0 = sh2 m from rfl, hT]
  simp only [rBd_v, Option.toList_some, Option.toList_none, List.cons_append, List.nil_append, List.append_nil]
  rw [b_252_32, h1]
  simp only [rBd_v, Option.toList_some, Option.toList_none, List.cons_append, List.nil_append, List.append_nil]
  rw [b_252_38]
  rfl
theorem X_swap (hd : 6 ≤ d) (hF : fnR n r Q A B C G) (h6 : A 6 = o) {M0 : Nat → Nat → Int} (h15 : M0 363 15 = n) (hG0 : ∀ j, j < 42 → M0 376 j = G j) {l : List Nat} (hI : rIs n o B C M0 m l) (hl : l.length < 28) {p t : Nat} (hp : p < t) (ht : t < n) : ∃ m' : Nat → Nat → Int, gv d rR252 58 [some (.ref 363), some (.int (iI (p : Int))), some (.int (iI (t : Int)))] [] (mk m q w) = gv d rR252 58 [some (.ref 363), some (.int (iI (p : Int))), some (.int (iI ((t + 1 : Nat) : Int)))] [] (mk m' q w) ∧ rIs n o B C M0 m' (l ++ [100 + 10 * p + t]) := by
  have hn := hF.1.2.1
  have e376 : ∀ j, j < 42 → m 376 j = G j := fun j hj => by rw [hI.1 376 (by decide) (by decide) (by decide) (by decide)]; exact hG0 j hj
  have hT := V_206 (d := d) (m := sh2 m) (q := q) (w := w) (by omega) (by rw [sh2_6]; omega) (a := p) (b := t) (by omega) (by omega)
  rw [sh2_6, if_pos ⟨rfl, by omega⟩] at hT
  obtain ⟨m', h1, h2⟩ := V_251 (d := d) (m := wr (wr (sh2 m) 377 (28 + p) (sh2 m 377 (28 + t))) 377 (28 + t) (sh2 m 377 (28 + p))) (q := q) (w := w) (l := l) (c := 100 + 10 * p + t) (by omega) hF h6 h15 (rIs_7 (fun a ha => by rw [wr_o _ _ _ _ ha, wr_o _ _ _ _ ha, sh2_o ha]) hI) hl (Or.inr ⟨p, t, hp, ht, rfl⟩) (fun j hj => by
    unfold sgG
    rw [if_neg (by omega), show (100 + 10 * p + t - 100) / 10 = p by omega, show (100 + 10 * p + t) % 10 = t by omega, wr_x, wr_x]
    by_cases e : j = 28 + t
    · subst e
      rw [row_s, row_s, sh2_7 (by omega), e376 _ (by omega)]
    · rw [row_o _ _ _ e, row_o _ _ _ e]
      by_cases e2 : j = 28 + p
      · subst e2
        rw [row_s, row_s, sh2_7 (by omega), e376 _ (by omega)]
      · rw [row_o _ _ _ e2, row_o _ _ _ e2, sh2_7 (by omega), e376 _ (by omega)])
  refine ⟨m', ?_, h2⟩
  rw [b_252_58, hI.2.1 15 (by decide), h15, if_pos (by rw [iI_lt (by omega) (by omega)]; omega), V_200 (by omega)]
  simp only [rBd_v, Option.toList_some, Option.toList_none, List.cons_append, List.nil_append, List.append_nil]
  rw [b_252_70, show wr (cp m 376 377 48) 377 46 0 = sh2 m from rfl, hT]
  simp only [rBd_v, Option.toList_some, Option.toList_none, List.cons_append, List.nil_append, List.append_nil]
  rw [b_252_84, show (100 : Int) + 10 * p + t = ((100 + 10 * p + t : Nat) : Int) by omega, h1]
  simp only [rBd_v, Option.toList_some, Option.toList_none, List.cons_append, List.nil_append, List.append_nil]
  rw [b_252_98]
  rfl
theorem L_252a (hd : 6 ≤ d) (hF : fnR n r Q A B C G) (h6 : A 6 = o) {M0 : Nat → Nat → Int} (h15 : M0 363 15 = n) (hG0 : ∀ j, j < 42 → M0 376 j = G j) {u2 : Option Value} : ∀ (g p : Nat) (m : Nat → Nat → Int) (l : List Nat), p + g = n → rIs n o B C M0 m l → l.length + g ≤ 28 → ∃ m' : Nat → Nat → Int, gv d rR252 7 [some (.ref 363), some (.int (iI (p : Int))), u2] [] (mk m q w) = gv d rR252 46 [some (.ref 363), some (.int (iI 0)), u2] [] (mk m' q w) ∧ rIs n o B C M0 m' (l ++ cl1 g p) := by
  have hn := hF.1.2.1
  intro g
  induction g with
  | zero =>
    intro p m l hg hI hl
    refine ⟨m, ?_, ?_⟩
    · rw [b_252_7, hI.2.1 15 (by decide), h15, if_neg (by rw [iI_lt (by omega) (by omega)]; omega)]
    · rw [show cl1 0 p = [] from rfl, List.append_nil]
      exact hI
  | succ g ih =>
    intro p m l hg hI hl
    obtain ⟨m1, h1, h2⟩ := X_turn (q := q) (w := w) (u2 := u2) hd hF h6 h15 hG0 hI (by omega) (p := p) (by omega)
    obtain ⟨m2, h3, h4⟩ := ih (p + 1) m1 (l ++ [p]) (by omega) h2 (by rw [List.length_append]; simp only [List.length_cons, List.length_nil]; omega)
    refine ⟨m2, h1.trans h3, ?_⟩
    rw [List.append_assoc] at h4
    exact h4
theorem L_252i (hd : 6 ≤ d) (hF : fnR n r Q A B C G) (h6 : A 6 = o) {M0 : Nat → Nat → Int} (h15 : M0 363 15 = n) (hG0 : ∀ j, j < 42 → M0 376 j = G j) {p : Nat} (hp : p < n) : ∀ (g t : Nat) (m : Nat → Nat → Int) (l : List Nat), t + g = n → p < t → rIs n o B C M0 m l → l.length + g ≤ 28 → ∃ (u2 : Option Value) (m' : Nat → Nat → Int), gv d rR252 58 [some (.ref 363), some (.int (iI (p : Int))), some (.int (iI (t : Int)))] [] (mk m q w) = gv d rR252 46 [some (.ref 363), some (.int (iI ((p + 1 : Nat) : Int))), u2] [] (mk m' q w) ∧ rIs n o B C M0 m' (l ++ cl2i p g t) := by
  have hn := hF.1.2.1
  intro g
  induction g with
  | zero =>
    intro t m l hg ht hI hl
    refine ⟨some (.int (iI (t : Int))), m, ?_, ?_⟩
    · rw [b_252_58, hI.2.1 15 (by decide), h15, if_neg (by rw [iI_lt (by omega) (by omega)]; omega)]
      rfl
    · rw [show cl2i p 0 t = [] from rfl, List.append_nil]
      exact hI
  | succ g ih =>
    intro t m l hg ht hI hl
    obtain ⟨m1, h1, h2⟩ := X_swap (q := q) (w := w) hd hF h6 h15 hG0 hI (by omega) (p := p) (t := t) ht (by omega)
    obtain ⟨u2, m2, h3, h4⟩ := ih (t + 1) m1 (l ++ [100 + 10 * p + t]) (by omega) (by omega) h2 (by rw [List.length_append]; simp only [List.length_cons, List.length_nil]; omega)
    refine ⟨u2, m2, h1.trans h3, ?_⟩
    rw [List.append_assoc] at h4
    exact h4
theorem L_252b (hd : 6 ≤ d) (hF : fnR n r Q A B C G) (h6 : A 6 = o) {M0 : Nat → Nat → Int} (h15 : M0 363 15 = n) (hG0 : ∀ j, j < 42 → M0 376 j = G j) : ∀ (g p : Nat) (m : Nat → Nat → Int) (l : List Nat) (u2 : Option Value), p + g = n → rIs n o B C M0 m l → l.length + (cl2 n g p).length ≤ 28 → ∃ m' : Nat → Nat → Int, gv d rR252 46 [some (.ref 363), some (.int (iI (p : Int))), u2] [] (mk m q w) = vV (mk m' q w) ∧ rIs n o B C M0 m' (l ++ cl2 n g p) := by
  have hn := hF.1.2.1
  intro g
  induction g with
  | zero =>
    intro p m l u2 hg hI hl
    refine ⟨m, ?_, ?_⟩
    · rw [b_252_46, hI.2.1 15 (by decide), h15, if_neg (by rw [iI_lt (by omega) (by omega)]; omega)]
    · rw [show cl2 n 0 p = [] from rfl, List.append_nil]
      exact hI
  | succ g ih =>
    intro p m l u2 hg hI hl
    rw [show cl2 n (g + 1) p = cl2i p (n - (p + 1)) (p + 1) ++ cl2 n g (p + 1) from rfl, List.length_append, cl2i_len] at hl
    obtain ⟨u3, m1, h1, h2⟩ := L_252i (q := q) (w := w) hd hF h6 h15 hG0 (p := p) (by omega) (n - (p + 1)) (p + 1) m l (by omega) (by omega) hI (by omega)
    obtain ⟨m2, h3, h4⟩ := ih (p + 1) m1 _ u3 (by omega) h2 (by rw [List.length_append, cl2i_len]; omega)
    refine ⟨m2, ?_, ?_⟩
    · rw [b_252_46, hI.2.1 15 (by decide), h15, if_pos (by rw [iI_lt (by omega) (by omega)]; omega)]
      exact h1.trans h3
    · rw [show cl2 n (g + 1) p = cl2i p (n - (p + 1)) (p + 1) ++ cl2 n g (p + 1) from rfl, ← List.append_assoc]
      exact h4
theorem V_252 (hd : 7 ≤ d) (hF : fnR n r Q A B C G) (h6 : A 6 = o) (h15 : m 363 15 = n) (hG0 : ∀ j, j < 42 → m 376 j = G j) : ∃ m' : Nat → Nat → Int, ev d 252 [.ref 363] (mk m q w) = vV (mk m' q w) ∧ rIs n o B C m m' (cL n) := by
  have hn := hF.1.2.1
  obtain ⟨c1, c2⟩ := cL_len n (by omega)
  unfold cL at c1
  rw [List.length_append, c2] at c1
  obtain ⟨m1, h1, h2⟩ := L_252a (d := d - 1) (q := q) (w := w) (u2 := none) (by omega) hF h6 (M0 := m) h15 hG0 n 0 (wr m 363 48 0) [] (by omega) ⟨fun a a1 a2 a3 a4 => wr_o _ _ _ _ a1, fun j hj => wr_b _ _ _ _ hj, wr_s _ _ _ _, lst_nil, fun j c h => by cases h⟩ (by simp only [List.length_nil]; omega)
  obtain ⟨m2, h3, h4⟩ := L_252b (d := d - 1) (q := q) (w := w) (by omega) hF h6 (M0 := m) h15 hG0 n 0 m1 _ none (by omega) h2 (by rw [List.nil_append, c2]; omega)
  refine ⟨m2, ?_, h4⟩
  rw [e_252 (by omega) _ rfl, b_252_0]
  exact h1.trans h3
end S
