/-! ===== all deeds, by both ===== -/
def cl1 : Nat → Nat → List Nat
  | 0, _ => []
  | g + 1, p => p :: cl1 g (p + 1)
def cl2i (p : Nat) : Nat → Nat → List Nat
  | 0, _ => []
  | g + 1, q => (100 + 10 * p + q) :: cl2i p g (q + 1)
def cl2 (n : Nat) : Nat → Nat → List Nat
  | 0, _ => []
  | g + 1, p => cl2i p (n - (p + 1)) (p + 1) ++ cl2 n g (p + 1)
/-- the changes in their order -/
def cL (n : Nat) : List Nat := cl1 n 0 ++ cl2 n n 0
theorem cL_len : ∀ n : Nat, n < 8 → (cL n).length ≤ 28 ∧ (cl1 n 0).length = n := by decide +kernel
theorem cl1_v {n : Nat} : ∀ (g p c : Nat), p + g = n → c ∈ cl1 g p → vld n c := by
  intro g
  induction g with
  | zero =>
    intro p c _ h
    cases h
  | succ g ih =>
    intro p c hg h
    rcases List.mem_cons.mp h with e | h2
    · exact Or.inl (by omega)
    · exact ih (p + 1) c (by omega) h2
theorem cl2i_v {n p : Nat} : ∀ (g q c : Nat), q + g = n → p < q → c ∈ cl2i p g q → vld n c := by
  intro g
  induction g with
  | zero =>
    intro q c _ _ h
    cases h
  | succ g ih =>
    intro q c hg hq h
    rcases List.mem_cons.mp h with e | h2
    · exact Or.inr ⟨p, q, hq, by omega, e⟩
    · exact ih (q + 1) c (by omega) (by omega) h2
theorem cl2_v {n : Nat} : ∀ (g p c : Nat), p + g = n → c ∈ cl2 n g p → vld n c := by
  intro g
  induction g with
  | zero =>
    intro p c _ h
    cases h
  | succ g ih =>
    intro p c hg h
    rcases List.mem_append.mp h with h2 | h2
    · exact cl2i_v (n - (p + 1)) (p + 1) c (by omega) (by omega) h2
    · exact ih (p + 1) c (by omega) h2
theorem cL_v {n c : Nat} (h : c ∈ cL n) : vld n c := by
  rcases List.mem_append.mp h with h2 | h2
  · exact cl1_v n 0 c (by omega) h2
  · exact cl2_v n 0 c (by omega) h2
theorem cl1_len : ∀ (g p : Nat), (cl1 g p).length = g := by
  intro g
  induction g with
  | zero => intro p; rfl
  | succ g ih =>
    intro p
    exact congrArg (· + 1) (ih (p + 1))
theorem cl2i_len {p : Nat} : ∀ (g q : Nat), (cl2i p g q).length = g := by
  intro g
  induction g with
  | zero => intro q; rfl
  | succ g ih =>
    intro q
    exact congrArg (· + 1) (ih (q + 1))
theorem vld_lt {n c : Nat} (hn : n ≤ 7) (h : vld n c) : c < 200 := by
  rcases h with h | ⟨p, q, h1, h2, h3⟩ <;> omega
/-- the rows that lie in order -/
def lst (f : Nat → Int) (l : List Nat) : Prop := ∀ (j c : Nat), l[j]? = some c → f j = (c : Int)
theorem lst_add {f : Nat → Int} {l : List Nat} {c : Nat} (h : lst f l) : lst (row f l.length c) (l ++ [c]) := by
  intro j e he
  by_cases h1 : j < l.length
  · rw [List.getElem?_append_left h1] at he
    rw [row_o _ _ _ (by omega)]
    exact h j e he
  · by_cases h2 : j = l.length
    · subst h2
      rw [List.getElem?_append_right (Nat.le_refl _), Nat.sub_self] at he
      cases he
      rw [row_s]
    · exfalso
      rw [List.getElem?_eq_none (by rw [List.length_append]; simp only [List.length_cons, List.length_nil]; omega)] at he
      cases he
theorem lst_nil {f : Nat → Int} : lst f [] := fun j c h => by
  cases h
section S
variable {d n : Nat} {m : Nat → Nat → Int} {q : Nat → Nat → Option Nat} {w : Option (Nat → Int64)} {r Q o : Nat} {G : Nat → Int} {b z : Nat}
/-- whether a change is right by the book -/
def fitB (m : Nat → Nat → Int) (n o b z c : Nat) : Bool := decide (ftP z (m (b + 1)) (m (b + 2)) (m (b + 3)) (fun v k => sgc n o (m 173) (m 174) c v k))
/-- the class has found l so far -/
def cIs (m0 m : Nat → Nat → Int) (l : List Nat) : Prop := (∀ a, a ≠ 171 → a ≠ 175 → m a = m0 a) ∧ m 171 3 = l.length ∧ lst (m 175) l
abbrev hFt (m : Nat → Nat → Int) (n r Q o b z : Nat) (G : Nat → Int) : Prop := fnR n r Q (m 172) (m 173) (m 174) G ∧ m 172 6 = o ∧ m 172 7 = -1 ∧ iBook b ∧ m b 3 = z ∧ z ≤ 7 ∧ ∀ i, i < z → (0 ≤ m (b + 1) i ∧ m (b + 1) i ≤ 3) ∧ (0 ≤ m (b + 2) i ∧ m (b + 2) i ≤ 6) ∧ (0 ≤ m (b + 3) i ∧ m (b + 3) i ≤ 15)
theorem T_53 (hd : 7 ≤ d) {m0 : Nat → Nat → Int} (h0 : hFt m0 n r Q o b z G) {l : List Nat} (hI : cIs m0 m l) (hl : l.length < 28) {c : Nat} (hc : vld n c) : ∃ m' : Nat → Nat → Int, ev d 53 [.ref 171, .int (iI (c : Int)), .ref b] (mk m q w) = vV (mk m' q w) ∧ cIs m0 m' (l ++ [c].filter (fitB m0 n o b z)) := by
  obtain ⟨hF, h6, h7, hb, hz, hz7, hV⟩ := h0
  obtain ⟨i1, i2, i3⟩ := hI
  have hbk := book_two hb
  have e172 : m 172 = m0 172 := i1 172 (by decide) (by decide)
  have e173 : m 173 = m0 173 := i1 173 (by decide) (by decide)
  have e174 : m 174 = m0 174 := i1 174 (by decide) (by decide)
  have hF1 : fnR n r Q (m 172) (m 173) (m 174) G := by rw [e172, e173, e174]; exact hF
  have h61 : m 172 6 = o := by rw [e172]; exact h6
  have h71 : m 172 7 = -1 := by rw [e172]; exact h7
  obtain ⟨k1, k2, k3⟩ := mkF_k hF1 h61 hc
  have hT := T_20 (d := d - 1) (m := mkF m o c) (q := q) (w := w) (n := n) (o := sgo o (m 173) c) (x := 172) (b := b) (z := z) (by omega) f172 hb k1 k2 (by rw [mkF_o (by decide) (by decide)]; exact k3) (by rw [mkF_o (by omega) (by omega), i1 b (by omega) (by omega)]; exact hz) hz7 (by rw [mkF_o (by omega) (by omega), mkF_o (by omega) (by omega), mkF_o (by omega) (by omega), i1 (b + 1) (by omega) (by omega), i1 (b + 2) (by omega) (by omega), i1 (b + 3) (by omega) (by omega)]; exact hV)
  rw [mkF_o (show b + 1 ≠ 172 by omega) (by omega), mkF_o (show b + 2 ≠ 172 by omega) (by omega), mkF_o (show b + 3 ≠ 172 by omega) (by omega), i1 (b + 1) (by omega) (by omega), i1 (b + 2) (by omega) (by omega), i1 (b + 3) (by omega) (by omega), show (172 : Nat) + 1 = 173 from rfl, show (172 : Nat) + 2 = 174 from rfl, mkF_3, mkF_o (show 174 ≠ 172 by decide) (by decide), e173, e174] at hT
  have hT2 : ev (d - 1) 20 [.ref b, .ref 172] (mk (mkF m o c) q w) = vI (zb (ftP z (m0 (b + 1)) (m0 (b + 2)) (m0 (b + 3)) (fun v k => sgc n o (m0 173) (m0 174) c v k))) (mk (mkF m o c) q w) := hT
  rw [e_53 (by omega) _ rfl rfl rfl, b_53_0 hb, T_52 (by omega) hF1 h61 h71 hc]
  simp only [rBd_v, Option.toList_some, Option.toList_none, List.cons_append, List.nil_append, List.append_nil]
  rw [b_53_5 hb, hT2]
  simp only [rBd_v, Option.toList_some, Option.toList_none, List.cons_append, List.nil_append, List.append_nil]
  rw [b_53_13, T_52b (by omega) hF1 h61 h71 hc]
  simp only [rBd_v, Option.toList_some, Option.toList_none, List.cons_append, List.nil_append, List.append_nil]
  rw [b_53_19]
  simp only [zb_0]
  by_cases hf : ftP z (m0 (b + 1)) (m0 (b + 2)) (m0 (b + 3)) (fun v k => sgc n o (m0 173) (m0 174) c v k)
  · have hfb : fitB m0 n o b z c = true := decide_eq_true hf
    refine ⟨wr (wr m 175 l.length c) 171 3 ((l.length : Int) + 1), ?_, ?_⟩
    · rw [if_neg (not_not_intro hf), if_pos (by rw [i2, iI_lt (by omega) (by omega)]; omega), b_53_35 (by omega) (by omega), b_53_55, i2, wr_o _ _ _ _ (by decide), i2, Int.toNat_natCast]
    · rw [show [c].filter (fitB m0 n o b z) = [c] by simp [List.filter, hfb]]
      refine ⟨fun a a1 a2 => by rw [wr_o _ _ _ _ a1, wr_o _ _ _ _ a2, i1 a a1 a2], ?_, ?_⟩
      · rw [wr_s, List.length_append]
        rfl
      · rw [wr_o _ _ _ _ (by decide), wr_x]
        exact lst_add i3
  · have hfb : fitB m0 n o b z c = false := decide_eq_false hf
    refine ⟨m, ?_, ?_⟩
    · rw [if_pos hf, b_53_55]
    · rw [show [c].filter (fitB m0 n o b z) = [] by simp [List.filter, hfb], List.append_nil]
      exact ⟨i1, i2, i3⟩
theorem L_54a (hd : 8 ≤ d) {m0 : Nat → Nat → Int} (h0 : hFt m0 n r Q o b z G) {u1 u4 : Option Value} : ∀ (g p : Nat) (m : Nat → Nat → Int) (l : List Nat), p + g = n → cIs m0 m l → l.length + g ≤ 28 → ∃ m' : Nat → Nat → Int,
    gv d rR54 23 [some (.ref 171), u1, some (.ref b), some (.int (iI (p : Int))), u4] [] (mk m q w) = gv d rR54 48 [some (.ref 171), u1, some (.ref b), some (.int (iI 0)), u4] [] (mk m' q w) ∧ cIs m0 m' (l ++ (cl1 g p).filter (fitB m0 n o b z)) := by
  have hn : m0 172 0 = n := h0.1.1.1
  have hn7 := h0.1.1.2.1
  have hb := h0.2.2.2.1
  intro g
  induction g with
  | zero =>
    intro p m l hg hI hl
    refine ⟨m, ?_, ?_⟩
    · rw [b_54_23 hb, hI.1 172 (by decide) (by decide), hn, if_neg (by rw [iI_lt (by omega) (by omega)]; omega)]
    · rw [show cl1 0 p = [] from rfl, List.filter_nil, List.append_nil]
      exact hI
  | succ g ih =>
    intro p m l hg hI hl
    obtain ⟨m1, h1, h2⟩ := T_53 (d := d) (m := m) (q := q) (w := w) (by omega) h0 hI (by omega) (c := p) (Or.inl (by omega))
    have hle := List.length_filter_le (fitB m0 n o b z) [p]
    obtain ⟨m2, h3, h4⟩ := ih (p + 1) m1 _ (by omega) h2 (by rw [List.length_append]; simp only [List.length_cons, List.length_nil] at hle; omega)
    refine ⟨m2, ?_, ?_⟩
    · rw [b_54_23 hb, hI.1 172 (by decide) (by decide), hn, if_pos (by rw [iI_lt (by omega) (by omega)]; omega), h1]
      simp only [rBd_v, Option.toList_some, Option.toList_none, List.cons_append, List.nil_append, List.append_nil]
      rw [b_54_40 hb, show (p : Int) + 1 = ((p + 1 : Nat) : Int) from rfl, h3]
    · rw [List.append_assoc, ← List.filter_append] at h4
      exact h4
theorem L_54i (hd : 8 ≤ d) {m0 : Nat → Nat → Int} (h0 : hFt m0 n r Q o b z G) {u1 : Option Value} {p : Nat} (hp : p < n) : ∀ (g t : Nat) (m : Nat → Nat → Int) (l : List Nat), t + g = n → p < t → cIs m0 m l → l.length + g ≤ 28 → ∃ (u4 : Option Value) (m' : Nat → Nat → Int),
    gv d rR54 64 [some (.ref 171), u1, some (.ref b), some (.int (iI (p : Int))), some (.int (iI (t : Int)))] [] (mk m q w) = gv d rR54 48 [some (.ref 171), u1, some (.ref b), some (.int (iI ((p + 1 : Nat) : Int))), u4] [] (mk m' q w) ∧ cIs m0 m' (l ++ (cl2i p g t).filter (fitB m0 n o b z)) := by
  have hn : m0 172 0 = n := h0.1.1.1
  have hn7 := h0.1.1.2.1
  have hb := h0.2.2.2.1
  intro g
  induction g with
  | zero =>
    intro t m l hg ht hI hl
    refine ⟨some (.int (iI (t : Int))), m, ?_, ?_⟩
    · rw [b_54_64 hb, hI.1 172 (by decide) (by decide), hn, if_neg (by rw [iI_lt (by omega) (by omega)]; omega)]
      rfl
    · rw [show cl2i p 0 t = [] from rfl, List.filter_nil, List.append_nil]
      exact hI
  | succ g ih =>
    intro t m l hg ht hI hl
    obtain ⟨m1, h1, h2⟩ := T_53 (d := d) (m := m) (q := q) (w := w) (by omega) h0 hI (by omega) (c := 100 + 10 * p + t) (Or.inr ⟨p, t, ht, by omega, rfl⟩)
    have hle := List.length_filter_le (fitB m0 n o b z) [100 + 10 * p + t]
    obtain ⟨u4, m2, h3, h4⟩ := ih (t + 1) m1 _ (by omega) (by omega) h2 (by rw [List.length_append]; simp only [List.length_cons, List.length_nil] at hle; omega)
    refine ⟨u4, m2, ?_, ?_⟩
    · rw [b_54_64 hb, hI.1 172 (by decide) (by decide), hn, if_pos (by rw [iI_lt (by omega) (by omega)]; omega), show (100 : Int) + 10 * p + t = ((100 + 10 * p + t : Nat) : Int) by omega, h1]
      simp only [rBd_v, Option.toList_some, Option.toList_none, List.cons_append, List.nil_append, List.append_nil]
      rw [b_54_91 hb, show (t : Int) + 1 = ((t + 1 : Nat) : Int) from rfl, h3]
    · rw [List.append_assoc, ← List.filter_append] at h4
      exact h4
theorem L_54b (hd : 8 ≤ d) {m0 : Nat → Nat → Int} (h0 : hFt m0 n r Q o b z G) {u1 : Option Value} : ∀ (g p : Nat) (m : Nat → Nat → Int) (l : List Nat) (u4 : Option Value), p + g = n → cIs m0 m l → l.length + (cl2 n g p).length ≤ 28 → ∃ m' : Nat → Nat → Int,
    gv d rR54 48 [some (.ref 171), u1, some (.ref b), some (.int (iI (p : Int))), u4] [] (mk m q w) = vV (mk m' q w) ∧ cIs m0 m' (l ++ (cl2 n g p).filter (fitB m0 n o b z)) := by
  have hn : m0 172 0 = n := h0.1.1.1
  have hn7 := h0.1.1.2.1
  have hb := h0.2.2.2.1
  intro g
  induction g with
  | zero =>
    intro p m l u4 hg hI hl
    refine ⟨m, ?_, ?_⟩
    · rw [b_54_48 hb, hI.1 172 (by decide) (by decide), hn, if_neg (by rw [iI_lt (by omega) (by omega)]; omega)]
    · rw [show cl2 n 0 p = [] from rfl, List.filter_nil, List.append_nil]
      exact hI
  | succ g ih =>
    intro p m l u4 hg hI hl
    rw [show cl2 n (g + 1) p = cl2i p (n - (p + 1)) (p + 1) ++ cl2 n g (p + 1) from rfl, List.length_append, cl2i_len] at hl
    obtain ⟨u5, m1, h1, h2⟩ := L_54i (q := q) (w := w) (u1 := u1) hd h0 (p := p) (by omega) (n - (p + 1)) (p + 1) m l (by omega) (by omega) hI (by omega)
    have hle := List.length_filter_le (fitB m0 n o b z) (cl2i p (n - (p + 1)) (p + 1))
    rw [cl2i_len] at hle
    obtain ⟨m2, h3, h4⟩ := ih (p + 1) m1 _ u5 (by omega) h2 (by rw [List.length_append]; omega)
    refine ⟨m2, ?_, ?_⟩
    · rw [b_54_48 hb, hI.1 172 (by decide) (by decide), hn, if_pos (by rw [iI_lt (by omega) (by omega)]; omega)]
      exact h1.trans h3
    · rw [show cl2 n (g + 1) p = cl2i p (n - (p + 1)) (p + 1) ++ cl2 n g (p + 1) from rfl, List.filter_append, ← List.append_assoc]
      exact h4
end S
