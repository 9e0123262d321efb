/-! ===== the call fits, alike ===== -/
theorem sgc_r {n r Q o : Nat} {A B C G : Nat → Int} (hF : fnR n r Q A B C G) (h6 : A 6 = o) {c v k : Nat} (hc : vld n c) (hv : v < 4) (hk : k < n) : 0 ≤ sgc n o B C c v k ∧ sgc n o B C c v k ≤ 15 := by
  obtain ⟨h1, h2, h3⟩ := fnR_sg hF h6 hc
  have hp := pl_in (v := v) hk
  unfold sgc
  rw [mk_lm hk]
  exact fnR_lr h1 h2 (by omega) hv
theorem shut_F {n r Q : Nat} {A B C G A1 : Nat → Int} (hF : fnR n r Q A B C G) (h : ∀ j, j < 7 → A1 j = A j) (h7 : A1 7 = -1) (h8 : A1 8 = 0) : fnR n r Q A1 B C (row (row G 45 (-1)) 46 0) := by
  obtain ⟨f0, f2, f3, f4, f5, f7, f8⟩ := id hF
  refine fnR_fld hF (h 0 (by decide)) (h 1 (by decide)) ?_ ?_ ?_ ?_ (h 6 (by decide)) ?_ ?_
  · rw [h 2 (by decide), row_o _ _ _ (by decide), row_o _ _ _ (by decide)]
    exact f2
  · rw [h 3 (by decide), row_o _ _ _ (by decide), row_o _ _ _ (by decide)]
    exact f3
  · rw [h 4 (by decide), row_o _ _ _ (by decide), row_o _ _ _ (by decide)]
    exact f4
  · rw [h 5 (by decide), row_o _ _ _ (by decide), row_o _ _ _ (by decide)]
    exact f5
  · rw [h7, h8, row_o _ _ _ (by decide), row_s, row_s]
    exact ⟨rfl, rfl, Or.inl ⟨rfl, rfl⟩⟩
  · intro j hj
    rw [row_o _ _ _ (by omega), row_o _ _ _ (by omega)]
def hdI : List Nat → Int
  | [] => -1
  | c :: _ => (c : Int)
theorem hdI_add {l : List Nat} {c : Nat} : hdI (l ++ [c]) = if hdI l = -1 then (c : Int) else hdI l := by
  cases l with
  | nil => rfl
  | cons a l =>
    rw [show hdI (a :: l ++ [c]) = (a : Int) from rfl, show hdI (a :: l) = (a : Int) from rfl, if_neg (by omega)]
theorem hdI_r {l : List Nat} (h : ∀ c, c ∈ l → c < 200) : -1 ≤ hdI l ∧ hdI l < 200 := by
  cases l with
  | nil => exact ⟨by decide, by decide⟩
  | cons a l =>
    have := h a List.mem_cons_self
    show -1 ≤ (a : Int) ∧ (a : Int) < 200
    omega
section S
variable {d n : Nat} {m : Nat → Nat → Int} {q : Nat → Nat → Option Nat} {w : Option (Nat → Int64)} {r Q o b z : Nat} {A B C G : Nat → Int}
/-- the class has found -/
def fdn (m m0 m1 : Nat → Nat → Int) (n r o b z : Nat) : Prop := hFt m0 n r 400 o b z (row (row (m 376) 45 (-1)) 46 0) ∧ cIs m0 m1 ((cL n).filter (fitB m0 n o b z)) ∧ (∀ a, a < 171 ∨ 175 < a → m0 a = m a)
theorem T_54 (hd : 14 ≤ d) (hF : fnR n r 400 (m 108) (m 109) (m 110) (m 376)) (h6 : m 108 6 = o) (hb : iBook b) (hz : m b 3 = z) (hz7 : z ≤ 7) (hV : ∀ i, i < z → (0 ≤ m (b + 1) i ∧ m (b + 1) i ≤ 3) ∧ (0 ≤ m (b + 2) i ∧ m (b + 2) i ≤ 6) ∧ (0 ≤ m (b + 3) i ∧ m (b + 3) i ≤ 15)) : ∃ m0 m1 : Nat → Nat → Int, ev d 54 [.ref 171, .ref 108, .ref b] (mk m q w) = vV (mk m1 q w) ∧ fdn m m0 m1 n r o b z := by
  have hn7 := hF.1.2.1
  have hbk := book_two hb
  obtain ⟨c1, c2⟩ := cL_len n (by omega)
  unfold cL at c1
  rw [List.length_append, c2] at c1
  have hFb := fnR_bc (m := m) (x := 172) (y := 108) hF
  have h7i : i32 (bc m 172 108 172 7) := by
    have := hFb.2.2.2.2.2.1
    omega
  have hT := T_24 (d := d - 1) (m := bc m 172 108) (q := q) (w := w) (by omega) f172 h7i
  obtain ⟨e, ms, h1, h2, h3, h4, h5⟩ : ∃ (e : Int) (ms : Nat → Nat → Int), ev (d - 1) 24 [.ref 172] (mk (bc m 172 108) q w) = vI e (mk ms q w) ∧ (∀ a, a ≠ 172 → ms a = bc m 172 108 a) ∧ (∀ j, j < 7 → ms 172 j = bc m 172 108 172 j) ∧ ms 172 7 = -1 ∧ ms 172 8 = 0 := by
    by_cases c : bc m 172 108 172 7 = -1
    · rw [if_pos c] at hT
      have h8 := hFb.2.2.2.2.2.1
      exact ⟨0, _, hT, fun _ _ => rfl, fun _ _ => rfl, c, by omega⟩
    · rw [if_neg c] at hT
      refine ⟨1, _, hT, fun a ha => by rw [wr_o _ _ _ _ ha, wr_o _ _ _ _ ha], fun j hj => by rw [wr_b _ _ _ _ (by omega), wr_b _ _ _ _ (by omega)], ?_, wr_s _ _ _ _⟩
      rw [wr_b _ _ _ _ (by decide), wr_s]
  have hmo : ∀ a, a < 171 ∨ 175 < a → wr ms 171 3 0 a = m a := fun a ha => by rw [wr_o _ _ _ _ (by omega), h2 a (by omega), bc_o m (by omega) (by omega) (by omega)]
  have hFs : fnR n r 400 (ms 172) (ms 173) (ms 174) (row (row (m 376) 45 (-1)) 46 0) := by
    rw [h2 173 (by decide), h2 174 (by decide)]
    exact shut_F hFb h3 h4 h5
  have hft : hFt (wr ms 171 3 0) n r 400 o b z (row (row (m 376) 45 (-1)) 46 0) := by
    unfold hFt
    rw [wr_o _ _ _ _ (show 172 ≠ 171 by decide), wr_o _ _ _ _ (show 173 ≠ 171 by decide), wr_o _ _ _ _ (show 174 ≠ 171 by decide), hmo b (by omega), hmo (b + 1) (by omega), hmo (b + 2) (by omega), hmo (b + 3) (by omega)]
    exact ⟨hFs, by rw [h3 6 (by decide), bc_0 m (by decide)]; exact h6, h4, hb, hz, hz7, hV⟩
  obtain ⟨m1, g1, g2⟩ := L_54a (d := d - 1) (q := q) (w := w) (u1 := some (.ref 108)) (u4 := none) (by omega) hft n 0 (wr ms 171 3 0) [] (by omega) ⟨fun _ _ _ => rfl, wr_s _ _ _ _, lst_nil⟩ (by simp only [List.length_nil]; omega)
  have hle := List.length_filter_le (fitB (wr ms 171 3 0) n o b z) (cl1 n 0)
  rw [c2] at hle
  obtain ⟨m2, g3, g4⟩ := L_54b (d := d - 1) (q := q) (w := w) (u1 := some (.ref 108)) (by omega) hft n 0 m1 _ none (by omega) g2 (by rw [List.nil_append]; omega)
  refine ⟨wr ms 171 3 0, m2, ?_, hft, ?_, hmo⟩
  · rw [e_54 (by omega) _ rfl rfl rfl, b_54_0 f108 hb, T_22 (by omega) f172 f108 (by decide)]
    simp only [rBd_v, Option.toList_some, Option.toList_none, List.cons_append, List.nil_append, List.append_nil]
    rw [b_54_8 hb, h1]
    simp only [rBd_v, Option.toList_some, Option.toList_none, List.cons_append, List.nil_append, List.append_nil]
    rw [b_54_15 hb]
    exact g1.trans g3
  · rw [List.nil_append, ← List.filter_append] at g4
    exact g4
theorem T_55 (hd : 1 ≤ d) {l : List Nat} (h3 : m 171 3 = l.length) (hl : l.length ≤ 100) (h5 : lst (m 175) l) : ev d 55 [.ref 171] (mk m q w) = vI (hdI l) (mk m q w) := by
  rw [e_55 hd _ rfl, b_55_0, h3]
  cases l with
  | nil =>
    rw [if_neg (by decide), b_55_17]
    rfl
  | cons a l =>
    have e := h5 0 a rfl
    rw [if_pos (by rw [iI_lt (by omega) (by omega)]; simp only [List.length_cons]; omega), b_55_17, e]
    rfl
/-- the book as the reference has it -/
def xBk (m : Nat → Nat → Int) (z : Nat) (V S K : Nat → Int) : Prop := m 363 42 = z ∧ z ≤ 7 ∧ rB z V S K (m 383)
theorem L_253 {V S K : Nat → Int} {M0 : Nat → Nat → Int} (hF : fnR n r Q A B C G) (h6 : A 6 = o) (h15 : M0 363 15 = n) {l : List Nat} (hI : rIs n o B C M0 m l) (hl : l.length ≤ 28) (hB : xBk m z V S K) {i c : Nat} (hc : l[i]? = some c) (hv : vld n c) : ∀ (g k : Nat) (P : Prop) [Decidable P], k + g = z → gv d rR253 4 [some (.ref 363), some (.int (iI (i : Int))), some (.int (iI (zb P))), some (.int (iI (k : Int)))] [] (mk m q w) = vI (zb (P ∧ ∀ t : Nat, t < z → k ≤ t → sgc n o B C c (V t).toNat (S t) = K t)) (mk m q w) := by
  obtain ⟨b1, b2, b3⟩ := hB
  have hn := hF.1.2.1
  have hi : i < l.length := (List.getElem?_eq_some_iff.mp hc).1
  have e15 : m 363 15 = n := by rw [hI.2.1 15 (by decide)]; exact h15
  intro g
  induction g with
  | zero =>
    intro k P _ hg
    rw [b_253_4, b1, if_neg (by rw [iI_lt (by omega) (by omega)]; omega), b_253_89 (zb_01 _)]
    exact congrArg (fun y => vI y (mk m q w)) (zb_iff ⟨fun y => ⟨y, fun t h1 h2 => by omega⟩, fun y => y.1⟩)
  | succ g ih =>
    intro k P _ hg
    obtain ⟨⟨v1, v2, v3⟩, ⟨s1, s2, s3⟩, ⟨k1, k2, k3⟩⟩ := b3 k (by omega)
    have hno : ¬ (P ∧ ∀ t : Nat, t < z → k ≤ t → sgc n o B C c (V t).toNat (S t) = K t) → gv d rR253 81 [some (.ref 363), some (.int (iI (i : Int))), some (.int (iI (zb P))), some (.int (iI (k : Int)))] [] (mk m q w) = vI (zb (P ∧ ∀ t : Nat, t < z → k ≤ t → sgc n o B C c (V t).toNat (S t) = K t)) (mk m q w) := by
      intro hno
      rw [b_253_81, b_253_82, show iI 0 = iI (zb False) from rfl, show (k : Int) + 1 = ((k + 1 : Nat) : Int) from rfl, ih (k + 1) False (by omega), zb_f (fun y => y.1), zb_f hno]
    rw [b_253_4, b1, if_pos (by rw [iI_lt (by omega) (by omega)]; omega)]
    simp only [zb_0]
    by_cases cP : P
    · have t1 : (3 * (k : Int) + 1).toNat = 3 * k + 1 := by omega
      have t0 : (3 * (k : Int)).toNat = 3 * k := by omega
      have t2 : (3 * (k : Int) + 2).toNat = 3 * k + 2 := by omega
      rw [if_neg (not_not_intro cP), b_253_16 (by omega) (by omega), t1, ← s1, e15]
      by_cases cs : S k < n
      · obtain ⟨vk, hvk⟩ : ∃ vk : Nat, V k = vk := ⟨(V k).toNat, by omega⟩
        obtain ⟨sk, hsk⟩ : ∃ sk : Nat, S k = sk := ⟨(S k).toNat, by omega⟩
        have hr := sgc_r hF h6 hv (v := vk) (k := sk) (by omega) (by omega)
        have hse := hI.2.2.2.2 i c hc vk sk (by omega) (by omega)
        have tx : (((i : Int) * 4 + vk) * 7 + sk).toNat = (i * 4 + vk) * 7 + sk := by omega
        rw [if_pos (by rw [iI_lt (by omega) (by omega)]; omega), b_253_33 (by omega) (by omega) (by omega) (by omega) (by rw [t0, t1, ← v1, ← s1]; omega) (by rw [t0, t1, ← v1, ← s1]; omega) (by omega) (by omega), t0, t1, t2, ← v1, ← s1, ← k1, hvk, hsk, tx, hse]
        simp only [iI_eq (show i32 (sgc n o B C c vk sk) by omega) (show i32 (K k) by omega)]
        by_cases ce : sgc n o B C c vk sk = K k
        · rw [if_pos ce, b_253_82, show iI 1 = iI (zb True) from rfl, show (k : Int) + 1 = ((k + 1 : Nat) : Int) from rfl, ih (k + 1) True (by omega)]
          refine congrArg (fun y => vI y (mk m q w)) (zb_iff ⟨fun y => ⟨cP, fun t h1 h2 => ?_⟩, fun y => ⟨trivial, fun t h1 h2 => y.2 t h1 (by omega)⟩⟩)
          by_cases e : t = k
          · rw [e, hvk, hsk, Int.toNat_natCast]
            exact ce
          · exact y.2 t h1 (by omega)
        · rw [if_neg ce]
          refine hno (fun y => ce ?_)
          have h9 := y.2 k (by omega) (Nat.le_refl _)
          rw [hvk, hsk, Int.toNat_natCast] at h9
          exact h9
      · rw [if_neg (by rw [iI_lt (by omega) (by omega)]; omega)]
        refine hno (fun y => ?_)
        have h9 := y.2 k (by omega) (Nat.le_refl _)
        unfold sgc at h9
        rw [mk_n (by omega)] at h9
        omega
    · rw [if_pos cP]
      exact hno (fun y => cP y.1)
theorem V_253 (hd : 1 ≤ d) {V S K : Nat → Int} {M0 : Nat → Nat → Int} (hF : fnR n r Q A B C G) (h6 : A 6 = o) (h15 : M0 363 15 = n) {l : List Nat} (hI : rIs n o B C M0 m l) (hl : l.length ≤ 28) (hB : xBk m z V S K) {i c : Nat} (hc : l[i]? = some c) (hv : vld n c) : ev d 253 [.ref 363, .int (iI (i : Int))] (mk m q w) = vI (zb (ftP z V S K (fun v k => sgc n o B C c v k))) (mk m q w) := by
  rw [e_253 hd _ rfl rfl, b_253_0, show iI 1 = iI (zb True) from rfl, show iI 0 = iI ((0 : Nat) : Int) from rfl, L_253 hF h6 h15 hI hl hB hc hv z 0 True (by omega)]
  exact congrArg (fun y => vI y (mk m q w)) (zb_iff ⟨fun y => y.2, fun y => ⟨trivial, y⟩⟩)
theorem L_254 (hd : 1 ≤ d) {V S K : Nat → Int} {M0 : Nat → Nat → Int} (hF : fnR n r Q A B C G) (h6 : A 6 = o) (h15 : M0 363 15 = n) {L : List Nat} (hI : rIs n o B C M0 m L) (hL : L.length ≤ 28) (hB : xBk m z V S K) (hv : ∀ c, c ∈ L → vld n c) {f : Nat → Bool} (hf : ∀ c, f c = decide (ftP z V S K (fun v k => sgc n o B C c v k))) {wh : Int} (hw : wh = 0 ∨ wh = 1) : ∀ (xs l : List Nat), l ++ xs = L → gv d rR254 33 [some (.ref 363), some (.int (iI wh)), some (.int (iI ((l.filter f).length : Nat))), some (.int (iI (hdI (l.filter f)))), some (.int (iI ((l.length : Nat) : Int)))] [] (mk m q w) = vI (if wh = 0 then ((L.filter f).length : Nat) else hdI (L.filter f)) (mk m q w) := by
  have hn := hF.1.2.1
  intro xs
  induction xs with
  | nil =>
    intro l hl
    rw [List.append_nil] at hl
    subst hl
    rw [b_254_33, hI.2.2.1, if_neg (by rw [iI_lt (by omega) (by omega)]; omega)]
    rcases hw with rfl | rfl
    · rw [if_pos rfl, b_254_89, if_pos rfl]
    · rw [if_neg (by decide), b_254_89, if_neg (by decide)]
  | cons c xs ih =>
    intro l hl
    have hlen : l.length < L.length := by
      rw [← hl, List.length_append, List.length_cons]
      omega
    have hc : L[l.length]? = some c := by
      rw [← hl, List.getElem?_append_right (Nat.le_refl _), Nat.sub_self]
      rfl
    have hcv := hv c (by rw [← hl]; exact List.mem_append_right _ List.mem_cons_self)
    have hle := List.length_filter_le f l
    have ihh := ih (l ++ [c]) (by rw [List.append_assoc]; exact hl)
    rw [List.length_append, show ((l.length + [c].length : Nat) : Int) = (l.length : Int) + 1 from rfl, List.filter_append] at ihh
    have hh := hdI_r (l := l.filter f) (fun e he => by
      have h1 := (List.mem_filter.mp he).1
      exact vld_lt hn (hv e (by rw [← hl]; exact List.mem_append_left _ h1)))
    rw [b_254_33, hI.2.2.1, if_pos (by rw [iI_lt (by omega) (by omega)]; omega), V_253 hd hF h6 h15 hI hL hB hc hcv]
    simp only [rBd_v, Option.toList_some, Option.toList_none, List.cons_append, List.nil_append, List.append_nil]
    rw [b_254_48]
    simp only [zb_0]
    by_cases cf : ftP z V S K (fun v k => sgc n o B C c v k)
    · have hfc : f c = true := by
        rw [hf c]
        exact decide_eq_true cf
      rw [show [c].filter f = [c] by simp [List.filter, hfc], List.length_append, show (((l.filter f).length + [c].length : Nat) : Int) = ((l.filter f).length : Int) + 1 from rfl, hdI_add] at ihh
      rw [if_neg (not_not_intro cf)]
      simp only [iI_eq (show i32 (hdI (l.filter f)) by omega) (show i32 (-1) by omega)]
      by_cases ch : hdI (l.filter f) = -1
      · rw [if_pos ch] at ihh
        rw [if_pos ch, b_254_62 (by omega) (by omega), Int.toNat_natCast, hI.2.2.2.1 _ _ hc, b_254_73, b_254_74]
        exact ihh
      · rw [if_neg ch] at ihh
        rw [if_neg ch, b_254_73, b_254_74]
        exact ihh
    · have hfc : f c = false := by
        rw [hf c]
        exact decide_eq_false cf
      rw [show [c].filter f = [] by simp [List.filter, hfc], List.append_nil] at ihh
      rw [if_pos cf, b_254_74]
      exact ihh
theorem RR_book {m : Nat → Nat → Int} {q : Nat → Nat → Option Nat} (hR : RR m q) : ∃ b z : Nat, q 100 12 = some b ∧ iBook b ∧ z ≤ 7 ∧ m b 3 = z ∧ m 363 42 = z ∧ rB z (m (b + 1)) (m (b + 2)) (m (b + 3)) (m 383) := by
  obtain ⟨-, -, -, -, ⟨b, b', b1, b2, b3, b4, b5, bz, b6, b7, b8, b9⟩, -⟩ := hR
  exact ⟨b, bz, b1, b3, b6, b7, b8, b9⟩
/-- the ground of fits and look: the class has found, then the reference lays its deeds -/
theorem fd_ref (hd : 8 ≤ d) {m0 m1 : Nat → Nat → Int} (h15 : m 363 15 = n) (hz : m 363 42 = z) (hB : rB z (m (b + 1)) (m (b + 2)) (m (b + 3)) (m 383)) (h : fdn m m0 m1 n r o b z) : ∃ m2 : Nat → Nat → Int, ev d 252 [.ref 363] (mk (wr m1 363 0 0) q w) = vV (mk m2 q w) ∧ rIs n o (m0 173) (m0 174) (wr m1 363 0 0) m2 (cL n) ∧ xBk m2 z (m0 (b + 1)) (m0 (b + 2)) (m0 (b + 3)) := by
  obtain ⟨⟨g1, g2, g3, g4, g5, g6, g7⟩, ⟨h1, h2, h3⟩, h4⟩ := h
  have hbk := book_two g4
  have hm1 : ∀ a, 376 ≤ a → m1 a = m a := fun a ha => (h1 a (by omega) (by omega)).trans (h4 a (by omega))
  have e363 : m1 363 = m 363 := (h1 363 (by decide) (by decide)).trans (h4 363 (by omega))
  obtain ⟨m2, k1, k2⟩ := V_252 (d := d) (m := wr m1 363 0 0) (q := q) (w := w) (by omega) g1 g2 (by rw [wr_b _ _ _ _ (by decide), e363]; exact h15) (fun j hj => by rw [wr_o _ _ _ _ (by decide), hm1 376 (by decide), row_o _ _ _ (by omega), row_o _ _ _ (by omega)])
  refine ⟨m2, k1, k2, ?_, g6, ?_⟩
  · rw [k2.2.1 42 (by decide), wr_b _ _ _ _ (by decide), e363]
    exact hz
  · rw [k2.1 383 (by decide) (by decide) (by decide) (by decide), wr_o _ _ _ _ (by decide), hm1 383 (by decide), h4 (b + 1) (by omega), h4 (b + 2) (by omega), h4 (b + 3) (by omega)]
    exact hB
theorem fd_RR {m0 m1 m2 : Nat → Nat → Int} (hR : RR m q) (h : fdn m m0 m1 n r o b z) : RR m1 q := by
  obtain ⟨-, ⟨h1, h2, h3⟩, h4⟩ := h
  have hm1 : ∀ a, a < 171 ∨ 175 < a → m1 a = m a := fun a ha => (h1 a (by omega) (by omega)).trans (h4 a ha)
  exact RR_s ⟨fun a a1 _ => hm1 a (by unfold scr at a1; omega), fun j _ => by rw [hm1 363 (by omega)]⟩ (gS_o (hm1 161 (by omega)) (hm1 163 (by omega)) hR.2.2.2.2.2.2) hR
theorem rIs_RR {B C : Nat → Int} {M0 M : Nat → Nat → Int} {l : List Nat} (hR : RR M0 q) (h : rIs n o B C M0 M l) : RR M q := by
  obtain ⟨h1, h2, -⟩ := h
  exact RR_s ⟨fun a a1 a2 => h1 a a2 (by unfold scr at a1; omega) (by unfold scr at a1; omega) (by unfold scr at a1; omega), fun j hj => h2 j (by omega)⟩ (gS_o (h1 161 (by decide) (by decide) (by decide) (by decide)) (h1 163 (by decide) (by decide) (by decide) (by decide)) hR.2.2.2.2.2.2) hR
theorem K_fits {a : Int} (ha : i32 a) : cTH 146 254 [.int (iI a)] 1 := by
  intro m q w hR d hd
  obtain ⟨n, r, o, hF, k15, k16, hn7, hfk, hfl, hCi, ho, hbt⟩ := RR_fan hR
  obtain ⟨b, z, b1, b2, hz7, b4, b5, hB⟩ := RR_book hR
  obtain ⟨c1, c2⟩ := cL_len n (by omega)
  by_cases h : 0 ≤ a ∧ a ≤ 1
  · obtain ⟨m0, m1, h1, h2⟩ := T_54 (d := d - 1) (m := m) (q := q) (w := w) (by omega) hF hfk.2.2.1 b2 b4 hz7 (fun i hi => by have := hB i hi; omega)
    obtain ⟨m2, h3, h4, h5⟩ := fd_ref (d := d - 1) (q := q) (w := w) (by omega) k15 b5 hB h2
    have hle := List.length_filter_le (fitB m0 n o b z) (cL n)
    have hT := T_55 (d := d - 1) (m := m1) (q := q) (w := w) (by omega) h2.2.1.2.1 (by omega) h2.2.1.2.2
    have hX := L_254 (d := d - 1) (m := m2) (q := q) (w := w) (by omega) h2.1.1 h2.1.2.1 (M0 := wr m1 363 0 0) (by rw [← h4.2.1 15 (by decide), h4.2.1 15 (by decide), wr_b _ _ _ _ (by decide), h2.2.1.1 363 (by decide) (by decide), h2.2.2 363 (by omega)]; exact k15) h4 c1 h5 (fun c hc => cL_v hc) (f := fitB m0 n o b z) (fun c => rfl) (wh := a) (by omega) (cL n) [] rfl
    refine q_in (V := if a = 0 then (((cL n).filter (fitB m0 n o b z)).length : Int) else hdI ((cL n).filter (fitB m0 n o b z))) (m1 := m1) (m2 := m2) ?_ ?_ ?_ (rIs_RR (RR_0 (fd_RR (m2 := m2) hR h2)) h4)
    · rw [e_146 (by omega) _ rfl rfl, b_146_0, T_6 (by omega) ha (by omega) (by omega)]
      simp only [rBd_v, Option.toList_some, Option.toList_none, List.cons_append, List.nil_append, List.append_nil]
      rw [b_146_7, T_116 (by omega), zb_t h, if_neg (by decide)]
      simp only [rBd_v, Option.toList_some, Option.toList_none, List.cons_append, List.nil_append, List.append_nil]
      rw [b_146_10, b1]
      refine Eq.trans (b_146_25 b2) ?_
      rw [h1]
      simp only [rBd_v, Option.toList_some, Option.toList_none, List.cons_append, List.nil_append, List.append_nil]
      rw [b_146_28]
      simp only [iI_eq ha (show i32 0 by omega)]
      by_cases c : a = 0
      · rw [if_pos c, b_146_49, if_pos c, h2.2.1.2.1]
      · rw [if_neg c, hT, if_neg c]
        simp only [rBd_v, Option.toList_some, Option.toList_none, List.cons_append, List.nil_append, List.append_nil]
        rw [b_146_49]
    · rw [e_254 (by omega) _ rfl rfl, b_254_0, V_161 (by omega) ha (by omega) (by omega)]
      simp only [rBd_v, Option.toList_some, Option.toList_none, List.cons_append, List.nil_append, List.append_nil]
      rw [b_254_12, V_160 (by omega) (Or.inr rfl) (by omega) (by decide) (wr_s _ _ _ _), if_pos h]
      simp only [rBd_v, Option.toList_some, Option.toList_none, List.cons_append, List.nil_append, List.append_nil]
      rw [b_254_17, if_neg (by decide), h3]
      simp only [rBd_v, Option.toList_some, Option.toList_none, List.cons_append, List.nil_append, List.append_nil]
      rw [b_254_26]
      exact hX
    · rw [h4.2.1 0 (by decide), wr_s]
  · refine q_no hR ?_ ?_
    · rw [e_146 (by omega) _ rfl rfl, b_146_0, T_6 (by omega) ha (by omega) (by omega)]
      simp only [rBd_v, Option.toList_some, Option.toList_none, List.cons_append, List.nil_append, List.append_nil]
      rw [b_146_7, T_116 (by omega), zb_f h, if_pos rfl]
      rfl
    · rw [e_254 (by omega) _ rfl rfl, b_254_0, V_161 (by omega) ha (by omega) (by omega)]
      simp only [rBd_v, Option.toList_some, Option.toList_none, List.cons_append, List.nil_append, List.append_nil]
      rw [b_254_12, V_160 (by omega) (Or.inr rfl) (by omega) (by decide) (wr_s _ _ _ _), if_neg h]
      simp only [rBd_v, Option.toList_some, Option.toList_none, List.cons_append, List.nil_append, List.append_nil]
      rw [b_254_17, if_pos rfl]
      rfl
end S
