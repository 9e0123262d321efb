/-! ===== the call look, alike ===== -/
/-- whether a book tells of a place -/
def tls (V S : Nat → Int) (v k : Int) : Nat → Nat → Int
  | 0, _ => 0
  | g + 1, i => if V i = v ∧ S i = k then 1 else tls V S v k g (i + 1)
theorem tls_01 {V S : Nat → Int} {v k : Int} : ∀ (g i : Nat), tls V S v k g i = 0 ∨ tls V S v k g i = 1 := by
  intro g
  induction g with
  | zero => exact fun i => Or.inl rfl
  | succ g ih =>
    intro i
    unfold tls
    split
    · exact Or.inr rfl
    · exact ih (i + 1)
/-- how many are left at worst -/
def tly (f : Nat → Int) : List Nat → (Nat → Int) → Int → Int
  | [], _, w => w
  | c :: xs, t, w => tly f xs (row t (f c).toNat (t (f c).toNat + 1)) (if w < t (f c).toNat + 1 then t (f c).toNat + 1 else w)
theorem tly_r {f : Nat → Int} : ∀ (xs : List Nat) (t : Nat → Int) (w : Int) (e : Nat), (∀ c, c ∈ xs → 0 ≤ f c ∧ f c < 16) → (∀ j, j < 16 → 0 ≤ t j ∧ t j ≤ e) → 0 ≤ w ∧ w ≤ e → 0 ≤ tly f xs t w ∧ tly f xs t w ≤ e + xs.length := by
  intro xs
  induction xs with
  | nil =>
    intro t w e _ _ h
    show 0 ≤ w ∧ w ≤ e + (0 : Nat)
    omega
  | cons c xs ih =>
    intro t w e hf ht h
    have hc := hf c List.mem_cons_self
    have htc := ht (f c).toNat (by omega)
    unfold tly
    have := ih (row t (f c).toNat (t (f c).toNat + 1)) (if w < t (f c).toNat + 1 then t (f c).toNat + 1 else w) (e + 1) (fun a ha => hf a (List.mem_cons_of_mem _ ha)) (fun j hj => by
      by_cases e1 : j = (f c).toNat
      · subst e1
        rw [row_s]
        omega
      · have := ht j hj
        rw [row_o _ _ _ e1]
        omega) (by split <;> omega)
    rw [List.length_cons]
    omega
section S
variable {d n : Nat} {m : Nat → Nat → Int} {q : Nat → Nat → Option Nat} {w : Option (Nat → Int64)} {r Q o b z : Nat} {A B C G : Nat → Int}
theorem L_11 (hb : iBook b) (hz : m b 3 = z) (hz7 : z ≤ 7) (hV : ∀ i, i < z → (0 ≤ m (b + 1) i ∧ m (b + 1) i ≤ 3) ∧ (0 ≤ m (b + 2) i ∧ m (b + 2) i ≤ 6)) {v k : Int} (hv : i32 v) (hk : i32 k) : ∀ (g i : Nat), i + g = z → gv d rR11 2 [some (.ref b), some (.int (iI v)), some (.int (iI k)), some (.int (iI (i : Int)))] [] (mk m q w) = vI (tls (m (b + 1)) (m (b + 2)) v k g i) (mk m q w) := by
  intro g
  induction g with
  | zero =>
    intro i hg
    rw [b_11_2 hb, hz, if_neg (by rw [iI_lt (by omega) (by omega)]; omega)]
    rfl
  | succ g ih =>
    intro i hg
    obtain ⟨v1, v2⟩ := hV i (by omega)
    rw [b_11_2 hb, hz, if_pos (by rw [iI_lt (by omega) (by omega)]; omega), b_11_10 hb (by omega) (by omega), Int.toNat_natCast, b_11_32 hb, show (i : Int) + 1 = ((i + 1 : Nat) : Int) from rfl, ih (i + 1) (by omega)]
    simp only [iI_eq (show i32 (m (b + 1) i) by omega) hv, iI_eq (show i32 (m (b + 2) i) by omega) hk]
    rw [show tls (m (b + 1)) (m (b + 2)) v k (g + 1) i = if m (b + 1) i = v ∧ m (b + 2) i = k then 1 else tls (m (b + 1)) (m (b + 2)) v k g (i + 1) from rfl]
    by_cases c1 : m (b + 1) i = v
    · rw [if_pos c1]
      by_cases c2 : m (b + 2) i = k
      · rw [if_pos c2, if_pos ⟨c1, c2⟩]
      · rw [if_neg c2, if_neg (fun y => c2 y.2)]
    · rw [if_neg c1, if_neg (fun y => c1 y.1)]
theorem T_11 (hd : 1 ≤ d) (hb : iBook b) (hz : m b 3 = z) (hz7 : z ≤ 7) (hV : ∀ i, i < z → (0 ≤ m (b + 1) i ∧ m (b + 1) i ≤ 3) ∧ (0 ≤ m (b + 2) i ∧ m (b + 2) i ≤ 6)) {v k : Int} (hv : i32 v) (hk : i32 k) : ev d 11 [.ref b, .int (iI v), .int (iI k)] (mk m q w) = vI (tls (m (b + 1)) (m (b + 2)) v k z 0) (mk m q w) := by
  rw [e_11 hd _ rfl rfl rfl, b_11_0 hb, show iI 0 = iI ((0 : Nat) : Int) from rfl, L_11 hb hz hz7 hV hv hk z 0 (by omega)]
theorem L_255 {V S K : Nat → Int} (hB : xBk m z V S K) {v k : Int} (hv : i32 v) (hk : i32 k) : ∀ (g i : Nat), i + g = z → gv d rR255 2 [some (.ref 363), some (.int (iI v)), some (.int (iI k)), some (.int (iI (i : Int)))] [] (mk m q w) = vI (tls V S v k g i) (mk m q w) := by
  obtain ⟨b1, b2, b3⟩ := hB
  intro g
  induction g with
  | zero =>
    intro i hg
    rw [b_255_2, b1, if_neg (by rw [iI_lt (by omega) (by omega)]; omega)]
    rfl
  | succ g ih =>
    intro i hg
    obtain ⟨⟨v1, v2, v3⟩, ⟨s1, s2, s3⟩, -⟩ := b3 i (by omega)
    rw [b_255_2, b1, if_pos (by rw [iI_lt (by omega) (by omega)]; omega), b_255_10 (by omega) (by omega), b_255_22 (by omega) (by omega), b_255_38, show (3 * (i : Int)).toNat = 3 * i by omega, show (3 * (i : Int) + 1).toNat = 3 * i + 1 by omega, ← v1, ← s1, show (i : Int) + 1 = ((i + 1 : Nat) : Int) from rfl, ih (i + 1) (by omega)]
    simp only [iI_eq (show i32 (V i) by omega) hv, iI_eq (show i32 (S i) by omega) hk]
    rw [show tls V S v k (g + 1) i = if V i = v ∧ S i = k then 1 else tls V S v k g (i + 1) from rfl]
    by_cases c1 : V i = v
    · rw [if_pos c1]
      by_cases c2 : S i = k
      · rw [if_pos c2, if_pos ⟨c1, c2⟩]
      · rw [if_neg c2, if_neg (fun y => c2 y.2)]
    · rw [if_neg c1, if_neg (fun y => c1 y.1)]
theorem V_255 (hd : 1 ≤ d) {V S K : Nat → Int} (hB : xBk m z V S K) {v k : Int} (hv : i32 v) (hk : i32 k) : ev d 255 [.ref 363, .int (iI v), .int (iI k)] (mk m q w) = vI (tls V S v k z 0) (mk m q w) := by
  rw [e_255 hd _ rfl rfl rfl, b_255_0, show iI 0 = iI ((0 : Nat) : Int) from rfl, L_255 hB hv hk z 0 (by omega)]
/-- the class's tally -/
theorem L_57 (hd : 9 ≤ d) (hF : fnR n r Q (m 172) (m 173) (m 174) G) (h6 : m 172 6 = o) (h7 : m 172 7 = -1) {L : List Nat} (h3 : m 171 3 = L.length) (hL : L.length ≤ 28) (h5 : lst (m 175) L) (hvl : ∀ c, c ∈ L → vld n c) {v k : Nat} (hv : v < 4) (hk : k < n) : ∀ (xs l : List Nat) (t : Nat → Int) (wo : Int) (m1 : Nat → Nat → Int) (u5 : Option Value), l ++ xs = L → (∀ a, a ≠ 176 → m1 a = m a) → (∀ j, j < 16 → m1 176 j = t j ∧ 0 ≤ t j ∧ t j ≤ l.length) → 0 ≤ wo ∧ wo ≤ l.length → ∃ S : Nat → Int,
    gv d rR57 13 [some (.ref 171), some (.int (iI (v : Int))), some (.int (iI (k : Int))), some (.int (iI wo)), some (.int (iI ((l.length : Nat) : Int))), u5] [] (mk m1 q w) = vI (tly (fun c => sgc n o (m 173) (m 174) c v k) xs t wo) (mk (row m1 176 S) q w) := by
  have hn := hF.1.2.1
  intro xs
  induction xs with
  | nil =>
    intro l t wo m1 u5 hl hm ht hw
    rw [List.append_nil] at hl
    subst hl
    refine ⟨m1 176, ?_⟩
    rw [b_57_13, hm 171 (by decide), h3, if_neg (by rw [iI_lt (by omega) (by omega)]; omega), row_self]
    rfl
  | cons c xs ih =>
    intro l t wo m1 u5 hl hm ht hw
    have hlen : l.length < L.length := by
      rw [← hl, List.length_append, List.length_cons]
      omega
    have hc : L[l.length]? = some c := by
      rw [← hl, List.getElem?_append_right (Nat.le_refl _), Nat.sub_self]
      rfl
    have hcv := hvl c (by rw [← hl]; exact List.mem_append_right _ List.mem_cons_self)
    have hF1 : fnR n r Q (m1 172) (m1 173) (m1 174) G := by rw [hm 172 (by decide), hm 173 (by decide), hm 174 (by decide)]; exact hF
    have h61 : m1 172 6 = o := by rw [hm 172 (by decide)]; exact h6
    have h71 : m1 172 7 = -1 := by rw [hm 172 (by decide)]; exact h7
    obtain ⟨k1, k2, k3⟩ := mkF_k hF1 h61 hcv
    have hr := sgc_r hF h6 hcv hv hk
    obtain ⟨x, hx⟩ : ∃ x : Nat, sgc n o (m 173) (m 174) c v k = x := ⟨(sgc n o (m 173) (m 174) c v k).toNat, by omega⟩
    have hT : ev d 19 [.ref 172, .int (iI (v : Int)), .int (iI (k : Int))] (mk (mkF m1 o c) q w) = vI (x : Int) (mk (mkF m1 o c) q w) := by
      rw [T_19 (by omega) f172 k1 k2 hv (by omega) (by omega), ← hx]
      rw [show (172 : Nat) + 1 = 173 from rfl, show (172 : Nat) + 2 = 174 from rfl, mkF_3, mkF_o (show 174 ≠ 172 by decide) (by decide), hm 173 (by decide), hm 174 (by decide)]
      rfl
    have e175 : m1 175 l.length = (c : Int) := by rw [hm 175 (by decide)]; exact h5 _ _ hc
    obtain ⟨t1, t2, t3⟩ := ht x (by omega)
    obtain ⟨S, h⟩ := ih (l ++ [c]) (row t x (t x + 1)) (if wo < t x + 1 then t x + 1 else wo) (wr m1 176 x (t x + 1)) (some (.int (iI (x : Int)))) (by rw [List.append_assoc]; exact hl) (fun a ha => by rw [wr_o _ _ _ _ ha, hm a ha]) (fun j hj => by
      rw [wr_x, List.length_append]
      simp only [List.length_cons, List.length_nil]
      by_cases e : j = x
      · subst e
        rw [row_s, row_s]
        omega
      · have := ht j hj
        rw [row_o _ _ _ e, row_o _ _ _ e]
        omega) (by
      rw [List.length_append]
      simp only [List.length_cons, List.length_nil]
      split <;> omega)
    rw [List.length_append, show ((l.length + [c].length : Nat) : Int) = (l.length : Int) + 1 from rfl] at h
    refine ⟨S, ?_⟩
    rw [b_57_13, hm 171 (by decide), h3, if_pos (by rw [iI_lt (by omega) (by omega)]; omega), b_57_22 (by omega) (by omega), Int.toNat_natCast, e175, T_52 (by omega) hF1 h61 h71 hcv]
    simp only [rBd_v, Option.toList_some, Option.toList_none, List.cons_append, List.nil_append, List.append_nil]
    rw [b_57_33, hT]
    simp only [rBd_v, Option.toList_some, Option.toList_none, List.cons_append, List.nil_append, List.append_nil]
    rw [b_57_42 (by omega) (by omega), Int.toNat_natCast, mkF_o (by decide) (by decide), e175, T_52b (by omega) hF1 h61 h71 hcv]
    simp only [rBd_v, Option.toList_some, Option.toList_none, List.cons_append, List.nil_append, List.append_nil]
    rw [b_57_55, T_6 (by omega) (by omega) (by omega) (by omega)]
    simp only [rBd_v, Option.toList_some, Option.toList_none, List.cons_append, List.nil_append, List.append_nil]
    rw [b_57_68]
    simp only [zb_0]
    rw [if_neg (by omega), b_57_71 (by omega) (by omega) (by omega), Int.toNat_natCast, t1, wr_s, b_57_94]
    simp only [iI_lt (show i32 wo by omega) (show i32 (t x + 1) by omega)]
    rw [h]
    unfold wr
    rw [row_row]
    rw [show tly (fun c => sgc n o (m 173) (m 174) c v k) (c :: xs) t wo = tly (fun c => sgc n o (m 173) (m 174) c v k) xs (row t (sgc n o (m 173) (m 174) c v k).toNat (t (sgc n o (m 173) (m 174) c v k).toNat + 1)) (if wo < t (sgc n o (m 173) (m 174) c v k).toNat + 1 then t (sgc n o (m 173) (m 174) c v k).toNat + 1 else wo) from rfl, hx, Int.toNat_natCast]
theorem T_57 (hd : 10 ≤ d) (hF : fnR n r Q (m 172) (m 173) (m 174) G) (h6 : m 172 6 = o) (h7 : m 172 7 = -1) {L : List Nat} (h3 : m 171 3 = L.length) (hL : L.length ≤ 28) (h5 : lst (m 175) L) (hvl : ∀ c, c ∈ L → vld n c) {v k : Nat} (hv : v < 4) (hk : k < n) : ∃ S : Nat → Int, ev d 57 [.ref 171, .int (iI (v : Int)), .int (iI (k : Int))] (mk m q w) = vI (tly (fun c => sgc n o (m 173) (m 174) c v k) L (fun _ => 0) 0) (mk (row m 176 S) q w) := by
  obtain ⟨S, h⟩ := L_57 (d := d - 1) (m := m) (q := q) (w := w) (by omega) hF h6 h7 h3 hL h5 hvl hv hk L [] (fun _ => 0) 0 (row m 176 (fun j => if j < 16 then 0 else m 176 j)) none rfl (fun a ha => row_o _ _ _ ha) (fun j hj => by
    rw [row_s, if_pos hj]
    simp) (by simp)
  refine ⟨S, ?_⟩
  rw [e_57 (by omega) _ rfl rfl rfl, b_57_0, T_56 (by omega) (show rShp 176 = some (aS 0 16 0 0) by decide +kernel) (by decide)]
  simp only [rBd_v, Option.toList_some, Option.toList_none, List.cons_append, List.nil_append, List.append_nil]
  rw [b_57_8]
  refine Eq.trans h ?_
  rw [row_row]
/-- the reference's -/
theorem rIs_8 {B C : Nat → Int} {M0 M M1 : Nat → Nat → Int} {l : List Nat} (h : ∀ a, a ≠ 389 → M1 a = M a) (hI : rIs n o B C M0 M l) : rIs n o B C (row M0 389 (M1 389)) M1 l := by
  obtain ⟨i1, i2, i3, i4, i5⟩ := hI
  unfold rIs
  rw [h 363 (by decide), h 387 (by decide), h 388 (by decide), row_o _ _ _ (show 363 ≠ 389 by decide)]
  refine ⟨fun a a1 a2 a3 a4 => ?_, i2, i3, i4, i5⟩
  by_cases e : a = 389
  · subst e
    rw [row_s]
  · rw [row_o _ _ _ e, h a e, i1 a a1 a2 a3 a4]
theorem L_256 (hd : 1 ≤ d) {V S K : Nat → Int} {M0 : Nat → Nat → Int} (hF : fnR n r Q A B C G) (h6 : A 6 = o) (h15 : M0 363 15 = n) {L : List Nat} (hI : rIs n o B C M0 m L) (hL : L.length ≤ 28) (hB : xBk m z V S K) (hvl : ∀ c, c ∈ L → vld n c) {f : Nat → Bool} (hf : ∀ c, f c = decide (ftP z V S K (fun v k => sgc n o B C c v k))) {v k : Nat} (hv : v < 4) (hk : k < n) : ∀ (xs l : List Nat) (t : Nat → Int) (wo : Int) (m1 : Nat → Nat → Int) (u5 : Option Value), l ++ xs = L → (∀ a, a ≠ 389 → m1 a = m a) → (∀ j, j < 16 → m1 389 j = t j ∧ 0 ≤ t j ∧ t j ≤ l.length) → 0 ≤ wo ∧ wo ≤ l.length → ∃ S : Nat → Int,
    gv d rR256 26 [some (.ref 363), some (.int (iI (v : Int))), some (.int (iI (k : Int))), some (.int (iI wo)), some (.int (iI ((l.length : Nat) : Int))), u5] [] (mk m1 q w) = vI (tly (fun c => sgc n o B C c v k) (xs.filter f) t wo) (mk (row m1 389 S) q w) := by
  have hn := hF.1.2.1
  intro xs
  induction xs with
  | nil =>
    intro l t wo m1 u5 hl hm ht hw
    rw [List.append_nil] at hl
    subst hl
    refine ⟨m1 389, ?_⟩
    rw [b_256_26, hm 363 (by decide), hI.2.2.1, if_neg (by rw [iI_lt (by omega) (by omega)]; omega), row_self]
    rfl
  | cons c xs ih =>
    intro l t wo m1 u5 hl hm ht hw
    have hlen : l.length < L.length := by
      rw [← hl, List.length_append, List.length_cons]
      omega
    have hc : L[l.length]? = some c := by
      rw [← hl, List.getElem?_append_right (Nat.le_refl _), Nat.sub_self]
      rfl
    have hcv := hvl c (by rw [← hl]; exact List.mem_append_right _ List.mem_cons_self)
    have hr := sgc_r hF h6 hcv hv hk
    obtain ⟨x, hx⟩ : ∃ x : Nat, sgc n o B C c v k = x := ⟨(sgc n o B C c v k).toNat, by omega⟩
    have hse := hI.2.2.2.2 l.length c hc v k hv hk
    obtain ⟨t1, t2, t3⟩ := ht x (by omega)
    have e387 : m1 387 ((l.length * 4 + v) * 7 + k) = (x : Int) := by rw [hm 387 (by decide), hse, hx]
    have hI1 := rIs_8 hm hI
    have hB1 : xBk m1 z V S K := by
      unfold xBk
      rw [hm 363 (by decide), hm 383 (by decide)]
      exact hB
    have hV := V_253 (d := d) (m := m1) (q := q) (w := w) hd hF h6 (M0 := row M0 389 (m1 389)) (by rw [row_o _ _ _ (by decide)]; exact h15) hI1 hL hB1 hc hcv
    rw [b_256_26, hm 363 (by decide), hI.2.2.1, if_pos (by rw [iI_lt (by omega) (by omega)]; omega), hV]
    simp only [rBd_v, Option.toList_some, Option.toList_none, List.cons_append, List.nil_append, List.append_nil]
    rw [b_256_41]
    simp only [zb_0]
    by_cases cf : ftP z V S K (fun v k => sgc n o B C c v k)
    · have hfc : f c = true := by
        rw [hf c]
        exact decide_eq_true cf
      obtain ⟨S, h⟩ := ih (l ++ [c]) (row t x (t x + 1)) (if wo < t x + 1 then t x + 1 else wo) (wr m1 389 x (t x + 1)) (some (.int (iI (x : Int)))) (by rw [List.append_assoc]; exact hl) (fun a ha => by rw [wr_o _ _ _ _ ha, hm a ha]) (fun j hj => by
        rw [wr_x, List.length_append]
        simp only [List.length_cons, List.length_nil]
        by_cases e : j = x
        · subst e
          rw [row_s, row_s]
          omega
        · have := ht j hj
          rw [row_o _ _ _ e, row_o _ _ _ e]
          omega) (by
        rw [List.length_append]
        simp only [List.length_cons, List.length_nil]
        split <;> omega)
      rw [List.length_append, show ((l.length + [c].length : Nat) : Int) = (l.length : Int) + 1 from rfl] at h
      refine ⟨S, ?_⟩
      have tx : (((l.length : Int) * 4 + v) * 7 + k).toNat = (l.length * 4 + v) * 7 + k := by omega
      rw [if_neg (not_not_intro cf), b_256_47 (by omega) (by omega) (by rw [tx, e387]; omega) (by rw [tx, e387]; omega), tx, e387, Int.toNat_natCast, t1, wr_s]
      simp only [iI_lt (show i32 wo by omega) (show i32 (t x + 1) by omega)]
      rw [show (c :: xs).filter f = c :: xs.filter f by simp [List.filter, hfc]]
      unfold tly
      simp only [hx, Int.toNat_natCast]
      rw [show row (wr m1 389 x (t x + 1)) 389 S = row m1 389 S by
        unfold wr
        rw [row_row]] at h
      rw [← h]
      by_cases cw : wo < t x + 1
      · rw [if_pos cw, if_pos cw, b_256_98, b_256_99]
      · rw [if_neg cw, if_neg cw, b_256_98, b_256_99]
    · have hfc : f c = false := by
        rw [hf c]
        exact decide_eq_false cf
      obtain ⟨S, h⟩ := ih (l ++ [c]) t wo m1 u5 (by rw [List.append_assoc]; exact hl) hm (fun j hj => by
        have := ht j hj
        rw [List.length_append]
        simp only [List.length_cons, List.length_nil]
        omega) (by
        rw [List.length_append]
        simp only [List.length_cons, List.length_nil]
        omega)
      rw [List.length_append, show ((l.length + [c].length : Nat) : Int) = (l.length : Int) + 1 from rfl] at h
      refine ⟨S, ?_⟩
      rw [if_pos cf, b_256_99, show (c :: xs).filter f = xs.filter f by simp [List.filter, hfc]]
      exact h
theorem L_256z : ∀ (g j : Nat) (m1 : Nat → Nat → Int) (u1 u2 u4 u5 : Option Value) (v k : Int), j + g = 16 → gv d rR256 2 [some (.ref 363), some (.int (iI v)), some (.int (iI k)), some (.int (iI (j : Int))), u4, u5] [] (mk m1 q w) = gv d rR256 26 [some (.ref 363), some (.int (iI v)), some (.int (iI k)), some (.int (iI 0)), some (.int (iI 0)), u5] [] (mk (row m1 389 (fun i => if j ≤ i ∧ i < 16 then 0 else m1 389 i)) q w) := by
  intro g
  induction g with
  | zero =>
    intro j m1 u1 u2 u4 u5 v k hg
    rw [b_256_2, if_neg (by rw [iI_lt (by omega) (by omega)]; omega), show (fun i => if j ≤ i ∧ i < 16 then 0 else m1 389 i) = m1 389 from funext fun i => if_neg (by omega), row_self]
  | succ g ih =>
    intro j m1 u1 u2 u4 u5 v k hg
    rw [b_256_2, if_pos (by rw [iI_lt (by omega) (by omega)]; omega), b_256_8 (by omega) (by omega), Int.toNat_natCast, show (j : Int) + 1 = ((j + 1 : Nat) : Int) from rfl, ih (j + 1) _ u1 u2 u4 u5 v k (by omega)]
    unfold wr
    rw [row_row]
    congr 6
    funext i
    by_cases e : i = j
    · subst e
      rw [if_neg (by omega), row_s, row_s, if_pos (by omega)]
    · rw [row_s, row_o _ _ _ e]
      by_cases h1 : j + 1 ≤ i ∧ i < 16
      · rw [if_pos h1, if_pos (by omega)]
      · rw [if_neg h1, if_neg (by omega)]
theorem V_256 (hd : 2 ≤ d) {V S K : Nat → Int} {M0 : Nat → Nat → Int} (hF : fnR n r Q A B C G) (h6 : A 6 = o) (h15 : M0 363 15 = n) {L : List Nat} (hI : rIs n o B C M0 m L) (hL : L.length ≤ 28) (hB : xBk m z V S K) (hvl : ∀ c, c ∈ L → vld n c) {f : Nat → Bool} (hf : ∀ c, f c = decide (ftP z V S K (fun v k => sgc n o B C c v k))) {v k : Nat} (hv : v < 4) (hk : k < n) : ∃ S : Nat → Int, ev d 256 [.ref 363, .int (iI (v : Int)), .int (iI (k : Int))] (mk m q w) = vI (tly (fun c => sgc n o B C c v k) (L.filter f) (fun _ => 0) 0) (mk (row m 389 S) q w) := by
  obtain ⟨S, h⟩ := L_256 (d := d - 1) (m := m) (q := q) (w := w) (by omega) hF h6 h15 hI hL hB hvl hf hv hk L [] (fun _ => 0) 0 (row m 389 (fun i => if 0 ≤ i ∧ i < 16 then 0 else m 389 i)) none rfl (fun a ha => row_o _ _ _ ha) (fun j hj => by
    rw [row_s, if_pos ⟨Nat.zero_le _, hj⟩]
    simp) (by simp)
  refine ⟨S, ?_⟩
  rw [e_256 (by omega) _ rfl rfl rfl, b_256_0]
  refine Eq.trans (L_256z 16 0 m none none none none v k (by omega)) ?_
  refine Eq.trans h ?_
  rw [row_row]
/-- the class's ground for looking: what it has found, and its copy -/
def ckI (m0 m : Nat → Nat → Int) (L : List Nat) : Prop := (∀ a, a ≠ 171 → a ≠ 175 → a ≠ 176 → m a = m0 a) ∧ m 171 3 = L.length ∧ lst (m 175) L
theorem J_look {d2 : Nat} {q2 : Nat → Nat → Option Nat} {w2 : Option (Nat → Int64)} {m0 M0 mr : Nat → Nat → Int} (hd : 11 ≤ d) (hd2 : 3 ≤ d2) (h0 : hFt m0 n r Q o b z G) {f : Nat → Bool} (hf : ∀ c, f c = decide (ftP z (m0 (b + 1)) (m0 (b + 2)) (m0 (b + 3)) (fun v k => sgc n o (m0 173) (m0 174) c v k))) (h15 : M0 363 15 = n) (hI : rIs n o (m0 173) (m0 174) M0 mr (cL n)) (hB : xBk mr z (m0 (b + 1)) (m0 (b + 2)) (m0 (b + 3))) {wh : Int} {v : Nat} (hv : v < 4) : ∀ (g k : Nat) (be le : Int) (m1 m2 : Nat → Nat → Int) (u4 u6 : Option Value), k + g = n → ckI m0 m1 ((cL n).filter f) → m1 171 4 = be → m1 171 5 = le → (∀ a, a ≠ 389 → m2 a = mr a) → (-1 ≤ be ∧ be ≤ 100) → (-1 ≤ le ∧ le ≤ 100) → ∃ (be' le' : Int) (m1' m2' : Nat → Nat → Int) (u4' u6' u3 u5 : Option Value),
    gv d rR58 19 [some (.ref 171), some (.ref b), some (.int (iI (v : Int))), some (.int (iI (k : Int))), u4] [] (mk m1 q w) = gv d rR58 12 [some (.ref 171), some (.ref b), some (.int (iI ((v + 1 : Nat) : Int))), u3, u4'] [] (mk m1' q w) ∧
    gv d2 rR257 42 [some (.ref 363), some (.int (iI wh)), some (.int (iI be)), some (.int (iI le)), some (.int (iI (v : Int))), some (.int (iI (k : Int))), u6] [] (mk m2 q2 w2) = gv d2 rR257 33 [some (.ref 363), some (.int (iI wh)), some (.int (iI be')), some (.int (iI le')), some (.int (iI ((v + 1 : Nat) : Int))), u5, u6'] [] (mk m2' q2 w2) ∧
    ckI m0 m1' ((cL n).filter f) ∧ m1' 171 4 = be' ∧ m1' 171 5 = le' ∧ (∀ a, a ≠ 389 → m2' a = mr a) ∧ (-1 ≤ be' ∧ be' ≤ 100) ∧ (-1 ≤ le' ∧ le' ≤ 100) := by
  obtain ⟨hF, h6, h7, hb, hz, hz7, hV⟩ := h0
  have hn7 := hF.1.2.1
  have hbk := book_two hb
  obtain ⟨c1, c2⟩ := cL_len n (by omega)
  have hle := List.length_filter_le f (cL n)
  have e15 : mr 363 15 = n := by rw [hI.2.1 15 (by decide)]; exact h15
  intro g
  induction g with
  | zero =>
    intro k be le m1 m2 u4 u6 hg hK hbe hll hm2 hbb hlb
    refine ⟨be, le, m1, m2, u4, u6, some (.int (iI (k : Int))), some (.int (iI (k : Int))), ?_, ?_, hK, hbe, hll, hm2, hbb, hlb⟩
    · rw [b_58_19 hb, hK.1 172 (by decide) (by decide) (by decide), hF.1.1, if_neg (by rw [iI_lt (by omega) (by omega)]; omega)]
      rfl
    · rw [b_257_42, hm2 363 (by decide), e15, if_neg (by rw [iI_lt (by omega) (by omega)]; omega)]
      rfl
  | succ g ih =>
    intro k be le m1 m2 u4 u6 hg hK hbe hll hm2 hbb hlb
    have hkm := hK.1
    have hT := T_11 (d := d) (m := m1) (q := q) (w := w) (b := b) (z := z) (by omega) hb (by rw [hkm b (by omega) (by omega) (by omega)]; exact hz) hz7 (by rw [hkm (b + 1) (by omega) (by omega) (by omega), hkm (b + 2) (by omega) (by omega) (by omega)]; exact fun i hi => ⟨(hV i hi).1, (hV i hi).2.1⟩) (v := (v : Int)) (k := (k : Int)) (by omega) (by omega)
    rw [hkm (b + 1) (by omega) (by omega) (by omega), hkm (b + 2) (by omega) (by omega) (by omega)] at hT
    have hB2 : xBk m2 z (m0 (b + 1)) (m0 (b + 2)) (m0 (b + 3)) := by
      unfold xBk
      rw [hm2 363 (by decide), hm2 383 (by decide)]
      exact hB
    have hX := V_255 (d := d2) (m := m2) (q := q2) (w := w2) (by omega) hB2 (v := (v : Int)) (k := (k : Int)) (by omega) (by omega)
    have h01 := tls_01 (V := m0 (b + 1)) (S := m0 (b + 2)) (v := (v : Int)) (k := (k : Int)) z 0
    have hcC : gv d rR58 19 [some (.ref 171), some (.ref b), some (.int (iI (v : Int))), some (.int (iI (k : Int))), u4] [] (mk m1 q w) = if tls (m0 (b + 1)) (m0 (b + 2)) v k z 0 = 0 then rBd (ev d 57 [.ref 171, .int (iI (v : Int)), .int (iI (k : Int))] (mk m1 q w)) (fun x M' => gv d rR58 48 [some (.ref 171), some (.ref b), some (.int (iI (v : Int))), some (.int (iI (k : Int))), u4] (x.toList ++ []) M') else gv d rR58 83 [some (.ref 171), some (.ref b), some (.int (iI (v : Int))), some (.int (iI (k : Int))), u4] [] (mk m1 q w) := by
      rw [b_58_19 hb, hkm 172 (by decide) (by decide) (by decide), hF.1.1, if_pos (by rw [iI_lt (by omega) (by omega)]; omega), hT]
      simp only [rBd_v, Option.toList_some, Option.toList_none, List.cons_append, List.nil_append, List.append_nil]
      rw [b_58_36 hb]
      simp only [iI_eq (show i32 (tls (m0 (b + 1)) (m0 (b + 2)) v k z 0) by omega) (show i32 0 by omega), List.append_nil]
    have hcX : gv d2 rR257 42 [some (.ref 363), some (.int (iI wh)), some (.int (iI be)), some (.int (iI le)), some (.int (iI (v : Int))), some (.int (iI (k : Int))), u6] [] (mk m2 q2 w2) = if tls (m0 (b + 1)) (m0 (b + 2)) v k z 0 = 0 then rBd (ev d2 256 [.ref 363, .int (iI (v : Int)), .int (iI (k : Int))] (mk m2 q2 w2)) (fun x M' => gv d2 rR257 73 [some (.ref 363), some (.int (iI wh)), some (.int (iI be)), some (.int (iI le)), some (.int (iI (v : Int))), some (.int (iI (k : Int))), u6] (x.toList ++ []) M') else gv d2 rR257 101 [some (.ref 363), some (.int (iI wh)), some (.int (iI be)), some (.int (iI le)), some (.int (iI (v : Int))), some (.int (iI (k : Int))), u6] [] (mk m2 q2 w2) := by
      rw [b_257_42, hm2 363 (by decide), e15, if_pos (by rw [iI_lt (by omega) (by omega)]; omega), hX]
      simp only [rBd_v, Option.toList_some, Option.toList_none, List.cons_append, List.nil_append, List.append_nil]
      rw [b_257_59]
      simp only [iI_eq (show i32 (tls (m0 (b + 1)) (m0 (b + 2)) v k z 0) by omega) (show i32 0 by omega), List.append_nil]
    have hskip : ∀ (m1a m2a : Nat → Nat → Int) (u4 u6 : Option Value) (be le : Int), ckI m0 m1a ((cL n).filter f) → m1a 171 4 = be → m1a 171 5 = le → (∀ a, a ≠ 389 → m2a a = mr a) → (-1 ≤ be ∧ be ≤ 100) → (-1 ≤ le ∧ le ≤ 100) → ∃ (be' le' : Int) (m1' m2' : Nat → Nat → Int) (u4' u6' u3 u5 : Option Value),
        gv d rR58 83 [some (.ref 171), some (.ref b), some (.int (iI (v : Int))), some (.int (iI (k : Int))), u4] [] (mk m1a q w) = gv d rR58 12 [some (.ref 171), some (.ref b), some (.int (iI ((v + 1 : Nat) : Int))), u3, u4'] [] (mk m1' q w) ∧
        gv d2 rR257 101 [some (.ref 363), some (.int (iI wh)), some (.int (iI be)), some (.int (iI le)), some (.int (iI (v : Int))), some (.int (iI (k : Int))), u6] [] (mk m2a q2 w2) = gv d2 rR257 33 [some (.ref 363), some (.int (iI wh)), some (.int (iI be')), some (.int (iI le')), some (.int (iI ((v + 1 : Nat) : Int))), u5, u6'] [] (mk m2' q2 w2) ∧
        ckI m0 m1' ((cL n).filter f) ∧ m1' 171 4 = be' ∧ m1' 171 5 = le' ∧ (∀ a, a ≠ 389 → m2' a = mr a) ∧ (-1 ≤ be' ∧ be' ≤ 100) ∧ (-1 ≤ le' ∧ le' ≤ 100) := by
      intro m1a m2a u4 u6 be le a1 a2 a3 a4 a5 a6
      rw [b_58_83 hb, b_257_101, show (k : Int) + 1 = ((k + 1 : Nat) : Int) from rfl]
      exact ih (k + 1) be le m1a m2a u4 u6 (by omega) a1 a2 a3 a4 a5 a6
    rw [hcC, hcX]
    by_cases ct : tls (m0 (b + 1)) (m0 (b + 2)) v k z 0 = 0
    · rw [if_pos ct, if_pos ct]
      have e172 := hkm 172 (by decide) (by decide) (by decide)
      have e173 := hkm 173 (by decide) (by decide) (by decide)
      have e174 := hkm 174 (by decide) (by decide) (by decide)
      obtain ⟨S1, hT1⟩ := T_57 (d := d) (m := m1) (q := q) (w := w) (by omega) (by rw [e172, e173, e174]; exact hF) (by rw [e172]; exact h6) (by rw [e172]; exact h7) hK.2.1 (by omega) hK.2.2 (fun c hc => cL_v (List.mem_filter.mp hc).1) hv (show k < n by omega)
      rw [e173, e174] at hT1
      have hI2 := rIs_8 (M1 := m2) hm2 hI
      obtain ⟨S2, hX1⟩ := V_256 (d := d2) (m := m2) (q := q2) (w := w2) (by omega) hF h6 (M0 := row M0 389 (m2 389)) (by rw [row_o _ _ _ (by decide)]; exact h15) hI2 c1 hB2 (fun c hc => cL_v hc) hf hv (show k < n by omega)
      obtain ⟨wv, hwv⟩ : ∃ wv, wv = tly (fun c => sgc n o (m0 173) (m0 174) c v k) ((cL n).filter f) (fun _ => 0) 0 := ⟨_, rfl⟩
      have hwr : 0 ≤ wv ∧ wv ≤ 28 := by
        have := tly_r (f := fun c => sgc n o (m0 173) (m0 174) c v k) ((cL n).filter f) (fun _ => 0) 0 0 (fun c hc => by
          have := sgc_r hF h6 (cL_v (List.mem_filter.mp hc).1) hv (show k < n by omega)
          show 0 ≤ sgc n o (m0 173) (m0 174) c v k ∧ sgc n o (m0 173) (m0 174) c v k < 16
          omega) (fun j _ => by simp) (by simp)
        rw [← hwv] at this
        omega
      rw [← hwv] at hT1 hX1
      rw [hT1, hX1]
      simp only [rBd_v, Option.toList_some, Option.toList_none, List.cons_append, List.nil_append, List.append_nil]
      rw [b_58_48 hb, b_257_73, row_o _ _ _ (by decide), hbe, hll]
      have hK1 : ckI m0 (row m1 176 S1) ((cL n).filter f) := ⟨fun a a1 a2 a3 => by rw [row_o _ _ _ a3, hkm a a1 a2 a3], by rw [row_o _ _ _ (by decide)]; exact hK.2.1, by rw [row_o _ _ _ (by decide)]; exact hK.2.2⟩
      have hm22 : ∀ a, a ≠ 389 → row m2 389 S2 a = mr a := fun a ha => by rw [row_o _ _ _ ha, hm2 a ha]
      have htake : ∃ (be' le' : Int) (m1' m2' : Nat → Nat → Int) (u4' u6' u3 u5 : Option Value),
          gv d rR58 67 [some (.ref 171), some (.ref b), some (.int (iI (v : Int))), some (.int (iI (k : Int))), some (.int (iI wv))] [] (mk (row m1 176 S1) q w) = gv d rR58 12 [some (.ref 171), some (.ref b), some (.int (iI ((v + 1 : Nat) : Int))), u3, u4'] [] (mk m1' q w) ∧
          gv d2 rR257 89 [some (.ref 363), some (.int (iI wh)), some (.int (iI be)), some (.int (iI le)), some (.int (iI (v : Int))), some (.int (iI (k : Int))), some (.int (iI wv))] [] (mk (row m2 389 S2) q2 w2) = gv d2 rR257 33 [some (.ref 363), some (.int (iI wh)), some (.int (iI be')), some (.int (iI le')), some (.int (iI ((v + 1 : Nat) : Int))), u5, u6'] [] (mk m2' q2 w2) ∧
          ckI m0 m1' ((cL n).filter f) ∧ m1' 171 4 = be' ∧ m1' 171 5 = le' ∧ (∀ a, a ≠ 389 → m2' a = mr a) ∧ (-1 ≤ be' ∧ be' ≤ 100) ∧ (-1 ≤ le' ∧ le' ≤ 100) := by
        rw [b_58_67 hb, b_257_89]
        refine hskip (wr (wr (row m1 176 S1) 171 4 (10 * (v : Int) + k)) 171 5 wv) _ _ _ (10 * (v : Int) + k) wv ⟨fun a a1 a2 a3 => by rw [wr_o _ _ _ _ a1, wr_o _ _ _ _ a1]; exact hK1.1 a a1 a2 a3, ?_, ?_⟩ ?_ (wr_s _ _ _ _) hm22 (by omega) (by omega)
        · rw [wr_b _ _ _ _ (by decide), wr_b _ _ _ _ (by decide)]
          exact hK1.2.1
        · rw [wr_o _ _ _ _ (by decide), wr_o _ _ _ _ (by decide)]
          exact hK1.2.2
        · rw [wr_b _ _ _ _ (by decide), wr_s]
      simp only [iI_eq (show i32 be by omega) (show i32 (-1) by omega), iI_lt (show i32 wv by omega) (show i32 le by omega)]
      by_cases cb : be = -1
      · rw [if_pos cb, if_pos cb]
        exact htake
      · rw [if_neg cb, if_neg cb]
        by_cases cw : wv < le
        · rw [if_pos cw, if_pos cw]
          exact htake
        · rw [if_neg cw, if_neg cw]
          exact hskip (row m1 176 S1) (row m2 389 S2) _ _ be le hK1 (by rw [row_o _ _ _ (by decide)]; exact hbe) (by rw [row_o _ _ _ (by decide)]; exact hll) hm22 hbb hlb
    · rw [if_neg ct, if_neg ct]
      exact hskip m1 m2 u4 u6 be le hK hbe hll hm2 hbb hlb
theorem J_lookv {d2 : Nat} {q2 : Nat → Nat → Option Nat} {w2 : Option (Nat → Int64)} {m0 M0 mr : Nat → Nat → Int} (hd : 11 ≤ d) (hd2 : 3 ≤ d2) (h0 : hFt m0 n r Q o b z G) {f : Nat → Bool} (hf : ∀ c, f c = decide (ftP z (m0 (b + 1)) (m0 (b + 2)) (m0 (b + 3)) (fun v k => sgc n o (m0 173) (m0 174) c v k))) (h15 : M0 363 15 = n) (hI : rIs n o (m0 173) (m0 174) M0 mr (cL n)) (hB : xBk mr z (m0 (b + 1)) (m0 (b + 2)) (m0 (b + 3))) {wh : Int} (hwh : wh = 0 ∨ wh = 1) : ∀ (g v : Nat) (be le : Int) (m1 m2 : Nat → Nat → Int) (u3 u4 u5 u6 : Option Value), v + g = 4 → ckI m0 m1 ((cL n).filter f) → m1 171 4 = be → m1 171 5 = le → (∀ a, a ≠ 389 → m2 a = mr a) → (-1 ≤ be ∧ be ≤ 100) → (-1 ≤ le ∧ le ≤ 100) → ∃ (m1' m2' : Nat → Nat → Int),
    gv d rR58 12 [some (.ref 171), some (.ref b), some (.int (iI (v : Int))), u3, u4] [] (mk m1 q w) = vV (mk m1' q w) ∧
    gv d2 rR257 33 [some (.ref 363), some (.int (iI wh)), some (.int (iI be)), some (.int (iI le)), some (.int (iI (v : Int))), u5, u6] [] (mk m2 q2 w2) = vI (if wh = 0 then m1' 171 4 else m1' 171 5) (mk m2' q2 w2) ∧
    ckI m0 m1' ((cL n).filter f) ∧ (∀ a, a ≠ 389 → m2' a = mr a) := by
  have hb := h0.2.2.2.1
  intro g
  induction g with
  | zero =>
    intro v be le m1 m2 u3 u4 u5 u6 hg hK hbe hll hm2 hbb hlb
    refine ⟨m1, m2, ?_, ?_, hK, hm2⟩
    · rw [b_58_12 hb, if_neg (by rw [iI_lt (by omega) (by omega)]; omega)]
    · rw [b_257_33, if_neg (by rw [iI_lt (by omega) (by omega)]; omega), hbe, hll]
      rcases hwh with rfl | rfl
      · rw [if_pos rfl, b_257_122, if_pos rfl]
      · rw [if_neg (by decide), b_257_122, if_neg (by decide)]
  | succ g ih =>
    intro v be le m1 m2 u3 u4 u5 u6 hg hK hbe hll hm2 hbb hlb
    obtain ⟨be', le', m1', m2', u4', u6', u3', u5', e1, e2, e3, e4, e5, e6, e7, e8⟩ := J_look (d2 := d2) (q := q) (w := w) (q2 := q2) (w2 := w2) hd hd2 h0 hf h15 hI hB (wh := wh) (v := v) (by omega) n 0 be le m1 m2 u4 u6 (by omega) hK hbe hll hm2 hbb hlb
    obtain ⟨m1'', m2'', f1, f2, f3, f4⟩ := ih (v + 1) be' le' m1' m2' u3' u4' u5' u6' (by omega) e3 e4 e5 e6 e7 e8
    refine ⟨m1'', m2'', ?_, ?_, f3, f4⟩
    · rw [b_58_12 hb, if_pos (by rw [iI_lt (by omega) (by omega)]; omega), show iI 0 = iI ((0 : Nat) : Int) from rfl, e1]
      exact f1
    · rw [b_257_33, if_pos (by rw [iI_lt (by omega) (by omega)]; omega), show iI 0 = iI ((0 : Nat) : Int) from rfl, e2]
      exact f2
theorem K_look {a : Int} (ha : i32 a) : cTH 147 257 [.int (iI a)] 1 := by
  intro m q w hR d hd
  obtain ⟨n, r, o, hF, k15, k16, hn7, hfk, hfl, hCi, ho, hbt⟩ := RR_fan hR
  obtain ⟨b, z, b1, b2, hz7, b4, b5, hB⟩ := RR_book hR
  by_cases h : 0 ≤ a ∧ a ≤ 1
  · obtain ⟨m0, m1, h1, h2⟩ := T_54 (d := d - 1) (m := m) (q := q) (w := w) (by omega) hF hfk.2.2.1 b2 b4 hz7 (fun i hi => by have := hB i hi; omega)
    have hms : ∀ e, e < 171 ∨ 175 < e → m1 e = m e := fun e he => (h2.2.1.1 e (by omega) (by omega)).trans (h2.2.2 e he)
    obtain ⟨mw, emw⟩ : ∃ mw, mw = wr (wr m1 171 4 (-1)) 171 5 (-1) := ⟨_, rfl⟩
    have hmw : ∀ e, e ≠ 171 → mw e = m1 e := fun e he => by rw [emw, wr_o _ _ _ _ he, wr_o _ _ _ _ he]
    have hK : ckI m0 mw ((cL n).filter (fitB m0 n o b z)) := ⟨fun e a1 a2 a3 => (hmw e a1).trans (h2.2.1.1 e a1 a2), by rw [emw, wr_b _ _ _ _ (by decide), wr_b _ _ _ _ (by decide)]; exact h2.2.1.2.1, by rw [hmw 175 (by decide)]; exact h2.2.1.2.2⟩
    have hb12 : gv (d - 1 - 1) rR58 0 [some (.ref 171), some (.ref b), none, none, none] [] (mk m1 q w) = gv (d - 1 - 1) rR58 12 [some (.ref 171), some (.ref b), some (.int (iI 0)), none, none] [] (mk mw q w) := by
      rw [b_58_0 b2, emw]
    -- the class first, so that the reference runs behind it
    have key : ∀ (mr : Nat → Nat → Int) (M0 : Nat → Nat → Int), M0 363 15 = n → rIs n o (m0 173) (m0 174) M0 mr (cL n) → xBk mr z (m0 (b + 1)) (m0 (b + 2)) (m0 (b + 3)) → ∃ m1' m2', gv (d - 1 - 1) rR58 12 [some (.ref 171), some (.ref b), some (.int (iI 0)), none, none] [] (mk mw q w) = vV (mk m1' q w) ∧ gv (d - 1) rR257 33 [some (.ref 363), some (.int (iI a)), some (.int (iI (-1))), some (.int (iI (-1))), some (.int (iI 0)), none, none] [] (mk mr q w) = vI (if a = 0 then m1' 171 4 else m1' 171 5) (mk m2' q w) ∧ ckI m0 m1' ((cL n).filter (fitB m0 n o b z)) ∧ (∀ e, e ≠ 389 → m2' e = mr e) := by
      intro mr M0 e15 eI eB
      exact J_lookv (d := d - 1 - 1) (d2 := d - 1) (q := q) (w := w) (q2 := q) (w2 := w) (by omega) (by omega) h2.1 (f := fitB m0 n o b z) (fun c => rfl) e15 eI eB (wh := a) (by omega) 4 0 (-1) (-1) mw mr none none none none (by omega) hK (by rw [emw, wr_b _ _ _ _ (by decide), wr_s]) (by rw [emw, wr_s]) (fun _ _ => rfl) (by omega) (by omega)
    have e151 : m1 363 15 = n := by rw [hms 363 (by omega)]; exact k15
    obtain ⟨mz, g1, g2, g3⟩ := fd_ref (d := d - 1) (m := m) (q := q) (w := w) (by omega) k15 b5 hB h2
    have ez : wr m1 363 0 0 363 15 = n := by rw [wr_b _ _ _ _ (by decide)]; exact e151
    obtain ⟨mc, -, hc1, -, hc3, -⟩ := key mz _ ez g2 g3
    -- and again, from where the class ends
    have hmc : ∀ e, e < 171 ∨ 176 < e → mc e = m e := fun e he => (hc3.1 e (by omega) (by omega) (by omega)).trans (h2.2.2 e (by omega))
    have hfc : fdn m m0 mc n r o b z ∨ True := Or.inr trivial
    obtain ⟨m2, k1, k2⟩ := V_252 (d := d - 1) (m := wr mc 363 0 0) (q := q) (w := w) (by omega) h2.1.1 h2.1.2.1 (by rw [wr_b _ _ _ _ (by decide), hmc 363 (by omega)]; exact k15) (fun j hj => by rw [wr_o _ _ _ _ (by decide), hmc 376 (by omega), row_o _ _ _ (by omega), row_o _ _ _ (by omega)])
    have hbk := book_two b2
    have k3 : xBk m2 z (m0 (b + 1)) (m0 (b + 2)) (m0 (b + 3)) := by
      refine ⟨?_, hz7, ?_⟩
      · rw [k2.2.1 42 (by decide), wr_b _ _ _ _ (by decide), hmc 363 (by omega)]
        exact b5
      · rw [k2.1 383 (by decide) (by decide) (by decide) (by decide), wr_o _ _ _ _ (by decide), hmc 383 (by omega), h2.2.2 (b + 1) (by omega), h2.2.2 (b + 2) (by omega), h2.2.2 (b + 3) (by omega)]
        exact hB
    have ezc : wr mc 363 0 0 363 15 = n := by rw [wr_b _ _ _ _ (by decide), hmc 363 (by omega)]; exact k15
    obtain ⟨mc2, m2', hc1', hx1, hc3', hx2⟩ := key m2 _ ezc k2 k3
    have hsame : mk mc q w = mk mc2 q w := by
      rw [hc1] at hc1'
      have h9 := Option.some.inj hc1'
      exact congrArg (fun y => y.2.1) h9
    have hRc : RR mc q := RR_s ⟨fun e a1 _ => hmc e (by unfold scr at a1; omega), fun j _ => by rw [hmc 363 (by omega)]⟩ (gS_o (hmc 161 (by omega)) (hmc 163 (by omega)) hR.2.2.2.2.2.2) hR
    have hR2 : RR m2 q := rIs_RR (RR_0 hRc) k2
    refine q_in (V := if a = 0 then mc2 171 4 else mc2 171 5) (m1 := mc) (m2 := m2') ?_ ?_ ?_ (RR_s ⟨fun e a1 _ => hx2 e (by unfold scr at a1; omega), fun j _ => by rw [hx2 363 (by decide)]⟩ (gS_o (hx2 161 (by decide)) (hx2 163 (by decide)) hR2.2.2.2.2.2.2) hR2)
    · rw [e_147 (by omega) _ rfl rfl, b_147_0, T_6 (by omega) ha (by omega) (by omega)]
      simp only [rBd_v, Option.toList_some, Option.toList_none, List.cons_append, List.nil_append, List.append_nil]
      rw [b_147_7, T_116 (by omega), zb_t h, if_neg (by decide)]
      simp only [rBd_v, Option.toList_some, Option.toList_none, List.cons_append, List.nil_append, List.append_nil]
      rw [b_147_10, b1]
      refine Eq.trans (b_147_25 b2) ?_
      rw [h1]
      simp only [rBd_v, Option.toList_some, Option.toList_none, List.cons_append, List.nil_append, List.append_nil]
      rw [b_147_28, b1]
      refine Eq.trans (b_147_36 b2) ?_
      rw [e_58 (by omega) _ rfl rfl, hb12, hc1, hsame]
      simp only [rBd_v, Option.toList_some, Option.toList_none, List.cons_append, List.nil_append, List.append_nil]
      rw [b_147_39]
      simp only [iI_eq ha (show i32 0 by omega)]
      by_cases c : a = 0
      · rw [if_pos c, b_147_60, if_pos c]
      · rw [if_neg c, b_147_60, if_neg c]
    · rw [e_257 (by omega) _ rfl rfl, b_257_0, V_161 (by omega) ha (by omega) (by omega)]
      simp only [rBd_v, Option.toList_some, Option.toList_none, List.cons_append, List.nil_append, List.append_nil]
      rw [b_257_12, V_160 (by omega) (Or.inr rfl) (by omega) (by decide) (wr_s _ _ _ _), if_pos h]
      simp only [rBd_v, Option.toList_some, Option.toList_none, List.cons_append, List.nil_append, List.append_nil]
      rw [b_257_17, if_neg (by decide), k1]
      simp only [rBd_v, Option.toList_some, Option.toList_none, List.cons_append, List.nil_append, List.append_nil]
      rw [b_257_26]
      exact hx1
    · rw [hx2 363 (by decide), k2.2.1 0 (by decide), wr_s]
  · refine q_no hR ?_ ?_
    · rw [e_147 (by omega) _ rfl rfl, b_147_0, T_6 (by omega) ha (by omega) (by omega)]
      simp only [rBd_v, Option.toList_some, Option.toList_none, List.cons_append, List.nil_append, List.append_nil]
      rw [b_147_7, T_116 (by omega), zb_f h, if_pos rfl]
      rfl
    · rw [e_257 (by omega) _ rfl rfl, b_257_0, V_161 (by omega) ha (by omega) (by omega)]
      simp only [rBd_v, Option.toList_some, Option.toList_none, List.cons_append, List.nil_append, List.append_nil]
      rw [b_257_12, V_160 (by omega) (Or.inr rfl) (by omega) (by decide) (wr_s _ _ _ _), if_neg h]
      simp only [rBd_v, Option.toList_some, Option.toList_none, List.cons_append, List.nil_append, List.append_nil]
      rw [b_257_17, if_pos rfl]
      rfl
end S
