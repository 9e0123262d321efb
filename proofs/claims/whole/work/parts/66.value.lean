/-! ===== the law's value: class and reference ===== -/
theorem wr_row {m : Nat → Nat → Int} {x k : Nat} {S : Nat → Int} {z : Int} : wr (row m x S) x k z = row m x (row S k z) := by
  unfold wr
  rw [row_row, row_s]
def dc (c : Int) : Nat := if c = -11 then 2 else if c = -12 then 3 else if c = -13 then 4 else if c = -14 then 5 else if c = -15 then 8 else if c = -16 then 6 else 7
/-- a code of the class's law -/
def okc (c : Int) : Prop := (0 ≤ c ∧ c ≤ 999) ∨ (-7 ≤ c ∧ c ≤ -1) ∨ (-17 ≤ c ∧ c ≤ -11)
theorem dc_ok {c : Int} (h : -17 ≤ c ∧ c ≤ -11) : 2 ≤ dc c ∧ dc c ≤ 8 ∧ cd (dc c) = c := by
  have hc : c = -11 ∨ c = -12 ∨ c = -13 ∨ c = -14 ∨ c = -15 ∨ c = -16 ∨ c = -17 := by omega
  rcases hc with rfl | rfl | rfl | rfl | rfl | rfl | rfl <;> decide
def cval (c : Int) (fa : Nat → Int) : Int32 := if 0 ≤ c then iI c else iI (fa (-1 - c).toNat)
/-- codes a, a + 1 .. done on a stack -/
def lev (C fa : Nat → Int) : Nat → Nat → List Int32 → Option (List Int32)
  | 0, _, st => some st
  | g + 1, i, st => if C i ≤ -11 then (match st with
      | b :: a :: r => lev C fa g (i + 1) (jn (dc (C i)) a b :: r)
      | _ => none) else lev C fa g (i + 1) (cval (C i) fa :: st)
theorem lev_app (C fa : Nat → Int) (g2 : Nat) : ∀ (g i : Nat) (st : List Int32), lev C fa (g + g2) i st = (lev C fa g i st).bind (lev C fa g2 (i + g)) := by
  intro g
  induction g with
  | zero =>
    intro i st
    rw [Nat.zero_add]
    rfl
  | succ g ih =>
    intro i st
    rw [show g + 1 + g2 = (g + g2) + 1 by omega]
    unfold lev
    by_cases h : C i ≤ -11
    · rw [if_pos h, if_pos h]
      match st with
      | [] => rfl
      | [_] => rfl
      | b :: a :: r =>
        dsimp only
        rw [ih, show i + 1 + g = i + (g + 1) by omega]
    · rw [if_neg h, if_neg h, ih, show i + 1 + g = i + (g + 1) by omega]
theorem lev_congr {C C2 fa fb : Nat → Int} : ∀ (g i : Nat) (st : List Int32), (∀ j, i ≤ j → j < i + g → C j = C2 j ∧ okc (C j)) → (∀ k, k < 7 → iI (fa k) = iI (fb k)) → lev C fa g i st = lev C2 fb g i st := by
  intro g
  induction g with
  | zero => intro i st _ _; rfl
  | succ g ih =>
    intro i st h hf
    obtain ⟨h1, h2⟩ := h i (Nat.le_refl _) (by omega)
    have hi : ∀ st, lev C fa g (i + 1) st = lev C2 fb g (i + 1) st := fun st => ih (i + 1) st (fun j a b => h j (by omega) (by omega)) hf
    unfold lev
    rw [← h1]
    by_cases hc : C i ≤ -11
    · rw [if_pos hc, if_pos hc]
      match st with
      | [] => rfl
      | [_] => rfl
      | b :: a :: r => exact hi _
    · rw [if_neg hc, if_neg hc, hi]
      unfold cval
      by_cases h0 : 0 ≤ C i
      · rw [if_pos h0, if_pos h0]
      · rw [if_neg h0, if_neg h0, hf _ (by unfold okc at h2; omega)]
/-- the codes from a on, g of them, lay one value on any stack -/
def seg (C : Nat → Int) (a g : Nat) : Prop := ∀ (fa : Nat → Int) (st : List Int32), ∃ v, lev C fa g a st = some (v :: st)
theorem seg_congr {C C2 : Nat → Int} {a g : Nat} (h : seg C a g) (hc : ∀ j, a ≤ j → j < a + g → C j = C2 j ∧ okc (C j)) : seg C2 a g := by
  intro fa st
  obtain ⟨v, hv⟩ := h fa st
  exact ⟨v, by rw [← lev_congr g a st hc (fun k _ => rfl)]; exact hv⟩
theorem seg_one {C : Nat → Int} {a : Nat} (h : -11 < C a) : seg C a 1 := by
  intro fa st
  refine ⟨cval (C a) fa, ?_⟩
  unfold lev
  rw [if_neg (by omega)]
  rfl
theorem seg_join {C : Nat → Int} {a g1 g2 : Nat} (h1 : seg C a g1) (h2 : seg C (a + g1) g2) (h : C (a + g1 + g2) ≤ -11) : seg C a (g1 + g2 + 1) := by
  intro fa st
  obtain ⟨v, hv⟩ := h1 fa st
  obtain ⟨u, hu⟩ := h2 fa (v :: st)
  refine ⟨jn (dc (C (a + g1 + g2))) v u, ?_⟩
  rw [lev_app, lev_app, hv]
  show (lev C fa g2 (a + g1) (v :: st)).bind _ = _
  rw [hu]
  show lev C fa 1 (a + (g1 + g2)) (u :: v :: st) = _
  unfold lev
  rw [show a + (g1 + g2) = a + g1 + g2 by omega, if_pos h]
  rfl
def cap (v : Int32) : Int := if iI 60 < v then 60 else if iI 0 < v then v.toInt else 0
theorem cap_le (v : Int32) : 0 ≤ cap v ∧ cap v ≤ 60 := by
  unfold cap
  split
  · omega
  next h =>
    split
    next h2 =>
      have e0 : (iI 0).toInt = 0 := rfl
      have e6 : (iI 60).toInt = 60 := rfl
      rw [Int32.lt_iff_toInt_lt, e6] at h
      rw [Int32.lt_iff_toInt_lt, e0] at h2
      omega
    next => omega
def lawv (C : Nat → Int) (z : Nat) (fa : Nat → Int) : Int := match lev C fa z 0 [] with
  | some [v] => cap v
  | _ => 0
theorem lawv_le (C : Nat → Int) (z : Nat) (fa : Nat → Int) : 0 ≤ lawv C z fa ∧ lawv C z fa ≤ 60 := by
  unfold lawv
  split
  · exact cap_le _
  · omega
/-- a law of the class -/
def lawC (C : Nat → Int) (z : Nat) : Prop := 1 ≤ z ∧ z ≤ 150 ∧ (∀ i, i < z → okc (C i)) ∧ seg C 0 z
theorem lawv_congr {C C2 fa fb : Nat → Int} {z : Nat} (h : lawC C z) (hc : ∀ j, j < z → C j = C2 j) (hf : ∀ k, k < 7 → iI (fa k) = iI (fb k)) : lawv C z fa = lawv C2 z fb := by
  unfold lawv
  rw [lev_congr z 0 [] (fun j _ hj => ⟨hc j (by omega), h.2.2.1 j (by omega)⟩) hf]
/-- a stack of numbers in a row -/
def rpl (S : Nat → Int) : List Int32 → Prop
  | [] => True
  | v :: r => iI (S r.length) = v ∧ rpl S r
theorem rpl_row {S : Nat → Int} {k : Nat} {z : Int} : ∀ {st : List Int32}, st.length ≤ k → rpl S st → rpl (row S k z) st := by
  intro st
  induction st with
  | nil => intro _ _; exact trivial
  | cons v r ih =>
    intro hk h
    rw [List.length_cons] at hk
    exact ⟨by rw [row_o _ _ _ (by omega)]; exact h.1, ih (by omega) h.2⟩
section S
variable {d n : Nat} {m : Nat → Nat → Int} {q : Nat → Nat → Option Nat} {w : Option (Nat → Int64)} {x : Nat}
theorem L_42 (hd : 10 ≤ d) (hx : iLaw x) {z : Nat} (hz : z ≤ 150) {v : Int32} (hC : ∀ i, i < z → okc (m (x + 1) i)) (h3 : m x 3 = z) : ∀ (g i : Nat) (st : List Int32) (S : Nat → Int) (u3 u4 : Option Value), i + g = z → st.length ≤ i → rpl S st → lev (m (x + 1)) (m (x + 3)) g i st = some [v] →
    ∃ S', gv d rR42 4 [some (.ref x), some (.int (iI (st.length : Nat))), some (.int (iI i)), u3, u4] [] (mk (row m (x + 2) S) q w) = vI (cap v) (mk (row m (x + 2) S') q w) := by
  intro g
  induction g with
  | zero =>
    intro i st S u3 u4 hg hs hr hl
    cases hl
    refine ⟨S, ?_⟩
    rw [b_42_4 hx (by omega)]
    simp only [row_o _ _ _ (show x ≠ x + 2 by omega), h3, iI_lt (by omega : i32 (i : Int)) (by omega : i32 (z : Int)), row_s]
    rw [if_neg (by omega)]
    have h1 : iI (S 0) = v := hr.1
    rw [h1]
    unfold cap
    by_cases h6 : iI 60 < v
    · rw [if_pos h6, if_pos h6, if_pos (show iI 0 < iI 60 by decide)]
    · rw [if_neg h6, if_neg h6, h1]
      by_cases h0 : iI 0 < v
      · rw [if_pos h0, if_pos h0]
        unfold vI
        rw [h1, iI_toInt]
      · rw [if_neg h0, if_neg h0]
  | succ g ih =>
    intro i st S u3 u4 hg hs hr hl
    rw [b_42_4 hx (by omega)]
    simp only [row_o _ _ _ (show x ≠ x + 2 by omega), h3, iI_lt (by omega : i32 (i : Int)) (by omega : i32 (z : Int))]
    rw [if_pos (by omega), b_42_12 hx (by omega) (by omega)]
    simp only [row_o _ _ _ (show x + 1 ≠ x + 2 by omega), Int.toNat_natCast]
    have ho := hC i (by omega)
    unfold lev at hl
    by_cases hj : m (x + 1) i ≤ -11
    · rw [if_pos hj] at hl
      have h17 : -17 ≤ m (x + 1) i := by unfold okc at ho; omega
      obtain ⟨c1, c2, c3⟩ := dc_ok ⟨h17, hj⟩
      match st, hs, hr, hl with
      | [], _, _, hl => cases hl
      | [_], _, _, hl => cases hl
      | b :: a :: r, hs, hr, hl =>
        have e1 : ((((b :: a :: r).length : Nat) : Int) + (-1) - 1) = ((r.length : Nat) : Int) := by
          rw [List.length_cons, List.length_cons]
          omega
        have e2 : ((((b :: a :: r).length : Nat) : Int) + (-1)) = ((r.length + 1 : Nat) : Int) := by
          rw [List.length_cons, List.length_cons]
          omega
        have hlen : (b :: a :: r).length = r.length + 2 := rfl
        obtain ⟨hb, ha, hr2⟩ := hr
        have hb' : iI (S (r.length + 1)) = b := hb
        rw [if_neg (by rw [iI_lt (by omega) (by omega)]; omega), b_42_30 hx]
        rw [if_neg iI10, if_neg (by rw [iI_lt (by omega) (by omega)]; omega), b_42_42 hx (by rw [e1]; omega) (by rw [e1]; omega) (by rw [e2]; omega) (by rw [e2]; omega), e1, e2]
        simp only [row_s, Int.toNat_natCast]
        rw [← c3, T_40 hd ⟨c1, c2⟩, ha, hb', ← iI_toInt (jn (dc (m (x + 1) i)) a b)]
        simp only [rBd_v, Option.toList_some, Option.toList_none, List.cons_append, List.nil_append, List.append_nil]
        rw [b_42_70 hx (by omega) (by omega), b_42_110 hx, Int.toNat_natCast, wr_row, show (i : Int) + 1 = ((i + 1 : Nat) : Int) from rfl]
        exact ih (i + 1) (jn (dc (m (x + 1) i)) a b :: r) _ _ _ (by omega) (by rw [List.length_cons]; omega) ⟨by rw [row_s, iI_toInt], rpl_row (Nat.le_refl _) hr2⟩ hl
    · rw [if_neg hj] at hl
      rw [if_pos (by rw [iI_lt (by omega) (by unfold okc at ho; omega)]; omega), b_42_30 hx, if_pos rfl, b_42_74 hx, if_pos rfl, if_pos (by rw [iI_lt (by omega) (by omega)]; omega)]
      have hfin : ∀ y : Int, iI y = cval (m (x + 1) i) (m (x + 3)) → ∃ S', gv d rR42 106 [some (.ref x), some (.int (iI (st.length : Nat))), some (.int (iI i)), some (.int (iI (m (x + 1) i))), some (.int (iI 0))] [.int (iI y), .int (iI (st.length : Nat)), .ref (x + 2)] (mk (row m (x + 2) S) q w) = vI (cap v) (mk (row m (x + 2) S') q w) := by
        intro y hy
        rw [b_42_106 hx (by omega) (by omega), b_42_110 hx, Int.toNat_natCast, wr_row, show (i : Int) + 1 = ((i + 1 : Nat) : Int) from rfl, show ((st.length : Nat) : Int) + 1 = ((st.length + 1 : Nat) : Int) from rfl]
        exact ih (i + 1) (cval (m (x + 1) i) (m (x + 3)) :: st) _ _ _ (by omega) (by rw [List.length_cons]; omega) ⟨by rw [row_s]; exact hy, rpl_row (Nat.le_refl _) hr⟩ hl
      by_cases h0 : 0 ≤ m (x + 1) i
      · rw [if_neg (by rw [iI_lt (by unfold okc at ho; omega) (by omega)]; omega)]
        exact hfin _ (by unfold cval; rw [if_pos h0])
      · rw [if_pos (by rw [iI_lt (by unfold okc at ho; omega) (by omega)]; omega)]
        have hk : m (x + 1) i = -1 - (((-1 - m (x + 1) i).toNat : Nat) : Int) := by unfold okc at ho; omega
        have h41 := T_41 (m := row m (x + 2) S) (q := q) (w := w) (show 1 ≤ d by omega) hx (k := (-1 - m (x + 1) i).toNat) (by unfold okc at ho; omega)
        rw [← hk] at h41
        rw [h41]
        simp only [rBd_v, Option.toList_some, Option.toList_none, List.cons_append, List.nil_append, List.append_nil]
        rw [row_o _ _ _ (show x + 3 ≠ x + 2 by omega)]
        exact hfin _ (by unfold cval; rw [if_neg h0])
theorem T_42 (hd : 11 ≤ d) (hx : iLaw x) {z : Nat} (hL : lawC (m (x + 1)) z) (h3 : m x 3 = z) : ∃ S', ev d 42 [.ref x] (mk m q w) = vI (lawv (m (x + 1)) z (m (x + 3))) (mk (row m (x + 2) S') q w) := by
  obtain ⟨h1, hz, hC, hs⟩ := hL
  obtain ⟨v, hv⟩ := hs (m (x + 3)) []
  obtain ⟨S', h⟩ := L_42 (q := q) (w := w) (show 10 ≤ d - 1 by omega) hx hz hC h3 z 0 [] (m (x + 2)) none none (by omega) (Nat.le_refl _) trivial hv
  refine ⟨S', ?_⟩
  rw [e_42 (by omega) _ rfl, b_42_0 hx]
  rw [row_self] at h
  refine Eq.trans h ?_
  unfold lawv
  rw [hv]
/-! the reference -/
/-- a code of the class and one of the reference -/
def lk (c e f : Int) : Prop := (e = 0 ∧ c = f ∧ 0 ≤ f ∧ f ≤ 999) ∨ (e = 1 ∧ 0 ≤ f ∧ f < 7 ∧ c = -1 - f) ∨ (2 ≤ e ∧ e ≤ 8 ∧ c = cd e.toNat)
theorem cd_dc {e : Nat} (h : 2 ≤ e ∧ e ≤ 8) : dc (cd e) = e ∧ -17 ≤ cd e ∧ cd e ≤ -11 := by
  have hc : e = 2 ∨ e = 3 ∨ e = 4 ∨ e = 5 ∨ e = 6 ∨ e = 7 ∨ e = 8 := by omega
  rcases hc with rfl | rfl | rfl | rfl | rfl | rfl | rfl <;> decide
theorem L_193 (hd : 1 ≤ d) {C : Nat → Int} {z : Nat} (hz : z ≤ 150) {v : Int32} (hC : ∀ i, i < z → lk (C i) (m 370 i) (m 371 i)) (h3 : m 363 24 = z) : ∀ (g i : Nat) (st : List Int32) (S : Nat → Int) (u3 : Option Value), i + g = z → st.length ≤ i → rpl S st → lev C (m 373) g i st = some [v] →
    ∃ S', gv d rR193 4 [some (.ref 363), some (.int (iI (st.length : Nat))), some (.int (iI i)), u3] [] (mk (row m 372 S) q w) = some (.inl (some (.int v)), (mk (row m 372 S') q w, (0, 0))) := by
  intro g
  induction g with
  | zero =>
    intro i st S u3 hg hs hr hl
    cases hl
    refine ⟨S, ?_⟩
    rw [b_193_4]
    simp only [row_o _ _ _ (show 363 ≠ 372 by decide), h3, iI_lt (by omega : i32 (i : Int)) (by omega : i32 (z : Int)), row_s]
    rw [if_neg (by omega)]
    have h1 : iI (S 0) = v := hr.1
    rw [h1]
  | succ g ih =>
    intro i st S u3 hg hs hr hl
    rw [b_193_4]
    simp only [row_o _ _ _ (show 363 ≠ 372 by decide), h3, iI_lt (by omega : i32 (i : Int)) (by omega : i32 (z : Int))]
    rw [if_pos (by omega), b_193_12 (by omega) (by omega)]
    simp only [row_o _ _ _ (show 370 ≠ 372 by decide), row_o _ _ _ (show 371 ≠ 372 by decide), Int.toNat_natCast]
    have ho := hC i (by omega)
    unfold lev at hl
    have hfin : ∀ (y : Int) (u : Option Value), iI y = cval (C i) (m 373) → ¬ C i ≤ -11 → ∃ S', gv d rR193 53 [some (.ref 363), some (.int (iI (st.length : Nat))), some (.int (iI i)), u] [.int (iI y), .int (iI (st.length : Nat)), .ref 372] (mk (row m 372 S) q w) = some (.inl (some (.int v)), (mk (row m 372 S') q w, (0, 0))) := by
      intro y u hy hj
      rw [if_neg hj] at hl
      rw [b_193_53 (by omega) (by omega), b_193_89, Int.toNat_natCast, wr_row, show (i : Int) + 1 = ((i + 1 : Nat) : Int) from rfl, show ((st.length : Nat) : Int) + 1 = ((st.length + 1 : Nat) : Int) from rfl]
      exact ih (i + 1) (cval (C i) (m 373) :: st) _ _ (by omega) (by rw [List.length_cons]; omega) ⟨by rw [row_s]; exact hy, rpl_row (Nat.le_refl _) hr⟩ hl
    rcases ho with ⟨o1, o2, o3, o4⟩ | ⟨o1, o2, o3, o4⟩ | ⟨o1, o2, o3⟩
    · rw [o1, if_neg (by decide), if_pos rfl]
      exact hfin _ _ (by unfold cval; rw [if_pos (by omega), o2]) (by omega)
    · rw [o1, if_neg (by decide), if_neg (by decide), b_193_42 (by omega) (by omega) (by rw [row_o _ _ _ (show 371 ≠ 372 by decide), Int.toNat_natCast]; exact o2) (by rw [row_o _ _ _ (show 371 ≠ 372 by decide), Int.toNat_natCast]; exact o3)]
      simp only [row_o _ _ _ (show 371 ≠ 372 by decide), row_o _ _ _ (show 373 ≠ 372 by decide), Int.toNat_natCast]
      exact hfin _ _ (by unfold cval; rw [if_neg (by omega), o4, show (-1 - (-1 - m 371 i)).toNat = (m 371 i).toNat by omega]) (by omega)
    · obtain ⟨n1, n2, n3⟩ := cd_dc (e := (m 370 i).toNat) (by omega)
      have e0 : iI (m 370 i) = iI ((m 370 i).toNat : Nat) := by rw [Int.toNat_of_nonneg (by omega)]
      rw [if_pos (by rw [iI_lt (by omega) (by omega)]; omega)]
      rw [if_pos (by omega)] at hl
      match st, hs, hr, hl with
      | [], _, _, hl => cases hl
      | [_], _, _, hl => cases hl
      | b :: a :: r, hs, hr, hl =>
        have e1 : ((((b :: a :: r).length : Nat) : Int) + (-1) - 1) = ((r.length : Nat) : Int) := by
          rw [List.length_cons, List.length_cons]
          omega
        have e2 : ((((b :: a :: r).length : Nat) : Int) + (-1)) = ((r.length + 1 : Nat) : Int) := by
          rw [List.length_cons, List.length_cons]
          omega
        have hlen : (b :: a :: r).length = r.length + 2 := rfl
        obtain ⟨hb, ha, hr2⟩ := hr
        have hb' : iI (S (r.length + 1)) = b := hb
        rw [b_193_60 (by rw [e1]; omega) (by rw [e1]; omega) (by rw [e2]; omega) (by rw [e2]; omega), e1, e2]
        simp only [row_s, Int.toNat_natCast]
        rw [e0, V_192 hd (by omega), ha, hb', ← iI_toInt (jn (m 370 i).toNat a b)]
        simp only [rBd_v, Option.toList_some, Option.toList_none, List.cons_append, List.nil_append, List.append_nil]
        rw [b_193_88 (by omega) (by omega), b_193_89, Int.toNat_natCast, wr_row, show (i : Int) + 1 = ((i + 1 : Nat) : Int) from rfl]
        rw [o3, n1] at hl
        exact ih (i + 1) (jn (m 370 i).toNat a b :: r) _ _ (by omega) (by rw [List.length_cons]; omega) ⟨by rw [row_s, iI_toInt], rpl_row (Nat.le_refl _) hr2⟩ hl
/-- both laws -/
def lawR (C : Nat → Int) (z : Nat) (E F : Nat → Int) (k : Int) : Prop := lawC C z ∧ ((k = 0 ∧ z = 1 ∧ C 0 = -2) ∨ (k = z ∧ ∀ i, i < z → lk (C i) (E i) (F i)))
theorem V_194 (hd : 3 ≤ d) {C : Nat → Int} {z : Nat} (hL : lawR C z (m 370) (m 371) (m 363 24)) : ∃ S', ev d 194 [.ref 363] (mk m q w) = vI (lawv C z (m 373)) (mk (row m 372 S') q w) := by
  obtain ⟨⟨h1, hz, hO, hs⟩, hR⟩ := hL
  obtain ⟨v, hv⟩ := hs (m 373) []
  have hlv : lawv C z (m 373) = cap v := by
    unfold lawv
    rw [hv]
  have hcap : ∀ (y : Int) (m' : Nat → Nat → Int), iI y = v → gv (d - 1) rR194 20 [some (.ref 363), none] [.int (iI y)] (mk m' q w) = vI (cap v) (mk m' q w) := by
    intro y m' hy
    have e0 : (iI 0).toInt = 0 := rfl
    have e6 : (iI 60).toInt = 60 := rfl
    rw [b_194_20]
    simp only [b_194_41]
    simp only [hy]
    unfold cap
    by_cases h0 : v < iI 0
    · rw [if_pos h0, if_neg (by rw [Int32.lt_iff_toInt_lt, e0] at h0; rw [Int32.lt_iff_toInt_lt, e6]; omega), if_neg (by rw [Int32.lt_iff_toInt_lt, e0] at h0; rw [Int32.lt_iff_toInt_lt, e0]; omega)]
    · rw [if_neg h0]
      by_cases h6 : iI 60 < v
      · rw [if_pos h6, if_pos h6]
      · rw [if_neg h6, if_neg h6]
        by_cases h1 : iI 0 < v
        · rw [if_pos h1]
          unfold vI
          rw [iI_toInt]
        · rw [if_neg h1]
          have hz : v = iI 0 := Int32.le_antisymm (Int32.not_lt.mp h1) (Int32.not_lt.mp h0)
          rw [hz]
  rw [e_194 (by omega) _ rfl, hlv]
  simp only [b_194_0]
  rcases hR with ⟨k0, z1, c0⟩ | ⟨k1, hk⟩
  · refine ⟨m 372, ?_⟩
    rw [k0, if_pos rfl, row_self]
    refine hcap _ _ ?_
    subst z1
    unfold lev lev at hv
    rw [c0, if_neg (by decide)] at hv
    cases hv
    unfold cval
    rw [if_neg (by decide)]
    rfl
  · obtain ⟨S', h⟩ := L_193 (q := q) (w := w) (m := m) (show 1 ≤ d - 1 - 1 by omega) hz hk k1 z 0 [] (m 372) none (by omega) (Nat.le_refl _) trivial hv
    refine ⟨S', ?_⟩
    rw [k1, if_neg (by rw [iI_eq (by omega) (by omega)]; omega), e_193 (by omega) _ rfl, b_193_0]
    rw [row_self] at h
    rw [show iI 0 = iI (((([] : List Int32).length : Nat)) : Int) from rfl, show iI (((([] : List Int32).length : Nat)) : Int) = iI ((0 : Nat) : Int) from rfl]
    have h' : gv (d - 1 - 1) rR193 4 [some (.ref 363), some (.int (iI ((0 : Nat) : Int))), some (.int (iI ((0 : Nat) : Int))), none] [] (mk m q w) = some (.inl (some (.int v)), (mk (row m 372 S') q w, (0, 0))) := h
    rw [h', ← iI_toInt v]
    simp only [rBd_v, Option.toList_some, Option.toList_none, List.cons_append, List.nil_append, List.append_nil]
    rw [hcap _ _ (iI_toInt v), iI_toInt]
end S
