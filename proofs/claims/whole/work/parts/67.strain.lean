/-! ===== facts and strain ===== -/
def fq (a b c e f g h : Int) : Nat → Int := fun k => if k = 0 then a else if k = 1 then b else if k = 2 then c else if k = 3 then e else if k = 4 then f else if k = 5 then g else h
theorem fan_rng {x : Nat} (h : iFan x) : 108 ≤ x ∧ x ≤ 356 ∧ (x ≤ 178 ∨ 201 ≤ x) := (by decide +kernel : ∀ x ∈ fanIds, 108 ≤ x ∧ x ≤ 356 ∧ (x ≤ 178 ∨ 201 ≤ x)) x h
theorem law_rng {x : Nat} (h : iLaw x) : x = 182 ∨ x = 186 := (by decide +kernel : ∀ x ∈ lawIds, x = 182 ∨ x = 186) x h
def sm (G : Nat → Int) : Nat → Nat → Int
  | 0, _ => 0
  | g + 1, k => G (35 + k) + sm G g (k + 1)
def smn (o : Nat) : Nat → Nat → Nat
  | 0, _ => 0
  | g + 1, k => bt o k + smn o g (k + 1)
theorem sm_smn {G : Nat → Int} {o : Nat} (h : ∀ s, s < 7 → G (35 + s) = bt o s) : ∀ (g k : Nat), k + g ≤ 7 → sm G g k = smn o g k := by
  intro g
  induction g with
  | zero => intro k _; rfl
  | succ g ih =>
    intro k hk
    unfold sm smn
    rw [ih (k + 1) (by omega), h k (by omega)]
    rfl
theorem smn_pc : ∀ n, n < 8 → ∀ o, o < 128 → o < 2 ^ n → smn o n 0 = pc o := by decide +kernel
theorem pow_lt {n o : Nat} (hn : n ≤ 7) (h : o < 2 ^ n) : o < 128 := Nat.lt_of_lt_of_le h (Nat.pow_le_pow_right (by decide) hn)
section S
variable {d n : Nat} {m : Nat → Nat → Int} {q : Nat → Nat → Option Nat} {w : Option (Nat → Int64)} {x : Nat}
theorem T_43 (hd : 12 ≤ d) {p : Nat} (hx : iLaw x) (hp : iFan p) {z o : Nat} (hL : lawC (m (x + 1)) z) (h3 : m x 3 = z) (h6 : m p 6 = o) (ho : o < 128) {v k : Int} : ∃ F S, ev d 43 [.ref x, .ref p, .int (iI v), .int (iI k)] (mk m q w) = vI (lawv (m (x + 1)) z (fq v k (m p 2) (m p 5) (pc o) (m p 3) (m p 4))) (mk (row (row m (x + 3) F) (x + 2) S) q w) := by
  have hr := fan_rng hp
  have hl := law_rng hx
  have hpx : p ≠ x + 3 := by omega
  have key : ∀ m2, m2 = wr (wr (wr (wr (wr (wr (wr m (x + 3) 0 v) (x + 3) 1 k) (x + 3) 2 (m p 2)) (x + 3) 3 (m p 5)) (x + 3) 4 (pc o)) (x + 3) 5 (m p 3)) (x + 3) 6 (m p 4) →
      ∃ F S, ev (d - 1) 42 [.ref x] (mk m2 q w) = vI (lawv (m (x + 1)) z (fq v k (m p 2) (m p 5) (pc o) (m p 3) (m p 4))) (mk (row (row m (x + 3) F) (x + 2) S) q w) := by
    intro m2 hm2
    have e0 : ∀ y, y ≠ x + 3 → m2 y = m y := fun y hy => by
      rw [hm2]
      simp only [wr_o _ _ _ _ hy]
    have e1 : row m (x + 3) (m2 (x + 3)) = m2 := by
      funext y
      by_cases h : y = x + 3
      · subst h
        rw [row_s]
      · rw [row_o _ _ _ h, e0 y h]
    obtain ⟨S, hS⟩ := T_42 (m := m2) (q := q) (w := w) (show 11 ≤ d - 1 by omega) hx (z := z) (by rw [e0 _ (by omega)]; exact hL) (by rw [e0 _ (by omega)]; exact h3)
    have hv : lawv (m2 (x + 1)) z (m2 (x + 3)) = lawv (m (x + 1)) z (fq v k (m p 2) (m p 5) (pc o) (m p 3) (m p 4)) := by
      refine lawv_congr (by rw [e0 _ (by omega)]; exact hL) (fun j _ => by rw [e0 _ (by omega)]) (fun j hj => ?_)
      have hjs : j = 0 ∨ j = 1 ∨ j = 2 ∨ j = 3 ∨ j = 4 ∨ j = 5 ∨ j = 6 := by omega
      rw [hm2]
      rcases hjs with rfl | rfl | rfl | rfl | rfl | rfl | rfl <;> simp [wr, row, fq]
    refine ⟨m2 (x + 3), S, ?_⟩
    rw [e1, hS, hv]
  obtain ⟨F, S, h⟩ := key _ rfl
  refine ⟨F, S, ?_⟩
  rw [e_43 (by omega) _ rfl rfl rfl rfl]
  simp only [b_43_0 hp hx, T_37 (m := m) (show 1 ≤ d - 1 by omega) hx, rBd_v, Option.toList_some, Option.toList_none, List.cons_append, List.nil_append, List.append_nil, b_43_6 hp hx, wr_o _ _ _ _ hpx, h6, T_38 (show 1 ≤ d - 1 by omega) ho, b_43_22 hp hx, T_39 (show 1 ≤ d - 1 by omega) hx, b_43_33 hx, h, b_43_37]
theorem L_201 {n : Nat} (hn : m 363 15 = n) (hn7 : n ≤ 7) : ∀ (g k : Nat) (b : Int), k + g = n → gv d rR201 4 [some (.ref 363), some (.int (iI b)), some (.int (iI k))] [] (mk m q w) = vI (b + sm (m 377) g k) (mk m q w) := by
  intro g
  induction g with
  | zero =>
    intro k b hk
    simp only [b_201_4, hn, iI_lt (by omega : i32 (k : Int)) (by omega : i32 (n : Int))]
    rw [if_neg (by omega)]
    unfold sm
    rw [Int.add_zero]
  | succ g ih =>
    intro k b hk
    simp only [b_201_4, hn, iI_lt (by omega : i32 (k : Int)) (by omega : i32 (n : Int))]
    rw [if_pos (by omega), b_201_12 (by omega) (by omega), show (k : Int) + 1 = ((k + 1 : Nat) : Int) from rfl, ih (k + 1) _ (by omega), show (35 + (k : Int)).toNat = 35 + k by omega]
    rw [show sm (m 377) (g + 1) k = m 377 (35 + k) + sm (m 377) g (k + 1) from rfl, Int.add_assoc]
theorem V_202 (hd : 4 ≤ d) {C : Nat → Int} {z : Nat} (hL : lawR C z (m 370) (m 371) (m 363 24)) {a b c e f g h : Int} : ∃ F S, ev d 202 [.ref 363, .int (iI a), .int (iI b), .int (iI c), .int (iI e), .int (iI f), .int (iI g), .int (iI h)] (mk m q w) = vI (lawv C z (fq a b c e f g h)) (mk (row (row m 373 F) 372 S) q w) := by
  have key : ∀ m2, m2 = wr (wr (wr (wr (wr (wr (wr m 373 0 a) 373 1 b) 373 2 c) 373 3 e) 373 4 f) 373 5 g) 373 6 h →
      ∃ F S, ev (d - 1) 194 [.ref 363] (mk m2 q w) = vI (lawv C z (fq a b c e f g h)) (mk (row (row m 373 F) 372 S) q w) := by
    intro m2 hm2
    have e0 : ∀ y, y ≠ 373 → m2 y = m y := fun y hy => by
      rw [hm2]
      simp only [wr_o _ _ _ _ hy]
    have e1 : row m 373 (m2 373) = m2 := by
      funext y
      by_cases h : y = 373
      · subst h
        rw [row_s]
      · rw [row_o _ _ _ h, e0 y h]
    obtain ⟨S, hS⟩ := V_194 (m := m2) (q := q) (w := w) (show 3 ≤ d - 1 by omega) (C := C) (z := z) (by rw [e0 _ (by decide), e0 _ (by decide), e0 _ (by decide)]; exact hL)
    have hv : lawv C z (m2 373) = lawv C z (fq a b c e f g h) := by
      refine lawv_congr hL.1 (fun j _ => rfl) (fun j hj => ?_)
      have hjs : j = 0 ∨ j = 1 ∨ j = 2 ∨ j = 3 ∨ j = 4 ∨ j = 5 ∨ j = 6 := by omega
      rw [hm2]
      rcases hjs with rfl | rfl | rfl | rfl | rfl | rfl | rfl <;> simp [wr, row, fq]
    refine ⟨m2 373, S, ?_⟩
    rw [e1, hS, hv]
  obtain ⟨F, S, hk⟩ := key _ rfl
  refine ⟨F, S, ?_⟩
  rw [e_202 (by omega) _ rfl rfl rfl rfl rfl rfl rfl rfl]
  simp only [b_202_0, hk, rBd_v, Option.toList_some, Option.toList_none, List.cons_append, List.nil_append, List.append_nil, b_202_58]
theorem V_203 (hd : 5 ≤ d) {C : Nat → Int} {z n o : Nat} (hL : lawR C z (m 370) (m 371) (m 363 24)) (hn : m 363 15 = n) (hn7 : n ≤ 7) (ho : o < 2 ^ n) (hb : ∀ s, s < 7 → m 377 (35 + s) = bt o s) {v k : Int} : ∃ F S, ev d 203 [.ref 363, .int (iI v), .int (iI k)] (mk m q w) = vI (lawv C z (fq v k (m 377 42) (m 377 44) (pc o) (m 377 43) (m 377 47))) (mk (row (row m 373 F) 372 S) q w) := by
  obtain ⟨F, S, h⟩ := V_202 (m := m) (q := q) (w := w) (show 4 ≤ d - 1 by omega) hL (a := v) (b := k) (c := m 377 42) (e := m 377 44) (f := (pc o : Nat)) (g := m 377 43) (h := m 377 47)
  refine ⟨F, S, ?_⟩
  have h1 : ev (d - 1) 201 [.ref 363] (mk m q w) = vI (pc o : Nat) (mk m q w) := by
    rw [e_201 (by omega) _ rfl, b_201_0]
    refine Eq.trans (L_201 hn hn7 n 0 0 (by omega)) ?_
    rw [Int.zero_add, sm_smn hb n 0 (by omega), smn_pc n (by omega) o (pow_lt hn7 ho) ho]
  rw [e_203 (by omega) _ rfl rfl rfl]
  simp only [b_203_0, h1, rBd_v, Option.toList_some, Option.toList_none, List.cons_append, List.nil_append, List.append_nil, b_203_21, h, b_203_38]
end S
/-! ===== a fan of the class and a row of the reference ===== -/
def fnR (n r Q : Nat) (A B C G : Nat → Int) : Prop :=
  (A 0 = n ∧ n ≤ 7 ∧ A 1 = r ∧ r ≤ 200) ∧ (A 2 = G 42 ∧ 0 ≤ A 2 ∧ A 2 ≤ r) ∧ (A 3 = G 43 ∧ 0 ≤ A 3 ∧ A 3 ≤ 99) ∧ (A 4 = G 47 ∧ 0 ≤ A 4 ∧ A 4 ≤ Q) ∧ A 5 = G 44 ∧
  (A 7 = G 45 ∧ A 8 = G 46 ∧ ((A 7 = -1 ∧ A 8 = 0) ∨ (0 ≤ A 7 ∧ A 7 ≤ 3 ∧ 1 ≤ A 8 ∧ A 8 ≤ n))) ∧
  (∃ o : Nat, A 6 = o ∧ o < 2 ^ n ∧ ∀ s, s < 7 → G (35 + s) = bt o s) ∧
  ((∀ k, k < n → B k = G (28 + k)) ∧ (∀ k, k < n → 0 ≤ B k ∧ B k < n) ∧ (∀ j k, j < n → k < n → B j = B k → j = k)) ∧
  (∀ i, i < 28 → 0 ≤ C i ∧ C i ≤ 10000) ∧ (∀ i, i < 4 * n → C i = G i ∧ C i ≤ 15)
theorem fnR_fld {n r Q Q1 : Nat} {A B C G A1 G1 : Nat → Int} (hF : fnR n r Q A B C G) (h0 : A1 0 = A 0) (h1 : A1 1 = A 1) (h2 : A1 2 = G1 42 ∧ 0 ≤ A1 2 ∧ A1 2 ≤ r) (h3 : A1 3 = G1 43 ∧ 0 ≤ A1 3 ∧ A1 3 ≤ 99) (h4 : A1 4 = G1 47 ∧ 0 ≤ A1 4 ∧ A1 4 ≤ Q1) (h5 : A1 5 = G1 44) (h6 : A1 6 = A 6)
    (h7 : A1 7 = G1 45 ∧ A1 8 = G1 46 ∧ ((A1 7 = -1 ∧ A1 8 = 0) ∨ (0 ≤ A1 7 ∧ A1 7 ≤ 3 ∧ 1 ≤ A1 8 ∧ A1 8 ≤ n))) (hG : ∀ j, j < 42 → G1 j = G j) : fnR n r Q1 A1 B C G1 := by
  obtain ⟨⟨f0, f1, f2, f3⟩, -, -, -, -, -, ⟨o, o1, o2, o3⟩, ⟨b1, b2, b3⟩, c1, c2⟩ := hF
  exact ⟨⟨h0.trans f0, f1, h1.trans f2, f3⟩, h2, h3, h4, h5, h7, ⟨o, h6.trans o1, o2, fun s hs => (hG _ (by omega)).trans (o3 s hs)⟩, ⟨fun k hk => (b1 k hk).trans (hG _ (by omega)).symm, b2, b3⟩, c1, fun i hi => ⟨(c2 i hi).1.trans (hG _ (by omega)).symm, (c2 i hi).2⟩⟩
theorem fnR_B {n r Q : Nat} {A B C G B1 G1 : Nat → Int} (hF : fnR n r Q A B C G) (hG : ∀ j, j < 28 ∨ 35 ≤ j → G1 j = G j) (h1 : ∀ k, k < n → B1 k = G1 (28 + k)) (h2 : ∀ k, k < n → 0 ≤ B1 k ∧ B1 k < n) (h3 : ∀ j k, j < n → k < n → B1 j = B1 k → j = k) : fnR n r Q A B1 C G1 := by
  obtain ⟨f0, f2, f3, f4, f5, f7, ⟨o, o1, o2, o3⟩, ⟨b1, b2, b3⟩, c1, c2⟩ := hF
  have hn := f0.2.1
  exact ⟨f0, ⟨f2.1.trans (hG _ (by omega)).symm, f2.2⟩, ⟨f3.1.trans (hG _ (by omega)).symm, f3.2⟩, ⟨f4.1.trans (hG _ (by omega)).symm, f4.2⟩, f5.trans (hG _ (by omega)).symm, ⟨f7.1.trans (hG _ (by omega)).symm, f7.2.1.trans (hG _ (by omega)).symm, f7.2.2⟩, ⟨o, o1, o2, fun s hs => (hG _ (by omega)).trans (o3 s hs)⟩, ⟨h1, h2, h3⟩, c1, fun i hi => ⟨(c2 i hi).1.trans (hG _ (by omega)).symm, (c2 i hi).2⟩⟩
theorem fnR_C {n r Q : Nat} {A B C G C1 G1 : Nat → Int} (hF : fnR n r Q A B C G) (hG : ∀ j, 28 ≤ j → G1 j = G j) (h1 : ∀ i, i < 28 → 0 ≤ C1 i ∧ C1 i ≤ 10000) (h2 : ∀ i, i < 4 * n → C1 i = G1 i ∧ C1 i ≤ 15) : fnR n r Q A B C1 G1 := by
  obtain ⟨f0, f2, f3, f4, f5, f7, ⟨o, o1, o2, o3⟩, ⟨b1, b2, b3⟩, c1, c2⟩ := hF
  have hn := f0.2.1
  exact ⟨f0, ⟨f2.1.trans (hG _ (by omega)).symm, f2.2⟩, ⟨f3.1.trans (hG _ (by omega)).symm, f3.2⟩, ⟨f4.1.trans (hG _ (by omega)).symm, f4.2⟩, f5.trans (hG _ (by omega)).symm, ⟨f7.1.trans (hG _ (by omega)).symm, f7.2.1.trans (hG _ (by omega)).symm, f7.2.2⟩, ⟨o, o1, o2, fun s hs => (hG _ (by omega)).trans (o3 s hs)⟩, ⟨fun k hk => (b1 k hk).trans (hG _ (by omega)).symm, b2, b3⟩, h1, h2⟩
theorem fnR_6 {n r Q o1 : Nat} {A B C G A1 G1 : Nat → Int} (hF : fnR n r Q A B C G) (hA : ∀ j, j ≠ 6 → A1 j = A j) (hG : ∀ j, j < 35 ∨ 42 ≤ j → G1 j = G j) (h1 : A1 6 = o1) (h2 : o1 < 2 ^ n) (h3 : ∀ s, s < 7 → G1 (35 + s) = bt o1 s) : fnR n r Q A1 B C G1 := by
  obtain ⟨f0, f2, f3, f4, f5, f7, -, ⟨b1, b2, b3⟩, c1, c2⟩ := hF
  have hn := f0.2.1
  unfold fnR
  rw [hA 0 (by decide), hA 1 (by decide), hA 2 (by decide), hA 3 (by decide), hA 4 (by decide), hA 5 (by decide), hA 7 (by decide), hA 8 (by decide), hG 42 (by omega), hG 43 (by omega), hG 44 (by omega), hG 45 (by omega), hG 46 (by omega), hG 47 (by omega)]
  exact ⟨f0, f2, f3, f4, f5, f7, ⟨o1, h1, h2, h3⟩, ⟨fun k hk => (b1 k hk).trans (hG _ (by omega)).symm, b2, b3⟩, c1, fun i hi => ⟨(c2 i hi).1.trans (hG _ (by omega)).symm, (c2 i hi).2⟩⟩
/-- what of a fan the earlier texts ask for -/
theorem fnR_k {n r Q : Nat} {A B C G : Nat → Int} (hF : fnR n r Q A B C G) : ∃ o : Nat, fk A n o ∧ fl B n ∧ (∀ i, i < 28 → i32 (C i)) ∧ o < 2 ^ n ∧ (∀ s, s < 7 → G (35 + s) = bt o s) := by
  obtain ⟨f0, f2, f3, f4, f5, f7, ⟨o, o1, o2, o3⟩, ⟨b1, b2, b3⟩, c1, c2⟩ := hF
  exact ⟨o, ⟨f0.1, f0.2.1, o1, pow_lt f0.2.1 o2⟩, fun k hk => by have := b2 k hk; have := f0.2.1; omega, fun i hi => by have := c1 i hi; omega, o2, o3⟩
theorem fnR_lm {n r Q : Nat} {A B C G : Nat → Int} (hF : fnR n r Q A B C G) {o : Nat} (ho : ∀ s, s < 7 → G (35 + s) = bt o s) {s h : Nat} (hs : s < n) (hh : h < 4) : lm C o s h = xm G s h ∧ 0 ≤ xm G s h ∧ xm G s h ≤ 15 := by
  have hn := hF.1.2.1
  obtain ⟨-, -, -, -, -, -, -, -, c1, c2⟩ := hF
  have hb := bt_01 o s
  unfold lm th xm
  rw [ho s (by omega)]
  by_cases h1 : bt o s = 1
  · rw [if_pos h1, if_pos (by omega)]
    have := c2 (4 * s + (3 - h)) (by omega)
    have := c1 (4 * s + (3 - h)) (by omega)
    omega
  · rw [if_neg h1, if_neg (by omega)]
    have := c2 (4 * s + h) (by omega)
    have := c1 (4 * s + h) (by omega)
    omega
/-- what a step of the class may change, beside its fan: rows of the laws' -/
def qC (x : Nat) (m m1 : Nat → Nat → Int) : Prop := ∀ a, a ≠ x → a ≠ x + 1 → a ≠ x + 2 → a ≠ 184 → a ≠ 185 → a ≠ 188 → a ≠ 189 → m1 a = m a
def qX (m m2 : Nat → Nat → Int) : Prop := ∀ a, a ≠ 377 → a ≠ 372 → a ≠ 373 → m2 a = m a
def clsL (m : Nat → Nat → Int) (y z : Nat) : Prop := iLaw y ∧ lawC (m (y + 1)) z ∧ m y 3 = z
def xR (m : Nat → Nat → Int) (n r : Nat) (C : Nat → Int) (z : Nat) : Prop := m 363 15 = n ∧ m 363 16 = r ∧ lawR C z (m 370) (m 371) (m 363 24)
/-- the reference goes along: method j answers b, its row s goes from G to G1 -/
def sim (d n r : Nat) (C : Nat → Int) (z j : Nat) (As : List Value) (b : Int) (G G1 : Nat → Int) : Prop := ∀ (m : Nat → Nat → Int) (q : Nat → Nat → Option Nat) (w : Option (Nat → Int64)), m 377 = G → xR m n r C z → ∃ m2, ev d j As (mk m q w) = vI b (mk m2 q w) ∧ m2 377 = G1 ∧ qX m m2
section S
variable {d n : Nat} {m : Nat → Nat → Int} {q : Nat → Nat → Option Nat} {w : Option (Nat → Int64)} {x y : Nat} {r Q z : Nat} {G : Nat → Int}
theorem M_shut (hd : 2 ≤ d) (hx : iFan x) (hF : fnR n r Q (m x) (m (x + 1)) (m (x + 2)) G) {C : Nat → Int} : ∃ (b : Int) (m1 : Nat → Nat → Int) (G1 : Nat → Int), (b = 0 ∨ b = 1) ∧ ev d 24 [.ref x] (mk m q w) = vI b (mk m1 q w) ∧ qC x m m1 ∧ fnR n r Q (m1 x) (m1 (x + 1)) (m1 (x + 2)) G1 ∧ sim d n r C z 205 [.ref 363] b G G1 ∧ m1 x 7 = -1 := by
  obtain ⟨f0, f2, f3, f4, f5, ⟨h7, h8, hc⟩, f6⟩ := id hF
  have hn := f0.2.1
  by_cases h : m x 7 = -1
  · refine ⟨0, m, G, Or.inl rfl, ?_, fun a _ _ _ _ _ _ _ => rfl, hF, ?_, h⟩
    · rw [T_24 hd hx (by omega), if_pos h]
    · intro m' q' w' hG hx'
      refine ⟨m', ?_, hG, fun _ _ _ _ => rfl⟩
      rw [V_205 (by omega) (by rw [hG]; omega), if_pos (by rw [hG]; omega)]
  · refine ⟨1, wr (wr m x 7 (-1)) x 8 0, row (row G 46 0) 45 (-1), Or.inr rfl, ?_, ?_, ?_, ?_, ?_⟩
    · rw [T_24 hd hx (by omega), if_neg h]
    · intro a h0 _ _ _ _ _ _
      rw [wr_o _ _ _ _ h0, wr_o _ _ _ _ h0]
    · rw [wr_o _ _ _ _ (by omega : x + 1 ≠ x), wr_o _ _ _ _ (by omega : x + 1 ≠ x), wr_o _ _ _ _ (by omega : x + 2 ≠ x), wr_o _ _ _ _ (by omega : x + 2 ≠ x), wr_x, wr_x]
      refine fnR_fld hF ?_ ?_ ?_ ?_ ?_ ?_ ?_ ?_ ?_
      · simp [row]
      · simp [row]
      · simp [row]; omega
      · simp [row]; omega
      · simp [row]; omega
      · simp [row]; omega
      · simp [row]
      · simp [row]
      · intro j hj
        rw [row_o _ _ _ (by omega), row_o _ _ _ (by omega)]
    · intro m' q' w' hG hx'
      refine ⟨_, by rw [V_205 (by omega) (by rw [hG]; omega), if_neg (by rw [hG]; omega)], ?_, ?_⟩
      · rw [wr_x, wr_x, hG]
      · intro a h1 _ _
        rw [wr_o _ _ _ _ h1, wr_o _ _ _ _ h1]
    · simp [wr, row]
theorem M_open (hd : 13 ≤ d) (hx : iFan x) (hy : clsL m y z) (hF : fnR n r Q (m x) (m (x + 1)) (m (x + 2)) G) {v k : Nat} (hv : v < 4) (hk : 1 ≤ k ∧ k ≤ 7) : ∃ (b : Int) (m1 : Nat → Nat → Int) (G1 : Nat → Int), (b = 0 ∨ b = 1) ∧ ev d 44 [.ref x, .ref y, .int (iI v), .int (iI k)] (mk m q w) = vI b (mk m1 q w) ∧ qC x m m1 ∧ fnR n r Q (m1 x) (m1 (x + 1)) (m1 (x + 2)) G1 ∧ sim d n r (m (y + 1)) z 204 [.ref 363, .int (iI v), .int (iI k)] b G G1 := by
  obtain ⟨f0, f2, f3, f4, f5, ⟨h7, h8, hc⟩, f6⟩ := id hF
  have hn := f0.2.1
  obtain ⟨o, ⟨k1, k2, k3, k4⟩, -, -, ko, kb⟩ := fnR_k hF
  have hr := fan_rng hx
  have hl := law_rng hy.1
  have hE : gv (d - 1) rR44 19 [some (.ref x), some (.ref y), some (.int (iI v)), some (.int (iI k)), none] [] (mk m q w) = vI 0 (mk m q w) := b_44_19
  have hno : ∀ (m' : Nat → Nat → Int), ev d 44 [.ref x, .ref y, .int (iI v), .int (iI k)] (mk m q w) = vI 0 (mk m' q w) → m' = m → sim d n r (m (y + 1)) z 204 [.ref 363, .int (iI v), .int (iI k)] 0 G G → ∃ (b : Int) (m1 : Nat → Nat → Int) (G1 : Nat → Int), (b = 0 ∨ b = 1) ∧ ev d 44 [.ref x, .ref y, .int (iI v), .int (iI k)] (mk m q w) = vI b (mk m1 q w) ∧ qC x m m1 ∧ fnR n r Q (m1 x) (m1 (x + 1)) (m1 (x + 2)) G1 ∧ sim d n r (m (y + 1)) z 204 [.ref 363, .int (iI v), .int (iI k)] b G G1 := by
    rintro m' h1 rfl h2
    exact ⟨0, m', G, Or.inl rfl, h1, fun a _ _ _ _ _ _ _ => rfl, hF, h2⟩
  have hev : ev d 44 [.ref x, .ref y, .int (iI v), .int (iI k)] (mk m q w) = if ¬ m x 7 = -1 then vI 0 (mk m q w) else if ¬ ((1 : Int) ≤ k ∧ (k : Int) ≤ n) then vI 0 (mk m q w) else rBd (ev (d - 1) 43 [.ref y, .ref x, .int (iI v), .int (iI k)] (mk m q w)) (fun u M' => gv (d - 1) rR44 32 [some (.ref x), some (.ref y), some (.int (iI v)), some (.int (iI k)), none] (u.toList ++ [.int (iI (m x 2))]) M') := by
    rw [e_44 (by omega) _ rfl rfl rfl rfl]
    simp only [b_44_0 hy.1 hx, T_23 (m := m) (show 1 ≤ d - 1 by omega) hx (by omega), rBd_v, Option.toList_some, Option.toList_none, List.cons_append, List.nil_append, List.append_nil, b_44_4 hy.1 hx, zb_0, f0.1, T_6 (show 1 ≤ d - 1 by omega) (by omega : i32 (k : Int)) (by omega : i32 1) (by omega : i32 (n : Int)), b_44_16 hy.1 hx, hE]
  by_cases hs : m x 7 = -1
  · rw [if_neg (not_not_intro hs)] at hev
    by_cases hw : k ≤ n
    · rw [if_neg (not_not_intro (by omega))] at hev
      obtain ⟨F, S, h43⟩ := T_43 (q := q) (w := w) (show 12 ≤ d - 1 by omega) hy.1 hx hy.2.1 hy.2.2 k3 k4 (v := (v : Nat)) (k := (k : Nat))
      have hL := lawv_le (m (y + 1)) z (fq v k (m x 2) (m x 5) (pc o) (m x 3) (m x 4))
      rw [h43] at hev
      have ex : row (row m (y + 3) F) (y + 2) S x = m x := by rw [row_o _ _ _ (by omega), row_o _ _ _ (by omega)]
      simp only [rBd_v, Option.toList_some, Option.toList_none, List.cons_append, List.nil_append, List.append_nil, b_44_32 hx, ex, f0.2.2.1, iI_lt (by omega : i32 (r : Int)) (by omega : i32 (m x 2 + lawv (m (y + 1)) z (fq v k (m x 2) (m x 5) (pc o) (m x 3) (m x 4))))] at hev
      -- the reference
      have hX : ∀ (m' : Nat → Nat → Int) (q' : Nat → Nat → Option Nat) (w' : Option (Nat → Int64)), m' 377 = G → xR m' n r (m (y + 1)) z → ∃ F2 S2, ev (d - 1) 203 [.ref 363, .int (iI v), .int (iI k)] (mk m' q' w') = vI (lawv (m (y + 1)) z (fq v k (m x 2) (m x 5) (pc o) (m x 3) (m x 4))) (mk (row (row m' 373 F2) 372 S2) q' w') := by
        intro m' q' w' hG hx'
        obtain ⟨F2, S2, h⟩ := V_203 (m := m') (q := q') (w := w') (show 5 ≤ d - 1 by omega) hx'.2.2 hx'.1 hn ko (by rw [hG]; exact kb) (v := (v : Nat)) (k := (k : Nat))
        rw [hG, ← f2.1, ← f5, ← f3.1, ← f4.1] at h
        exact ⟨F2, S2, h⟩
      by_cases hg : (r : Int) < m x 2 + lawv (m (y + 1)) z (fq v k (m x 2) (m x 5) (pc o) (m x 3) (m x 4))
      · rw [if_pos hg] at hev
        refine ⟨0, _, G, Or.inl rfl, hev, ?_, ?_, ?_⟩
        · intro a _ _ _ _ _ _ _
          rw [row_o _ _ _ (by omega), row_o _ _ _ (by omega)]
        · rw [ex, row_o _ _ _ (by omega), row_o _ _ _ (by omega), row_o _ _ _ (by omega), row_o _ _ _ (by omega)]
          exact hF
        · intro m' q' w' hG hx'
          obtain ⟨F2, S2, h⟩ := hX m' q' w' hG hx'
          refine ⟨row (row m' 373 F2) 372 S2, ?_, by rw [row_o _ _ _ (by decide), row_o _ _ _ (by decide)]; exact hG, fun a h1 h2 h3 => by rw [row_o _ _ _ h2, row_o _ _ _ h3]⟩
          rw [e_204 (by omega) _ rfl rfl rfl]
          simp only [b_204_0, hG, hx'.1, iI_lt (by omega : i32 0) (by omega : i32 (G 46)), iI_lt (by omega : i32 (n : Int)) (by omega : i32 (k : Int)), h, rBd_v, Option.toList_some, Option.toList_none, List.cons_append, List.nil_append, List.append_nil, b_204_31, row_o _ _ _ (show 363 ≠ 372 by decide), row_o _ _ _ (show 363 ≠ 373 by decide), hx'.2.1, ← f2.1, iI_lt (by omega : i32 (r : Int)) (by omega : i32 (m x 2 + lawv (m (y + 1)) z (fq v k (m x 2) (m x 5) (pc o) (m x 3) (m x 4)))), b_204_39]
          rw [if_neg (by omega), if_neg (by omega), if_pos hg]
      · rw [if_neg hg] at hev
        refine ⟨1, _, row (row (row (row G 42 (m x 2 + lawv (m (y + 1)) z (fq v k (m x 2) (m x 5) (pc o) (m x 3) (m x 4)))) 45 v) 46 k) 44 (G 44 + 1), Or.inr rfl, hev, ?_, ?_, ?_⟩
        · intro a h0 _ _ _ _ _ _
          rw [wr_o _ _ _ _ h0, wr_o _ _ _ _ h0, wr_o _ _ _ _ h0, wr_o _ _ _ _ h0, row_o _ _ _ (by omega), row_o _ _ _ (by omega)]
        · have ex1 : row (row m (y + 3) F) (y + 2) S (x + 1) = m (x + 1) := by rw [row_o _ _ _ (by omega), row_o _ _ _ (by omega)]
          have ex2 : row (row m (y + 3) F) (y + 2) S (x + 2) = m (x + 2) := by rw [row_o _ _ _ (by omega), row_o _ _ _ (by omega)]
          simp only [wr_o _ _ _ _ (show x + 1 ≠ x by omega), wr_o _ _ _ _ (show x + 2 ≠ x by omega), wr_x, ex, ex1, ex2]
          refine fnR_fld hF ?_ ?_ ?_ ?_ ?_ ?_ ?_ ?_ ?_
          · simp [row]
          · simp [row]
          · simp [row]; omega
          · simp [row]; omega
          · simp [row]; omega
          · simp [row]; omega
          · simp [row]
          · simp [row]; omega
          · intro j hj
            rw [row_o _ _ _ (by omega), row_o _ _ _ (by omega), row_o _ _ _ (by omega), row_o _ _ _ (by omega)]
        · intro m' q' w' hG hx'
          obtain ⟨F2, S2, h⟩ := hX m' q' w' hG hx'
          have hG2 : row (row m' 373 F2) 372 S2 377 = G := by rw [row_o _ _ _ (by decide), row_o _ _ _ (by decide)]; exact hG
          obtain ⟨F3, S3, h3⟩ := hX (row (row m' 373 F2) 372 S2) q' w' hG2 hx'
          have hG3 : row (row (row (row m' 373 F2) 372 S2) 373 F3) 372 S3 377 = G := by rw [row_o _ _ _ (by decide), row_o _ _ _ (by decide)]; exact hG2
          refine ⟨wr (wr (wr (wr (row (row (row (row m' 373 F2) 372 S2) 373 F3) 372 S3) 377 42 (m x 2 + lawv (m (y + 1)) z (fq v k (m x 2) (m x 5) (pc o) (m x 3) (m x 4)))) 377 45 v) 377 46 k) 377 44 (G 44 + 1), ?_, ?_, ?_⟩
          · rw [e_204 (by omega) _ rfl rfl rfl]
            simp only [b_204_0, hG, hx'.1, iI_lt (by omega : i32 0) (by omega : i32 (G 46)), iI_lt (by omega : i32 (n : Int)) (by omega : i32 (k : Int)), h, rBd_v, Option.toList_some, Option.toList_none, List.cons_append, List.nil_append, List.append_nil, b_204_31, row_o _ _ _ (show 363 ≠ 372 by decide), row_o _ _ _ (show 363 ≠ 373 by decide), hx'.2.1, ← f2.1, iI_lt (by omega : i32 (r : Int)) (by omega : i32 (m x 2 + lawv (m (y + 1)) z (fq v k (m x 2) (m x 5) (pc o) (m x 3) (m x 4)))), h3]
            rw [if_neg (by omega), if_neg (by omega), if_neg hg, hG2, ← f2.1, b_204_55 (by omega) (by omega)]
            simp [wr_x, hG3, hG, row]
          · rw [wr_x, wr_x, wr_x, wr_x, hG3]
          · intro a h1 h2 h3
            rw [wr_o _ _ _ _ h1, wr_o _ _ _ _ h1, wr_o _ _ _ _ h1, wr_o _ _ _ _ h1, row_o _ _ _ h2, row_o _ _ _ h3, row_o _ _ _ h2, row_o _ _ _ h3]
    · rw [if_pos (by omega)] at hev
      refine hno m hev rfl ?_
      intro m' q' w' hG hx'
      refine ⟨m', ?_, hG, fun _ _ _ _ => rfl⟩
      rw [e_204 (by omega) _ rfl rfl rfl]
      simp only [b_204_0, hG, hx'.1, iI_lt (by omega : i32 0) (by omega : i32 (G 46)), iI_lt (by omega : i32 (n : Int)) (by omega : i32 (k : Int)), b_204_39]
      rw [if_neg (by omega), if_pos (by omega)]
  · rw [if_pos hs] at hev
    refine hno m hev rfl ?_
    intro m' q' w' hG hx'
    refine ⟨m', ?_, hG, fun _ _ _ _ => rfl⟩
    rw [e_204 (by omega) _ rfl rfl rfl]
    simp only [b_204_0, hG, iI_lt (by omega : i32 0) (by omega : i32 (G 46)), b_204_39]
    rw [if_pos (by omega)]
end S
