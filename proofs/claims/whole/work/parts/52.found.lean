/-! ===== a fan of the class: what is found in it, paint ===== -/
def pof (B : Nat → Int) (s : Int) : Nat → Nat → Int
  | 0, _ => -1
  | g + 1, k => if B k = s then (k : Int) else pof B s g (k + 1)
abbrev alk (C : Nat → Int) (o s k : Nat) : Prop := lm C o s 0 = lm C o k 0 ∧ lm C o s 1 = lm C o k 1 ∧ lm C o s 2 = lm C o k 2 ∧ lm C o s 3 = lm C o k 3
def tw (C : Nat → Int) (o s : Nat) : Nat → Nat → Int → Int
  | 0, _, b => b
  | g + 1, k, b => tw C o s g (k + 1) (if k ≠ s ∧ alk C o s k then zOr b (zShl 1 k) else b)
section S
variable {d n : Nat} {m : Nat → Nat → Int} {q : Nat → Nat → Option Nat} {w : Option (Nat → Int64)} {o x y : Nat}
theorem L_32 (hx : iFan x) (hn : m x 0 = n) (hn7 : n ≤ 7) (hl : fl (m (x + 1)) n) {s : Int} (hs : i32 s) : ∀ (g k : Nat), k + g = n → gv d rR32 2 [some (.ref x), some (.int (iI s)), some (.int (iI k))] [] (mk m q w) = vI (pof (m (x + 1)) s g k) (mk m q w) := by
  intro g
  induction g with
  | zero =>
    intro k hk
    rw [b_32_2 hx]
    simp only [hn, iI_lt (by omega : i32 (k : Int)) (by omega : i32 (n : Int))]
    rw [if_neg (by omega)]
    rfl
  | succ g ih =>
    intro k hk
    obtain ⟨h0, h1⟩ := hl k (by omega)
    rw [b_32_2 hx]
    simp only [hn, iI_lt (by omega : i32 (k : Int)) (by omega : i32 (n : Int))]
    rw [if_pos (by omega), b_32_10 hx (by omega) (by omega)]
    simp only [Int.toNat_natCast, iI_eq (by omega : i32 (m (x + 1) k)) hs]
    unfold pof
    by_cases h : m (x + 1) k = s
    · rw [if_pos h, if_pos h]
    · rw [if_neg h, if_neg h, show (k : Int) + 1 = ((k + 1 : Nat) : Int) from rfl]
      exact ih (k + 1) (by omega)
theorem T_32 (hd : 1 ≤ d) (hx : iFan x) (hn : m x 0 = n) (hn7 : n ≤ 7) (hl : fl (m (x + 1)) n) {s : Int} (hs : i32 s) : ev d 32 [.ref x, .int (iI s)] (mk m q w) = vI (pof (m (x + 1)) s n 0) (mk m q w) := by
  rw [e_32 hd _ rfl rfl, b_32_0 hx]
  exact L_32 hx hn hn7 hl hs n 0 (by omega)
theorem lm_i {C : Nat → Int} (hC : ∀ i, i < 28 → i32 (C i)) {s h : Nat} (hs : s < 7) (hh : h < 4) : i32 (lm C o s h) := hC _ (by have := th_lt (o := o) (s := s) hh; omega)
theorem mk_i {B C : Nat → Int} (hC : ∀ i, i < 28 → i32 (C i)) (hl : fl B n) {v : Nat} (hv : v < 4) {k : Int} : i32 (mkI n B C o v k) := by
  unfold mkI
  split
  next hc =>
    obtain ⟨h0, h1⟩ := hl (pl n v k).toNat (by omega)
    exact lm_i hC (by omega) hv
  next => omega
theorem dv2 : ∀ n : Nat, n ≤ 7 → zDiv (n : Int) 2 = ((n / 2 : Nat) : Int) := by decide +kernel
theorem L_34 (hd : 4 ≤ d) (hx : iFan x) (hk : fk (m x) n o) (hl : fl (m (x + 1)) n) (hC : ∀ i, i < 28 → i32 (m (x + 2) i)) {v : Nat} (hv : v < 4) : ∀ (g k : Nat), k + g = n / 2 → gv d rR34 2 [some (.ref x), some (.int (iI v)), some (.int (iI k))] [] (mk m q w) = vI (zb (∀ j, j < n / 2 → k ≤ j → mkI n (m (x + 1)) (m (x + 2)) o v j = mkI n (m (x + 1)) (m (x + 2)) o v ((n : Int) - 1 - j))) (mk m q w) := by
  have hn := hk.2.1
  intro g
  induction g with
  | zero =>
    intro k hg
    rw [b_34_2 hx]
    simp only [hk.1, dv2 n hn, iI_lt (by omega : i32 (k : Int)) (by omega : i32 ((n / 2 : Nat) : Int))]
    rw [if_neg (by omega), zb_t (fun j h1 h2 => by omega)]
  | succ g ih =>
    intro k hg
    rw [b_34_2 hx]
    simp only [hk.1, dv2 n hn, iI_lt (by omega : i32 (k : Int)) (by omega : i32 ((n / 2 : Nat) : Int))]
    rw [if_pos (by omega)]
    simp only [T_19 (m := m) hd hx hk hl hv (by omega : 0 ≤ (k : Int)) (by omega), rBd_v, Option.toList_some, Option.toList_none, List.cons_append, List.nil_append, List.append_nil, b_34_18 hx, hk.1, T_19 (m := m) hd hx hk hl hv (by omega : 0 ≤ (n : Int) - 1 - k) (by omega), b_34_31 hx, iI_eq (mk_i (n := n) (o := o) hC hl hv (k := (k : Int))) (mk_i (n := n) (o := o) hC hl hv (k := (n : Int) - 1 - k))]
    by_cases h : mkI n (m (x + 1)) (m (x + 2)) o v k = mkI n (m (x + 1)) (m (x + 2)) o v ((n : Int) - 1 - k)
    · rw [if_pos h, show (k : Int) + 1 = ((k + 1 : Nat) : Int) from rfl, ih (k + 1) (by omega)]
      refine congrArg (fun z => vI z (mk m q w)) (zb_iff ⟨fun z j h1 h2 => ?_, fun z j h1 h2 => z j h1 (by omega)⟩)
      by_cases he : j = k
      · rw [he]
        exact h
      · exact z j h1 (by omega)
    · rw [if_neg h, zb_f (fun z => h (z k (by omega) (Nat.le_refl _)))]
theorem T_34 (hd : 5 ≤ d) (hx : iFan x) (hk : fk (m x) n o) (hl : fl (m (x + 1)) n) (hC : ∀ i, i < 28 → i32 (m (x + 2) i)) {v : Nat} (hv : v < 4) : ev d 34 [.ref x, .int (iI v)] (mk m q w) = vI (zb (∀ j, j < n / 2 → 0 ≤ j → mkI n (m (x + 1)) (m (x + 2)) o v j = mkI n (m (x + 1)) (m (x + 2)) o v ((n : Int) - 1 - j))) (mk m q w) := by
  rw [e_34 (by omega) _ rfl rfl, b_34_0 hx]
  exact L_34 (show 4 ≤ d - 1 by omega) hx hk hl hC hv (n / 2) 0 (by omega)
theorem S_35 (hd : 3 ≤ d) (hx : iFan x) (hk : fk (m x) n o) (hC : ∀ i, i < 28 → i32 (m (x + 2) i)) {a b h : Nat} (ha : a < 7) (hb : b < 7) (hh : h < 4) : gv d rR35 2 [some (.ref x), some (.int (iI a)), some (.int (iI b)), some (.int (iI h))] [] (mk m q w) = if lm (m (x + 2)) o a h = lm (m (x + 2)) o b h then gv d rR35 2 [some (.ref x), some (.int (iI a)), some (.int (iI b)), some (.int (iI ((h + 1 : Nat) : Int)))] [] (mk m q w) else vI 0 (mk m q w) := by
  rw [b_35_2 hx]
  simp only [iI_lt (by omega : i32 (h : Int)) (by omega : i32 4)]
  rw [if_pos (by omega)]
  simp only [T_18 (m := m) hd hx hk ha hh, T_18 (m := m) hd hx hk hb hh, rBd_v, Option.toList_some, Option.toList_none, List.cons_append, List.nil_append, List.append_nil, b_35_13 hx, b_35_19 hx, iI_eq (lm_i (o := o) hC ha hh) (lm_i (o := o) hC hb hh)]
  rfl
theorem T_35 (hd : 4 ≤ d) (hx : iFan x) (hk : fk (m x) n o) (hC : ∀ i, i < 28 → i32 (m (x + 2) i)) {a b : Nat} (ha : a < 7) (hb : b < 7) : ev d 35 [.ref x, .int (iI a), .int (iI b)] (mk m q w) = vI (zb (alk (m (x + 2)) o a b)) (mk m q w) := by
  have hS := fun (h : Nat) (hh : h < 4) => S_35 (q := q) (w := w) (show 3 ≤ d - 1 by omega) hx hk hC ha hb hh
  have h4 : gv (d - 1) rR35 2 [some (.ref x), some (.int (iI a)), some (.int (iI b)), some (.int (iI ((3 + 1 : Nat) : Int)))] [] (mk m q w) = vI 1 (mk m q w) := by
    rw [b_35_2 hx]
    simp only [iI_lt (by omega : i32 ((3 + 1 : Nat) : Int)) (by omega : i32 4)]
    rw [if_neg (by omega)]
  rw [e_35 (by omega) _ rfl rfl rfl, b_35_0 hx]
  refine Eq.trans (hS 0 (by omega)) ?_
  by_cases h0 : lm (m (x + 2)) o a 0 = lm (m (x + 2)) o b 0
  · rw [if_pos h0]
    refine Eq.trans (hS 1 (by omega)) ?_
    by_cases h1 : lm (m (x + 2)) o a 1 = lm (m (x + 2)) o b 1
    · rw [if_pos h1]
      refine Eq.trans (hS 2 (by omega)) ?_
      by_cases h2 : lm (m (x + 2)) o a 2 = lm (m (x + 2)) o b 2
      · rw [if_pos h2]
        refine Eq.trans (hS 3 (by omega)) ?_
        by_cases h3 : lm (m (x + 2)) o a 3 = lm (m (x + 2)) o b 3
        · rw [if_pos h3, h4, zb_t ⟨h0, h1, h2, h3⟩]
        · rw [if_neg h3, zb_f (fun z => h3 z.2.2.2)]
      · rw [if_neg h2, zb_f (fun z => h2 z.2.2.1)]
    · rw [if_neg h1, zb_f (fun z => h1 z.2.1)]
  · rw [if_neg h0, zb_f (fun z => h0 z.1)]
theorem L_36 (hd : 4 ≤ d) (hx : iFan x) (hk : fk (m x) n o) (hC : ∀ i, i < 28 → i32 (m (x + 2) i)) {a : Nat} (ha : a < 7) : ∀ (g k : Nat) (b : Int), k + g = n → gv d rR36 4 [some (.ref x), some (.int (iI a)), some (.int (iI b)), some (.int (iI k))] [] (mk m q w) = vI (tw (m (x + 2)) o a g k b) (mk m q w) := by
  have hn := hk.2.1
  intro g
  induction g with
  | zero =>
    intro k b hg
    rw [b_36_4 hx]
    simp only [hk.1, iI_lt (by omega : i32 (k : Int)) (by omega : i32 (n : Int))]
    rw [if_neg (by omega)]
    rfl
  | succ g ih =>
    intro k b hg
    rw [b_36_4 hx]
    simp only [hk.1, iI_lt (by omega : i32 (k : Int)) (by omega : i32 (n : Int)), iI_eq (by omega : i32 (k : Int)) (by omega : i32 (a : Int)), b_36_32 hx]
    rw [if_pos (by omega)]
    simp only [T_35 (m := m) hd hx hk hC ha (show k < 7 by omega), rBd_v, Option.toList_some, Option.toList_none, List.cons_append, List.nil_append, List.append_nil, b_36_23 hx, zb_0, b_36_32 hx, show (k : Int) + 1 = ((k + 1 : Nat) : Int) from rfl, ih (k + 1) _ (show k + 1 + g = n by omega)]
    rw [show tw (m (x + 2)) o a (g + 1) k b = tw (m (x + 2)) o a g (k + 1) (if k ≠ a ∧ alk (m (x + 2)) o a k then zOr b (zShl 1 k) else b) from rfl]
    by_cases he : k = a
    · rw [if_pos (by omega), if_neg (fun z => z.1 he)]
    · rw [if_neg (by omega)]
      by_cases hs : alk (m (x + 2)) o a k
      · rw [if_neg (not_not_intro hs), if_pos ⟨he, hs⟩]
      · rw [if_pos hs, if_neg (fun z => hs z.2)]
theorem T_36 (hd : 5 ≤ d) (hx : iFan x) (hk : fk (m x) n o) (hC : ∀ i, i < 28 → i32 (m (x + 2) i)) {a : Nat} (ha : a < 7) : ev d 36 [.ref x, .int (iI a)] (mk m q w) = vI (tw (m (x + 2)) o a n 0 0) (mk m q w) := by
  rw [e_36 (by omega) _ rfl rfl, b_36_0 hx]
  exact L_36 (show 4 ≤ d - 1 by omega) hx hk hC ha n 0 0 (by omega)
theorem T_28 (hd : 2 ≤ d) (hx : iFan x) {s h : Nat} (hs : s < 7) (hh : h < 4) {z : Int} : ev d 28 [.ref x, .int (iI s), .int (iI h), .int (iI z)] (mk m q w) = vV (mk (wr m (x + 2) (4 * s + h) z) q w) := by
  rw [e_28 (by omega) _ rfl rfl rfl rfl]
  simp only [b_28_0 hx, T_16 (show 1 ≤ d - 1 by omega) hs hh, rBd_v, Option.toList_some, Option.toList_none, List.cons_append, List.nil_append, List.append_nil, b_28_5 hx]
  rw [if_neg iI10, b_28_8 hx (by omega) (by omega), b_28_19, show (4 * (s : Int) + (h : Int)).toNat = 4 * s + h by omega]
end S
