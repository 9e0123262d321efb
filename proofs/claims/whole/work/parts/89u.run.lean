/-! ===== the call run, alike ===== -/
/-- the longest run, by the class: (length, mark) -/
def rnC (f : Nat → Int) : Nat → Nat → Nat → Int → Nat → Nat × Int
  | 0, _, l, mk, _ => (l, mk)
  | g + 1, k, l, mk, len => if l < (if 0 < k ∧ f k = f (k - 1) then len + 1 else 1) then rnC f g (k + 1) (if 0 < k ∧ f k = f (k - 1) then len + 1 else 1) (f k) (if 0 < k ∧ f k = f (k - 1) then len + 1 else 1) else rnC f g (k + 1) l mk (if 0 < k ∧ f k = f (k - 1) then len + 1 else 1)
def rnI (f : Nat → Int) (n k : Nat) : Nat → Nat → Nat
  | 0, j => j
  | g + 1, j => if k + j < n ∧ f (k + j) = f k then rnI f n k g (j + 1) else j
def rnX (f : Nat → Int) (n : Nat) : Nat → Nat → Nat → Int → Nat × Int
  | 0, _, l, mk => (l, mk)
  | g + 1, k, l, mk => if l < rnI f n k n 1 then rnX f n g (k + 1) (rnI f n k n 1) (f k) else rnX f n g (k + 1) l mk
def rnH (h : Nat → Int) (x : Int) : Int := if x = -1 then -1 else h x.toNat
theorem rnC_map {n : Nat} {f c : Nat → Int} {h : Nat → Int} (hf : ∀ k, k < n → 0 ≤ c k ∧ f k = h (c k).toNat) (he : ∀ k, k < n → 0 < k → (f k = f (k - 1) ↔ c k = c (k - 1))) : ∀ (g k l : Nat) (mk : Int) (len : Nat), k + g = n → rnC f g k l (rnH h mk) len = ((rnC c g k l mk len).1, rnH h (rnC c g k l mk len).2) := by
  intro g
  induction g with
  | zero => intro k l mk len _; rfl
  | succ g ih =>
    intro k l mk len hk
    have e1 : (if 0 < k ∧ f k = f (k - 1) then len + 1 else 1) = (if 0 < k ∧ c k = c (k - 1) then len + 1 else 1) := by
      by_cases c1 : 0 < k ∧ f k = f (k - 1)
      · rw [if_pos c1, if_pos ⟨c1.1, (he k (by omega) c1.1).mp c1.2⟩]
      · rw [if_neg c1, if_neg (fun z => c1 ⟨z.1, (he k (by omega) z.1).mpr z.2⟩)]
    have e2 : f k = rnH h (c k) := by
      have := hf k (by omega)
      unfold rnH
      rw [if_neg (by omega), this.2]
    unfold rnC
    rw [e1, e2]
    by_cases c2 : l < (if 0 < k ∧ c k = c (k - 1) then len + 1 else 1)
    · rw [if_pos c2, if_pos c2, ih (k + 1) _ _ _ (by omega)]
    · rw [if_neg c2, if_neg c2, ih (k + 1) _ _ _ (by omega)]
theorem rnI_map {n k : Nat} {f c : Nat → Int} (he : ∀ k, k < n → 0 < k → (f k = f (k - 1) ↔ c k = c (k - 1))) : ∀ (g j : Nat), 1 ≤ j → f (k + j - 1) = f k → c (k + j - 1) = c k → rnI f n k g j = rnI c n k g j := by
  intro g
  induction g with
  | zero => intro j _ _ _; rfl
  | succ g ih =>
    intro j hj h1 h2
    unfold rnI
    by_cases c1 : k + j < n
    · have e := he (k + j) c1 (by omega)
      rw [h1, h2] at e
      by_cases c2 : f (k + j) = f k
      · rw [if_pos ⟨c1, c2⟩, if_pos ⟨c1, e.mp c2⟩]
        exact ih (j + 1) (by omega) (by rw [show k + (j + 1) - 1 = k + j by omega]; exact c2) (by rw [show k + (j + 1) - 1 = k + j by omega]; exact e.mp c2)
      · rw [if_neg (fun z => c2 z.2), if_neg (fun z => c2 (e.mpr z.2))]
    · rw [if_neg (fun z => c1 z.1), if_neg (fun z => c1 z.1)]
theorem rnX_map {n : Nat} {f c : Nat → Int} {h : Nat → Int} (hf : ∀ k, k < n → 0 ≤ c k ∧ f k = h (c k).toNat) (he : ∀ k, k < n → 0 < k → (f k = f (k - 1) ↔ c k = c (k - 1))) : ∀ (g k l : Nat) (mk : Int), k + g = n → rnX f n g k l (rnH h mk) = ((rnX c n g k l mk).1, rnH h (rnX c n g k l mk).2) := by
  intro g
  induction g with
  | zero => intro k l mk _; rfl
  | succ g ih =>
    intro k l mk hk
    have e2 : f k = rnH h (c k) := by
      have := hf k (by omega)
      unfold rnH
      rw [if_neg (by omega), this.2]
    unfold rnX
    rw [rnI_map he n 1 (by omega) rfl rfl, e2]
    by_cases c2 : l < rnI c n k n 1
    · rw [if_pos c2, if_pos c2, ih (k + 1) _ _ (by omega)]
    · rw [if_neg c2, if_neg c2, ih (k + 1) _ _ (by omega)]
/-- where the run begins in which k stands: e tells by bits where like stands by like -/
def rnS (e : Nat) : Nat → Nat
  | 0 => 0
  | k + 1 => if bt e k = 1 then rnS e k else k + 1
theorem rnS_le (e : Nat) : ∀ k, rnS e k ≤ k := by
  intro k
  induction k with
  | zero => exact Nat.le_refl _
  | succ k ih =>
    unfold rnS
    split <;> omega
def rnB (f : Nat → Int) : Nat → Nat
  | 0 => 0
  | k + 1 => rnB f k + (if f (k + 1) = f k then 2 ^ k else 0)
theorem rn_all : ∀ n, n < 8 → ∀ e, e < 64 → rnC (fun k => (rnS e k : Nat)) n 0 0 (-1) 0 = rnX (fun k => (rnS e k : Nat)) n n 0 0 (-1) := by decide +kernel
theorem rnB_lt (f : Nat → Int) : ∀ k, rnB f k < 2 ^ k := by
  intro k
  induction k with
  | zero => exact Nat.one_pos
  | succ k ih =>
    unfold rnB
    rw [Nat.pow_succ]
    split <;> omega
theorem rnB_bt {f : Nat → Int} : ∀ (b k : Nat), k < b → (bt (rnB f b) k = 1 ↔ f (k + 1) = f k) := by
  intro b
  induction b with
  | zero => intro k h; omega
  | succ b ih =>
    intro k h
    have hlt := rnB_lt f b
    unfold rnB
    by_cases e : k = b
    · subst e
      have hp : 0 < 2 ^ k := Nat.pow_pos (by decide)
      unfold bt
      by_cases c : f (k + 1) = f k
      · rw [if_pos c, Nat.add_div_right _ hp, Nat.div_eq_of_lt hlt]
        exact ⟨fun _ => c, fun _ => rfl⟩
      · rw [if_neg c, Nat.add_zero, Nat.div_eq_of_lt hlt]
        exact ⟨fun z => by omega, fun z => absurd z c⟩
    · rw [← ih k (by omega)]
      have hx : bt (rnB f b + (if f (b + 1) = f b then 2 ^ b else 0)) k = bt (rnB f b) k := by
        by_cases c : f (b + 1) = f b
        · rw [if_pos c]
          unfold bt
          obtain ⟨t, rfl⟩ : ∃ t, b = k + 1 + t := ⟨b - k - 1, by omega⟩
          rw [show 2 ^ (k + 1 + t) = 2 ^ k * (2 * 2 ^ t) by rw [Nat.pow_add, Nat.pow_succ, Nat.mul_assoc], Nat.add_mul_div_left _ _ (Nat.pow_pos (by decide))]
          omega
        · rw [if_neg c, Nat.add_zero]
      rw [hx]
theorem rn_eq {n : Nat} (hn : n ≤ 7) (f : Nat → Int) : rnC f n 0 0 (-1) 0 = rnX f n n 0 0 (-1) := by
  have he : rnB f 6 < 64 := rnB_lt f 6
  have hs : ∀ k, k < 7 → f (rnS (rnB f 6) k) = f k := by
    intro k
    induction k with
    | zero => intro _; rfl
    | succ k ih =>
      intro hk
      have h1 := rnB_bt (f := f) 6 k (by omega)
      unfold rnS
      by_cases c : bt (rnB f 6) k = 1
      · rw [if_pos c, ih (by omega), h1.mp c]
      · rw [if_neg c]
  have h1 : ∀ k, k < n → 0 ≤ ((rnS (rnB f 6) k : Nat) : Int) ∧ f k = f ((rnS (rnB f 6) k : Nat) : Int).toNat := fun k hk => ⟨by omega, by rw [Int.toNat_natCast, hs k (by omega)]⟩
  have h2 : ∀ k, k < n → 0 < k → (f k = f (k - 1) ↔ ((rnS (rnB f 6) k : Nat) : Int) = ((rnS (rnB f 6) (k - 1) : Nat) : Int)) := by
    intro k hk h0
    obtain ⟨j, rfl⟩ : ∃ j, k = j + 1 := ⟨k - 1, by omega⟩
    have h3 := rnB_bt (f := f) 6 j (by omega)
    have h4 := rnS_le (rnB f 6) j
    rw [show j + 1 - 1 = j from rfl, ← h3, show rnS (rnB f 6) (j + 1) = if bt (rnB f 6) j = 1 then rnS (rnB f 6) j else j + 1 from rfl]
    by_cases c : bt (rnB f 6) j = 1
    · rw [if_pos c]
      exact ⟨fun _ => rfl, fun _ => c⟩
    · rw [if_neg c]
      exact ⟨fun z => absurd z c, fun z => by omega⟩
  have a1 := rnC_map (h := f) (n := n) h1 h2 n 0 0 (-1) 0 (by omega)
  have a2 := rnX_map (h := f) (n := n) h1 h2 n 0 0 (-1) (by omega)
  rw [show rnH f (-1) = -1 from rfl] at a1 a2
  rw [a1, a2, rn_all n (by omega) _ he]
section S
variable {d n : Nat} {m : Nat → Nat → Int} {q : Nat → Nat → Option Nat} {w : Option (Nat → Int64)} {r Q o : Nat} {A B C : Nat → Int}
theorem L_144 (hd : 5 ≤ d) (hk : fk (m 108) n o) (hl : fl (m 109) n) (hC : ∀ i, i < 28 → i32 (m 110 i)) {v : Nat} (hv : v < 4) {b : Int} (hb : i32 b) : ∀ (g k l : Nat) (z : Int) (len : Nat) (u7 u8 : Option Value), k + g = n → l ≤ k → len ≤ k → gv d rR144 36 [some (.ref 100), some (.int (iI v)), some (.int (iI b)), some (.int (iI (l : Int))), some (.int (iI z)), some (.int (iI (len : Int))), some (.int (iI (k : Int))), u7, u8] [] (mk m q w) = vI (if b = 0 then ((rnC (fun k => mkI n (m 109) (m 110) o v k) g k l z len).1 : Int) else (rnC (fun k => mkI n (m 109) (m 110) o v k) g k l z len).2) (mk m q w) := by
  have hn := hk.2.1
  intro g
  induction g with
  | zero =>
    intro k l z len u7 u8 hg h1 h2
    rw [b_144_36, hk.1, if_neg (by rw [iI_lt (by omega) (by omega)]; omega)]
    simp only [iI_eq hb (show i32 0 by omega), b_144_142]
    by_cases c : b = 0
    · rw [if_pos c, if_pos c]
      rfl
    · rw [if_neg c, if_neg c]
      rfl
  | succ g ih =>
    intro k l z len u7 u8 hg h1 h2
    rw [b_144_36, hk.1, if_pos (by rw [iI_lt (by omega) (by omega)]; omega), T_19 (by omega) f108 hk hl hv (by omega) (by omega)]
    simp only [rBd_v, Option.toList_some, Option.toList_none, List.cons_append, List.nil_append, List.append_nil]
    have key : ∀ (P : Prop) [Decidable P] (u7 u8 : Option Value), (P ↔ 0 < k ∧ mkI n (m 109) (m 110) o v k = mkI n (m 109) (m 110) o v ((k - 1 : Nat) : Int)) → gv d rR144 96 [some (.ref 100), some (.int (iI v)), some (.int (iI b)), some (.int (iI (l : Int))), some (.int (iI z)), some (.int (iI (len : Int))), some (.int (iI (k : Int))), some (.int (iI (mkI n (m 109) (m 110) o v k))), u8] [.int (iI (zb P))] (mk m q w) = vI (if b = 0 then ((rnC (fun k => mkI n (m 109) (m 110) o v k) (g + 1) k l z len).1 : Int) else (rnC (fun k => mkI n (m 109) (m 110) o v k) (g + 1) k l z len).2) (mk m q w) := by
      intro P _ u7 u8 hP
      have key2 : ∀ (len2 : Nat) (u8 : Option Value), len2 ≤ k + 1 → gv d rR144 111 [some (.ref 100), some (.int (iI v)), some (.int (iI b)), some (.int (iI (l : Int))), some (.int (iI z)), some (.int (iI (len : Int))), some (.int (iI (k : Int))), some (.int (iI (mkI n (m 109) (m 110) o v k))), u8] [.int (iI (len2 : Int))] (mk m q w) = vI (if b = 0 then ((if l < len2 then rnC (fun k => mkI n (m 109) (m 110) o v k) g (k + 1) len2 (mkI n (m 109) (m 110) o v k) len2 else rnC (fun k => mkI n (m 109) (m 110) o v k) g (k + 1) l z len2).1 : Int) else (if l < len2 then rnC (fun k => mkI n (m 109) (m 110) o v k) g (k + 1) len2 (mkI n (m 109) (m 110) o v k) len2 else rnC (fun k => mkI n (m 109) (m 110) o v k) g (k + 1) l z len2).2) (mk m q w) := by
        intro len2 u8 h3
        rw [b_144_111]
        by_cases c : l < len2
        · rw [if_pos (by rw [iI_lt (by omega) (by omega)]; omega), if_pos c, b_144_126, show (k : Int) + 1 = ((k + 1 : Nat) : Int) from rfl, ih (k + 1) _ _ _ _ _ (by omega) (by omega) (by omega)]
        · rw [if_neg (by rw [iI_lt (by omega) (by omega)]; omega), if_neg c, b_144_126, show (k : Int) + 1 = ((k + 1 : Nat) : Int) from rfl, ih (k + 1) _ _ _ _ _ (by omega) (by omega) (by omega)]
      rw [b_144_96]
      simp only [zb_0]
      unfold rnC
      by_cases c : P
      · rw [if_neg (not_not_intro c), show (len : Int) + 1 = ((len + 1 : Nat) : Int) from rfl, key2 _ _ (by omega), if_pos (hP.mp c)]
      · rw [if_pos c, show iI 1 = iI ((1 : Nat) : Int) from rfl, key2 _ _ (by omega), if_neg (fun y => c (hP.mpr y))]
    rw [b_144_64]
    by_cases c : 0 < k
    · rw [if_pos (by rw [iI_lt (by omega) (by omega)]; omega), show (k : Int) - 1 = ((k - 1 : Nat) : Int) by omega, T_19 (by omega) f108 hk hl hv (by omega) (by omega)]
      simp only [rBd_v, Option.toList_some, Option.toList_none, List.cons_append, List.nil_append, List.append_nil]
      rw [b_144_88]
      simp only [iI_eq (mk_i (n := n) (o := o) hC hl hv (k := (k : Int))) (mk_i (n := n) (o := o) hC hl hv (k := ((k - 1 : Nat) : Int)))]
      by_cases c2 : mkI n (m 109) (m 110) o v k = mkI n (m 109) (m 110) o v ((k - 1 : Nat) : Int)
      · rw [if_pos c2, show iI 1 = iI (zb True) from rfl, key True u7 _ ⟨fun _ => ⟨c, c2⟩, fun _ => trivial⟩]
      · rw [if_neg c2, b_144_95, show iI 0 = iI (zb False) from rfl, key False u7 _ ⟨fun y => y.elim, fun y => c2 y.2⟩]
    · rw [if_neg (by rw [iI_lt (by omega) (by omega)]; omega), b_144_95, show iI 0 = iI (zb False) from rfl, key False u7 _ ⟨fun y => y.elim, fun y => c y.1⟩]
theorem L_249i (hd : 4 ≤ d) (hF : fnR n r Q A B C (m 377)) (h6 : A 6 = o) (h15 : m 363 15 = n) {v k : Nat} (hv : v < 4) (hk : k < n) {b y l : Int} : ∀ (g j : Nat), n ≤ k + j + g → k + j ≤ n → gv d rR249 61 [some (.ref 363), some (.int (iI v)), some (.int (iI b)), some (.int (iI y)), some (.int (iI l)), some (.int (iI (k : Int))), some (.int (iI (j : Int)))] [] (mk m q w) = gv d rR249 99 [some (.ref 363), some (.int (iI v)), some (.int (iI b)), some (.int (iI y)), some (.int (iI l)), some (.int (iI (k : Int))), some (.int (iI ((rnI (fun k => mkI n B C o v k) n k g j : Nat) : Int)))] [] (mk m q w) := by
  have hn := hF.1.2.1
  intro g
  induction g with
  | zero =>
    intro j h1 h2
    rw [b_249_61, h15, if_neg (by rw [iI_lt (by omega) (by omega)]; omega)]
    rfl
  | succ g ih =>
    intro j h1 h2
    unfold rnI
    rw [b_249_61, h15]
    by_cases c : k + j < n
    · have r1 := fnR_lr hF h6 (p := (pl n v k).toNat) (v := v) (by have := pl_in (n := n) (v := v) (k := k) (by omega); omega) hv
      rw [← mk_lm (by omega)] at r1
      have r2 := fnR_lr hF h6 (p := (pl n v (k + j : Nat)).toNat) (v := v) (by have := pl_in (n := n) (v := v) (k := k + j) (by omega); omega) hv
      rw [← mk_lm (by omega)] at r2
      rw [if_pos (by rw [iI_lt (by omega) (by omega)]; omega), show (k : Int) + j = ((k + j : Nat) : Int) from rfl, X_217 (by omega) hF h6 h15 hv c]
      simp only [rBd_v, Option.toList_some, Option.toList_none, List.cons_append, List.nil_append, List.append_nil]
      rw [b_249_83, X_217 (by omega) hF h6 h15 hv hk]
      simp only [rBd_v, Option.toList_some, Option.toList_none, List.cons_append, List.nil_append, List.append_nil]
      rw [b_249_90]
      simp only [iI_eq (show i32 (mkI n B C o v (k + j : Nat)) by omega) (show i32 (mkI n B C o v k) by omega)]
      by_cases c2 : mkI n B C o v (k + j : Nat) = mkI n B C o v k
      · rw [if_pos c2, if_pos ⟨c, c2⟩, show (j : Int) + 1 = ((j + 1 : Nat) : Int) from rfl, ih (j + 1) (by omega) (by omega)]
      · rw [if_neg c2, if_neg (fun z => c2 z.2)]
    · rw [if_neg (by rw [iI_lt (by omega) (by omega)]; omega), if_neg (fun z => c z.1)]
theorem rnI_le {f : Nat → Int} {n k : Nat} : ∀ (g j : Nat), rnI f n k g j ≤ j + g := by
  intro g
  induction g with
  | zero => intro j; exact Nat.le_refl _
  | succ g ih =>
    intro j
    unfold rnI
    split
    · have := ih (j + 1)
      omega
    · omega
theorem L_249 (hd : 4 ≤ d) (hF : fnR n r Q A B C (m 377)) (h6 : A 6 = o) (h15 : m 363 15 = n) {v : Nat} (hv : v < 4) {b : Int} (hb : i32 b) : ∀ (g k l : Nat) (z : Int) (u6 : Option Value), k + g = n → l ≤ 8 → gv d rR249 49 [some (.ref 363), some (.int (iI v)), some (.int (iI b)), some (.int (iI z)), some (.int (iI (l : Int))), some (.int (iI (k : Int))), u6] [] (mk m q w) = vI (if b = 0 then ((rnX (fun k => mkI n B C o v k) n g k l z).1 : Int) else (rnX (fun k => mkI n B C o v k) n g k l z).2) (mk m q w) := by
  have hn := hF.1.2.1
  intro g
  induction g with
  | zero =>
    intro k l z u6 hg _
    rw [b_249_49, h15, if_neg (by rw [iI_lt (by omega) (by omega)]; omega)]
    simp only [iI_eq hb (show i32 0 by omega), b_249_137]
    by_cases c : b = 0
    · rw [if_pos c, if_pos c]
      rfl
    · rw [if_neg c, if_neg c]
      rfl
  | succ g ih =>
    intro k l z u6 hg hl
    have hr := rnI_le (f := fun k => mkI n B C o v k) (n := n) (k := k) n 1
    rw [b_249_49, h15, if_pos (by rw [iI_lt (by omega) (by omega)]; omega), show iI 1 = iI ((1 : Nat) : Int) from rfl, L_249i hd hF h6 h15 hv (by omega) n 1 (by omega) (by omega), b_249_99]
    unfold rnX
    by_cases c : l < rnI (fun k => mkI n B C o v k) n k n 1
    · rw [if_pos (by rw [iI_lt (by omega) (by omega)]; omega), if_pos c, X_217 (by omega) hF h6 h15 hv (by omega)]
      simp only [rBd_v, Option.toList_some, Option.toList_none, List.cons_append, List.nil_append, List.append_nil]
      rw [b_249_116, b_249_121, show (k : Int) + 1 = ((k + 1 : Nat) : Int) from rfl, ih (k + 1) _ _ _ (by omega) (by omega)]
    · rw [if_neg (by rw [iI_lt (by omega) (by omega)]; omega), if_neg c, b_249_121, show (k : Int) + 1 = ((k + 1 : Nat) : Int) from rfl, ih (k + 1) _ _ _ (by omega) hl]
theorem K_run {a b : Int} (ha : i32 a) (hb : i32 b) : cTH 144 249 [.int (iI a), .int (iI b)] 1 := by
  intro m q w hR d hd
  obtain ⟨n, r, o, hF, k15, k16, hn7, hfk, hfl, hCi, ho, hbt⟩ := RR_fan hR
  obtain ⟨V, hV⟩ : ∃ V : Int, V = if b = 0 then ((rnC (fun k => mkI n (m 109) (m 110) o a.toNat k) n 0 0 (-1) 0).1 : Int) else (rnC (fun k => mkI n (m 109) (m 110) o a.toNat k) n 0 0 (-1) 0).2 := ⟨_, rfl⟩
  have hEc : gv (d - 1) rR144 21 [some (.ref 100), some (.int (iI a)), some (.int (iI b)), none, none, none, none, none, none] [.ref 100] (mk m q w) = some (.inr 0, (mk (wr m 100 17 (m 100 17 + 1)) q w, (1, 6))) := by
    rw [b_144_21, b_144_22, T_116 (by omega), if_pos rfl]
    rfl
  have hC : ev d 144 [.ref 100, .int (iI a), .int (iI b)] (mk m q w) = if (0 ≤ a ∧ a ≤ 3) ∧ (0 ≤ b ∧ b ≤ 1) then vI V (mk m q w) else some (.inr 0, (mk (wr m 100 17 (m 100 17 + 1)) q w, (1, 6))) := by
    rw [e_144 (by omega) _ rfl rfl rfl, b_144_0, T_128 (by omega) ha]
    simp only [rBd_v, Option.toList_some, Option.toList_none, List.cons_append, List.nil_append, List.append_nil]
    rw [b_144_5]
    simp only [zb_0]
    by_cases h : 0 ≤ a ∧ a ≤ 3
    · rw [if_neg (not_not_intro h), T_6 (by omega) hb (by omega) (by omega)]
      simp only [rBd_v, Option.toList_some, Option.toList_none, List.cons_append, List.nil_append, List.append_nil]
      rw [b_144_14]
      simp only [zb_0]
      by_cases h2 : 0 ≤ b ∧ b ≤ 1
      · rw [if_neg (not_not_intro h2), if_pos ⟨h, h2⟩, b_144_22, T_116 (by omega), if_neg (by decide)]
        simp only [rBd_v, Option.toList_some, Option.toList_none, List.cons_append, List.nil_append, List.append_nil]
        obtain ⟨v, rfl⟩ : ∃ v : Nat, a = v := ⟨a.toNat, by omega⟩
        rw [b_144_25, hV, Int.toNat_natCast]
        exact L_144 (by omega) hfk hfl hCi (by omega) hb n 0 0 (-1) 0 none none (by omega) (by omega) (by omega)
      · rw [if_pos h2, if_neg (fun z => h2 z.2), hEc]
    · rw [if_pos h, if_neg (fun z => h z.1), hEc]
  have hX : ∀ m1 : Nat → Nat → Int, (∀ e, 363 ≤ e → m1 e = m e) → ev d 249 [.ref 363, .int (iI a), .int (iI b)] (mk m1 q w) = if (0 ≤ a ∧ a ≤ 3) ∧ (0 ≤ b ∧ b ≤ 1) then vI V (mk (tk m1) q w) else vI 0 (mk (noX m1 1 1) q w) := by
    intro m1 h1
    have key : ∀ (P : Prop) [Decidable P], (P ↔ (0 ≤ a ∧ a ≤ 3) ∧ (0 ≤ b ∧ b ≤ 1)) → gv (d - 1) rR249 27 [some (.ref 363), some (.int (iI a)), some (.int (iI b)), none, none, none, none] [.int (iI (zb P)), .ref 363] (mk (wr m1 363 0 0) q w) = if P then vI V (mk (tk m1) q w) else vI 0 (mk (noX m1 1 1) q w) := by
      intro P _ hP
      rw [b_249_27, V_160 (by omega) (Or.inr rfl) (by omega) (by decide) (wr_s _ _ _ _)]
      by_cases h : P
      · have hg := hP.mp h
        rw [if_pos h, if_pos h]
        simp only [rBd_v, Option.toList_some, Option.toList_none, List.cons_append, List.nil_append, List.append_nil]
        rw [b_249_32, if_neg (by decide), V_200 (by omega)]
        simp only [rBd_v, Option.toList_some, Option.toList_none, List.cons_append, List.nil_append, List.append_nil]
        obtain ⟨v, rfl⟩ : ∃ v : Nat, a = v := ⟨a.toNat, by omega⟩
        rw [show cp (wr m1 363 0 0) 376 377 48 = tk m1 from rfl, b_249_41, hV, Int.toNat_natCast, rn_eq hn7]
        exact L_249 (by omega) (fnR_congr (fun _ _ => rfl) (fun _ _ => rfl) (fun _ _ => rfl) (fun j hj => by rw [tk_r hj, h1 376 (by decide)]) hF) hfk.2.2.1 (by rw [tk_b (by decide), h1 363 (by decide)]; exact k15) (by omega) hb n 0 0 (-1) none (by omega) (by omega)
      · rw [if_neg h, if_neg h]
        simp only [rBd_v, Option.toList_some, Option.toList_none, List.cons_append, List.nil_append, List.append_nil]
        rw [b_249_32, if_pos rfl]
        rfl
    have hE : ¬ ((0 ≤ a ∧ a ≤ 3) ∧ (0 ≤ b ∧ b ≤ 1)) → gv (d - 1) rR249 26 [some (.ref 363), some (.int (iI a)), some (.int (iI b)), none, none, none, none] [.ref 363] (mk (wr m1 363 0 0) q w) = vI 0 (mk (noX m1 1 1) q w) := by
      intro h
      rw [b_249_26, show iI 0 = iI (zb False) from rfl, key False ⟨fun y => y.elim, fun y => h y⟩, if_neg not_false]
    rw [e_249 (by omega) _ rfl rfl rfl, b_249_0, V_224 (by omega) ha]
    simp only [rBd_v, Option.toList_some, Option.toList_none, List.cons_append, List.nil_append, List.append_nil]
    rw [b_249_10]
    simp only [zb_0]
    by_cases h : 0 ≤ a ∧ a ≤ 3
    · rw [if_neg (not_not_intro h), V_161 (by omega) hb (by omega) (by omega)]
      simp only [rBd_v, Option.toList_some, Option.toList_none, List.cons_append, List.nil_append, List.append_nil]
      rw [b_249_19]
      simp only [zb_0]
      by_cases h2 : 0 ≤ b ∧ b ≤ 1
      · rw [if_neg (not_not_intro h2), if_pos ⟨h, h2⟩, show iI 1 = iI (zb True) from rfl, key True ⟨fun _ => ⟨h, h2⟩, fun _ => trivial⟩, if_pos trivial]
      · rw [if_pos h2, if_neg (fun z => h2 z.2), hE (fun z => h2 z.2)]
    · rw [if_pos h, if_neg (fun z => h z.1), hE (fun z => h z.1)]
  by_cases h : (0 ≤ a ∧ a ≤ 3) ∧ (0 ≤ b ∧ b ≤ 1)
  · rw [if_pos h] at hC
    have hX1 := hX m (fun _ _ => rfl)
    rw [if_pos h] at hX1
    exact q_in hC hX1 tk_0 (tk_RR hR)
  · rw [if_neg h] at hC
    have hX1 := hX (wr m 100 17 (m 100 17 + 1)) (fun e he => wr_o _ _ _ _ (by omega))
    rw [if_neg h] at hX1
    exact q_no hR hC hX1
end S
