/-! ===== the call laid, alike ===== -/
theorem sI_bd {f : Nat → Int} {c : Int} : ∀ (g k : Nat), (∀ j, k ≤ j → j < k + g → 0 ≤ f j ∧ f j ≤ c) → 0 ≤ sI f g k ∧ sI f g k ≤ g * c := by
  intro g
  induction g with
  | zero =>
    intro k _
    unfold sI
    omega
  | succ g ih =>
    intro k h
    have h1 := ih (k + 1) (fun j h1 h2 => h j (by omega) (by omega))
    have h2 := h k (by omega) (by omega)
    unfold sI
    rw [show ((g + 1 : Nat) : Int) * c = (g : Int) * c + c by rw [show ((g + 1 : Nat) : Int) = (g : Int) + 1 from rfl, Int.add_mul, Int.one_mul]]
    omega
theorem sI_pos {f : Nat → Int} : ∀ (g k : Nat), 0 < sI f g k → ∃ j, k ≤ j ∧ j < k + g ∧ 0 < f j := by
  intro g
  induction g with
  | zero =>
    intro k h
    unfold sI at h
    omega
  | succ g ih =>
    intro k h
    unfold sI at h
    by_cases c : 0 < f k
    · exact ⟨k, by omega, by omega, c⟩
    · obtain ⟨j, h1, h2, h3⟩ := ih (k + 1) (by omega)
      exact ⟨j, by omega, by omega, h3⟩
theorem pw14 : ∀ n : Nat, n < 8 → (14 : Int) ^ n ≤ 105413504 ∧ (1 : Int) ≤ 14 ^ n := by decide +kernel
theorem pc_lt : ∀ a : Nat, a < 4 → pc a ≤ 2 ∧ (pc a = 0 ↔ a = 0) := by decide +kernel
theorem wW_bd {al : Nat → Nat → Nat} {n : Nat} (hn7 : n ≤ 7) (hal : ∀ t s, t < n → s < n → al t s < 4) : ∀ (b x : Nat), x < b → x < 2 ^ n → 0 ≤ wW al n x ∧ wW al n x ≤ 14 ^ pc x := by
  have hpw := pw_lt n (by omega)
  intro b
  induction b with
  | zero => intro x h; omega
  | succ b ih =>
    intro x h1 h2
    by_cases h0 : x = 0
    · subst h0
      rw [wW_0]
      exact ⟨by decide, by decide⟩
    · have hp := set_p n (by omega) x (by omega) h2 (by omega)
      obtain ⟨e, he⟩ : ∃ e, pc x = e + 1 := ⟨pc x - 1, by omega⟩
      have h14 := pw14 e (by omega)
      have key := sI_bd (f := fun s => if bt x s = 1 then (pc (al (n - pc x) s) : Int) * wW al n (x - 2 ^ s) else 0) (c := 2 * 14 ^ e) n 0 (fun s _ hs => by
        show 0 ≤ (if bt x s = 1 then (pc (al (n - pc x) s) : Int) * wW al n (x - 2 ^ s) else 0) ∧ (if bt x s = 1 then (pc (al (n - pc x) s) : Int) * wW al n (x - 2 ^ s) else 0) ≤ 2 * 14 ^ e
        by_cases c : bt x s = 1
        · have hd := set_d x (by omega) s (by omega) c
          have hps : 0 < 2 ^ s := Nat.pow_pos (by decide)
          have hw := ih (x - 2 ^ s) (by omega) (by omega)
          rw [show pc (x - 2 ^ s) = e by omega] at hw
          have ha := (pc_lt _ (hal (n - pc x) s (by omega) (by omega))).1
          rw [if_pos c]
          refine ⟨Int.mul_nonneg (by omega) hw.1, Int.le_trans (Int.mul_le_mul_of_nonneg_right (show (pc (al (n - pc x) s) : Int) ≤ 2 by omega) hw.1) (Int.mul_le_mul_of_nonneg_left hw.2 (by decide))⟩
        · rw [if_neg c]
          omega)
      rw [← wW_rec (by omega)] at key
      refine ⟨key.1, Int.le_trans key.2 ?_⟩
      rw [he, Int.pow_succ, Int.mul_comm (14 ^ e) 14]
      have : (n : Int) * (2 * 14 ^ e) ≤ 7 * (2 * 14 ^ e) := Int.mul_le_mul_of_nonneg_right (by omega) (by omega)
      omega
theorem wW_b {al : Nat → Nat → Nat} {n x : Nat} (hn7 : n ≤ 7) (hal : ∀ t s, t < n → s < n → al t s < 4) (hx : x < 2 ^ n) : 0 ≤ wW al n x ∧ wW al n x ≤ 105413504 := by
  have hpw := pw_lt n (by omega)
  have h := wW_bd hn7 hal (x + 1) x (by omega) hx
  have hp := (set_c n (by omega) x (by omega) hx).2
  have h14 := pw14 (pc x) (by omega)
  omega
/-- a stick that comes first may lie -/
def prS (al : Nat → Nat → Nat) (n y t s : Nat) : Prop := bt y s = 1 ∧ al t s ≠ 0 ∧ 0 < wW al n (y - 2 ^ s)
theorem least {P : Nat → Prop} : ∀ n : Nat, (∃ s, s < n ∧ P s) → ∃ s, s < n ∧ P s ∧ ∀ j, j < s → ¬ P j := by
  intro n
  induction n with
  | zero => exact fun ⟨s, h, _⟩ => by omega
  | succ n ih =>
    intro h
    by_cases c : ∃ s, s < n ∧ P s
    · obtain ⟨s, h1, h2, h3⟩ := ih c
      exact ⟨s, by omega, h2, h3⟩
    · obtain ⟨s, h1, h2⟩ := h
      refine ⟨s, h1, h2, fun j hj hp => c ⟨j, by omega, hp⟩⟩
theorem wW_ex {al : Nat → Nat → Nat} {n y : Nat} (hn7 : n ≤ 7) (hal : ∀ t s, t < n → s < n → al t s < 4) (h0 : 0 < y) (hy : y < 2 ^ n) (h : 0 < wW al n y) : ∃ s, s < n ∧ prS al n y (n - pc y) s ∧ ∀ j, j < s → ¬ prS al n y (n - pc y) j := by
  have hpw := pw_lt n (by omega)
  refine least n ?_
  rw [wW_rec h0] at h
  obtain ⟨s, -, h2, h3⟩ := sI_pos n 0 h
  have h3 : 0 < (if bt y s = 1 then (pc (al (n - pc y) s) : Int) * wW al n (y - 2 ^ s) else 0) := h3
  have hp := set_p n (by omega) y (by omega) hy h0
  by_cases c : bt y s = 1
  · rw [if_pos c] at h3
    have hd := set_d y (by omega) s (by omega) c
    have hb := wW_b (x := y - 2 ^ s) hn7 hal (Nat.lt_of_le_of_lt (Nat.sub_le _ _) hy)
    refine ⟨s, by omega, c, fun e => ?_, ?_⟩
    · rw [e, show pc 0 = 0 from rfl, show ((0 : Nat) : Int) * wW al n (y - 2 ^ s) = 0 from Int.zero_mul _] at h3
      omega
    · by_cases e : wW al n (y - 2 ^ s) = 0
      · rw [e, Int.mul_zero] at h3
        omega
      · omega
  · rw [if_neg c] at h3
    omega
theorem an1 : ∀ a : Nat, a < 4 → zAnd (a : Int) 1 = (bt a 0 : Int) := by decide +kernel
theorem dvr : ∀ k : Nat, k < 15 → zDiv (k : Int) 2 = ((k / 2 : Nat) : Int) ∧ zRem (k : Int) 2 = ((k % 2 : Nat) : Int) := by decide +kernel
theorem al_0 : ∀ a : Nat, a < 4 → (a ≠ 0 ↔ bt a 0 = 1 ∨ bt a 1 = 1) := by decide +kernel
/-- what the reference says of a stick that lies first -/
def itS (a s : Nat) : Nat := 2 * s + if bt a 0 = 1 then 0 else 1
section S
variable {d n : Nat} {m : Nat → Nat → Int} {q : Nat → Nat → Option Nat} {w : Option (Nat → Int64)} {al : Nat → Nat → Nat}
theorem L_93 (hd : 3 ≤ d) (hn7 : n ≤ 7) (hal4 : ∀ t s, t < n → s < n → al t s < 4) (hn : m 164 1 = n) (hal : ∀ t s, t < n → s < n → m 168 (7 * t + s) = ((al t s : Nat) : Int)) (hR : ∀ y, y < 2 ^ n → m 169 y = wW al n (2 ^ n - 1 - y)) {x t s0 : Nat} (hx : x < 2 ^ n) (ht : t < n) (hs0 : s0 < n) (h1 : prS al n (2 ^ n - 1 - x) t s0) (h2 : ∀ j, j < s0 → ¬ prS al n (2 ^ n - 1 - x) t j) : ∀ (g s : Nat) (u4 : Option Value), s + g = s0 → gv d rR93 2 [some (.ref 164), some (.int (iI (x : Int))), some (.int (iI (t : Int))), some (.int (iI (s : Int))), u4] [] (mk m q w) = vI s0 (mk m q w) := by
  have hpw := pw_lt n (by omega)
  have hcond : ∀ s, s < n → bt x s = 0 → bt (2 ^ n - 1 - x) s = 1 ∧ x + 2 ^ s < 2 ^ n ∧ m 169 (x + 2 ^ s) = wW al n (2 ^ n - 1 - x - 2 ^ s) := by
    intro s hs c
    have hb := set_b n (by omega) x (by omega) hx s (by omega) hs
    have hi := (set_i n (by omega) x (by omega) hx s hs).resolve_left (by omega)
    exact ⟨by omega, hi, by rw [hR _ hi, show 2 ^ n - 1 - (x + 2 ^ s) = 2 ^ n - 1 - x - 2 ^ s by omega]⟩
  have key : ∀ (s : Nat) (u4 : Option Value), s < n → gv d rR93 2 [some (.ref 164), some (.int (iI (x : Int))), some (.int (iI (t : Int))), some (.int (iI (s : Int))), u4] [] (mk m q w) = if bt x s = 0 ∧ al t s ≠ 0 ∧ 0 < wW al n (2 ^ n - 1 - x - 2 ^ s) then vI s (mk m q w) else gv d rR93 54 [some (.ref 164), some (.int (iI (x : Int))), some (.int (iI (t : Int))), some (.int (iI (s : Int))), some (.int (iI (if bt x s = 0 then 1 else 0)))] [] (mk m q w) := by
    intro s u4 hs
    have hb := bit_ok x (by omega) s (by omega)
    have h01 := bt_01 x s
    rw [b_93_2, hn, if_pos (by rw [iI_lt (by omega) (by omega)]; omega), hb]
    simp only [iI_eq (show i32 (bt x s : Int) by omega) (show i32 0 by omega)]
    by_cases c : bt x s = 0
    · obtain ⟨c1, c2, c3⟩ := hcond s hs c
      have ho := or_set x (by omega) s (by omega) c
      have h4 := hal4 t s ht hs
      have hwb := wW_b (x := 2 ^ n - 1 - x - 2 ^ s) hn7 hal4 (Nat.lt_of_le_of_lt (Nat.sub_le _ _) (show 2 ^ n - 1 - x < 2 ^ n by omega))
      rw [if_pos (by omega), b_93_23, if_neg (by decide), T_91 (by omega) (by omega) (by omega), hal t s ht hs]
      simp only [rBd_v, Option.toList_some, Option.toList_none, List.cons_append, List.nil_append, List.append_nil]
      rw [b_93_36]
      simp only [iI_eq (show i32 ((al t s : Nat) : Int) by omega) (show i32 0 by omega)]
      by_cases c4 : al t s = 0
      · rw [if_pos (by omega), if_neg (fun y => y.2.1 c4), if_pos c]
      · rw [if_neg (by omega), b_93_39 (by rw [ho]; exact Int.natCast_nonneg _) (by rw [ho]; exact nlt (by omega)), ho, Int.toNat_natCast, c3]
        by_cases c5 : 0 < wW al n (2 ^ n - 1 - x - 2 ^ s)
        · rw [if_pos (by rw [iI_lt (by omega) (by omega)]; omega), if_pos ⟨c, c4, c5⟩]
        · rw [if_neg (by rw [iI_lt (by omega) (by omega)]; omega), if_neg (fun y => c5 y.2.2), if_pos c]
    · rw [if_neg (by omega), b_93_23, if_pos rfl, if_neg (fun y => c y.1), if_neg c]
  intro g
  induction g with
  | zero =>
    intro s u4 hg
    obtain rfl : s = s0 := by omega
    have hb := set_b n (by omega) x (by omega) hx s (by omega) hs0
    have h01 := bt_01 x s
    have h3 := h1.1
    rw [key s u4 hs0, if_pos ⟨by omega, h1.2.1, h1.2.2⟩]
  | succ g ih =>
    intro s u4 hg
    rw [key s u4 (by omega), if_neg (fun y => h2 s (by omega) ⟨(hcond s (by omega) y.1).1, y.2.1, y.2.2⟩), b_93_54, show (s : Int) + 1 = ((s + 1 : Nat) : Int) from rfl, ih (s + 1) _ (by omega)]
theorem L_241i (hd : 1 ≤ d) (hn7 : n ≤ 7) (hal4 : ∀ t s, t < n → s < n → al t s < 4) (h15 : m 363 15 = n) {v : Nat} (hml : hML d n al v (-1) m q w) (hR : ∀ y, y < 2 ^ n → m 384 y = wW al n y) {y t s0 : Nat} {pl : Int} (hy : y < 2 ^ n) (ht : t < n) (hs0 : s0 < n) (h1 : prS al n y t s0) (h2 : ∀ j, j < s0 → ¬ prS al n y t j) : ∀ (g k : Nat), k + g = itS (al t s0) s0 → ∃ u6, gv d rR241 70 [some (.ref 363), some (.int (iI v)), some (.int (iI pl)), some (.int (iI (y : Int))), some (.int (iI (-1))), some (.int (iI (t : Int))), some (.int (iI (k : Int)))] [] (mk m q w) = gv d rR241 146 [some (.ref 363), some (.int (iI v)), some (.int (iI pl)), some (.int (iI (y : Int))), some (.int (iI ((itS (al t s0) s0 : Nat) : Int))), some (.int (iI (t : Int))), u6] [] (mk m q w) := by
  have hpw := pw_lt n (by omega)
  have hk0 : itS (al t s0) s0 < 2 * n ∧ 2 * s0 ≤ itS (al t s0) s0 ∧ itS (al t s0) s0 ≤ 2 * s0 + 1 := by
    unfold itS
    split <;> omega
  have h0 := bt_01 (al t s0) 0
  have h3 := (al_0 _ (hal4 t s0 ht hs0)).mp h1.2.1
  have key : ∀ k : Nat, k < 2 * n → gv d rR241 70 [some (.ref 363), some (.int (iI v)), some (.int (iI pl)), some (.int (iI (y : Int))), some (.int (iI (-1))), some (.int (iI (t : Int))), some (.int (iI (k : Int)))] [] (mk m q w) = if bt y (k / 2) = 1 ∧ bt (al t (k / 2)) (k % 2) = 1 ∧ 0 < wW al n (y - 2 ^ (k / 2)) then gv d rR241 140 [some (.ref 363), some (.int (iI v)), some (.int (iI pl)), some (.int (iI (y : Int))), some (.int (iI (k : Int))), some (.int (iI (t : Int))), some (.int (iI (k : Int)))] [] (mk m q w) else gv d rR241 140 [some (.ref 363), some (.int (iI v)), some (.int (iI pl)), some (.int (iI (y : Int))), some (.int (iI (-1))), some (.int (iI (t : Int))), some (.int (iI (k : Int)))] [] (mk m q w) := by
    intro k hk
    have hdv := dvr k (by omega)
    have hb := bit_ok y (by omega) (k / 2) (by omega)
    have h01 := bt_01 y (k / 2)
    rw [b_241_70, h15, if_pos (by rw [iI_lt (by omega) (by omega)]; omega), if_pos rfl, hdv.1, hdv.2, hb]
    simp only [iI_eq (show i32 (bt y (k / 2) : Int) by omega) (show i32 1 by omega)]
    by_cases c : bt y (k / 2) = 1
    · have hcl := an_clr y (by omega) (k / 2) (by omega) c
      have hwb := wW_b (x := y - 2 ^ (k / 2)) hn7 hal4 (Nat.lt_of_le_of_lt (Nat.sub_le _ _) hy)
      rw [if_pos (by omega), hml m (fun _ _ _ _ => rfl) t (k / 2) (k % 2) ht (by omega) (by omega)]
      simp only [rBd_v, Option.toList_some, Option.toList_none, List.cons_append, List.nil_append, List.append_nil]
      rw [b_241_115]
      simp only [zb_0]
      by_cases c2 : bt (al t (k / 2)) (k % 2) = 1
      · rw [if_neg (not_not_intro c2), b_241_118 (by rw [hdv.1, hcl]; exact Int.natCast_nonneg _) (by rw [hdv.1, hcl]; exact nlt (Nat.lt_of_le_of_lt (Nat.sub_le _ _) (show y < 128 by omega))), hdv.1, hcl, Int.toNat_natCast, hR _ (Nat.lt_of_le_of_lt (Nat.sub_le _ _) hy)]
        by_cases c3 : 0 < wW al n (y - 2 ^ (k / 2))
        · rw [if_pos (by rw [iI_lt (by omega) (by omega)]; omega), if_pos ⟨c, c2, c3⟩]
        · rw [if_neg (by rw [iI_lt (by omega) (by omega)]; omega), if_neg (fun y => c3 y.2.2)]
      · rw [if_pos c2, if_neg (fun y => c2 y.2.1)]
    · rw [if_neg (by omega), if_neg (fun y => c y.1)]
  intro g
  induction g with
  | zero =>
    intro k hg
    obtain rfl : k = itS (al t s0) s0 := by omega
    have hks : itS (al t s0) s0 / 2 = s0 := by omega
    have hkr : bt (al t s0) (itS (al t s0) s0 % 2) = 1 := by
      unfold itS
      by_cases c : bt (al t s0) 0 = 1
      · rw [if_pos c, show (2 * s0 + 0) % 2 = 0 by omega]
        exact c
      · rw [if_neg c, show (2 * s0 + 1) % 2 = 1 by omega]
        exact h3.resolve_left c
    refine ⟨some (.int (iI ((itS (al t s0) s0 + 1 : Nat) : Int))), ?_⟩
    rw [key _ hk0.1, hks, if_pos ⟨h1.1, hkr, h1.2.2⟩, b_241_140, show ((itS (al t s0) s0 : Nat) : Int) + 1 = ((itS (al t s0) s0 + 1 : Nat) : Int) from rfl, b_241_70, h15]
    simp only [iI_eq (show i32 ((itS (al t s0) s0 : Nat) : Int) by omega) (show i32 (-1) by omega)]
    by_cases c : itS (al t s0) s0 + 1 < 2 * n
    · rw [if_pos (by rw [iI_lt (by omega) (by omega)]; omega), if_neg (by omega)]
    · rw [if_neg (by rw [iI_lt (by omega) (by omega)]; omega)]
  | succ g ih =>
    intro k hg
    obtain ⟨u6, h⟩ := ih (k + 1) (by omega)
    refine ⟨u6, ?_⟩
    rw [key k (by omega), if_neg, b_241_140, show (k : Int) + 1 = ((k + 1 : Nat) : Int) from rfl, h]
    intro z
    by_cases c : k / 2 < s0
    · refine h2 _ c ⟨z.1, ?_, z.2.2⟩
      refine (al_0 _ (hal4 t (k / 2) ht (by omega))).mpr ?_
      rcases (show k % 2 = 0 ∨ k % 2 = 1 by omega) with e | e
      · rw [e] at z
        exact Or.inl z.2.1
      · rw [e] at z
        exact Or.inr z.2.1
    · have e1 : k / 2 = s0 := by omega
      have e2 : k = 2 * s0 ∧ itS (al t s0) s0 = 2 * s0 + 1 := by omega
      have z2 := z.2.1
      rw [e1, show k % 2 = 0 by omega] at z2
      have e3 := e2.2
      unfold itS at e3
      rw [if_pos z2] at e3
      omega
theorem J_laid {m2 : Nat → Nat → Int} {q2 : Nat → Nat → Option Nat} {w2 : Option (Nat → Int64)} {d2 : Nat} (hd : 4 ≤ d) (hd2 : 2 ≤ d2) (hn7 : n ≤ 7) (hal4 : ∀ t s, t < n → s < n → al t s < 4) (hn : m 164 1 = n) (hal : ∀ t s, t < n → s < n → m 168 (7 * t + s) = ((al t s : Nat) : Int)) (hR : ∀ y, y < 2 ^ n → m 169 y = wW al n (2 ^ n - 1 - y)) (h15 : m2 363 15 = n) {v : Nat} (hml : hML d2 n al v (-1) m2 q2 w2) (hR2 : ∀ y, y < 2 ^ n → m2 384 y = wW al n y) {pl : Nat} (hpl : pl < n) : ∀ (g t x : Nat) (its : Int) (u4 u6 : Option Value), t + g = pl → x < 2 ^ n → pc x = t → 0 < wW al n (2 ^ n - 1 - x) → ∃ V : Int,
    gv d rR94 4 [some (.ref 164), some (.int (iI (pl : Int))), some (.int (iI (x : Int))), some (.int (iI (t : Int))), u4] [] (mk m q w) = vI V (mk m q w) ∧
    gv d2 rR241 58 [some (.ref 363), some (.int (iI v)), some (.int (iI (pl : Int))), some (.int (iI ((2 ^ n - 1 - x : Nat) : Int))), some (.int (iI its)), some (.int (iI (t : Int))), u6] [] (mk m2 q2 w2) = vI V (mk m2 q2 w2) := by
  have hpw := pw_lt n (by omega)
  intro g
  induction g with
  | zero =>
    intro t x its u4 u6 hg hx hpx hpos
    obtain rfl : t = pl := by omega
    have hc := set_c n (by omega) x (by omega) hx
    have hne : 0 < 2 ^ n - 1 - x := by
      refine Nat.pos_of_ne_zero (fun e => ?_)
      rw [e] at hc
      have : pc 0 = 0 := rfl
      omega
    obtain ⟨s0, hs0, h1, h2⟩ := wW_ex hn7 hal4 hne (by omega) hpos
    rw [show n - pc (2 ^ n - 1 - x) = t by omega] at h1 h2
    have hk0 : itS (al t s0) s0 < 2 * n := by
      unfold itS
      split <;> omega
    have h4 := hal4 t s0 (by omega) hs0
    have h01 := bt_01 (al t s0) 0
    refine ⟨(itS (al t s0) s0 : Nat), ?_, ?_⟩
    · rw [b_94_4, if_neg (by rw [iI_lt (by omega) (by omega)]; omega), e_93 (by omega) _ rfl rfl rfl, b_93_0, show iI 0 = iI ((0 : Nat) : Int) from rfl, L_93 (by omega) hn7 hal4 hn hal hR hx (by omega) hs0 h1 h2 s0 0 none (by omega)]
      simp only [rBd_v, Option.toList_some, Option.toList_none, List.cons_append, List.nil_append, List.append_nil]
      rw [b_94_32, T_91 (by omega) (by omega) (by omega), hal t s0 (by omega) hs0]
      simp only [rBd_v, Option.toList_some, Option.toList_none, List.cons_append, List.nil_append, List.append_nil]
      rw [b_94_39, an1 _ h4]
      simp only [iI_eq (show i32 (bt (al t s0) 0 : Int) by omega) (show i32 0 by omega)]
      unfold itS
      by_cases c : bt (al t s0) 0 = 1
      · rw [if_neg (by omega), b_94_49, if_neg (by decide), b_94_64, if_pos c]
        rfl
      · rw [if_pos (by omega), b_94_49, if_pos rfl, b_94_64, if_neg c]
        rfl
    · obtain ⟨u6', h⟩ := L_241i (d := d2) (m := m2) (q := q2) (w := w2) (pl := (t : Int)) (by omega) hn7 hal4 h15 hml hR2 (y := 2 ^ n - 1 - x) (t := t) (by omega) (by omega) hs0 h1 h2 (itS (al t s0) s0) 0 (by omega)
      rw [b_241_58, if_neg (by rw [iI_lt (by omega) (by omega)]; omega), show iI 0 = iI ((0 : Nat) : Int) from rfl, h, b_241_146, b_241_58, if_pos (by rw [iI_lt (by omega) (by omega)]; omega)]
  | succ g ih =>
    intro t x its u4 u6 hg hx hpx hpos
    have hc := set_c n (by omega) x (by omega) hx
    have hne : 0 < 2 ^ n - 1 - x := by
      refine Nat.pos_of_ne_zero (fun e => ?_)
      rw [e] at hc
      have : pc 0 = 0 := rfl
      omega
    obtain ⟨s0, hs0, h1, h2⟩ := wW_ex hn7 hal4 hne (by omega) hpos
    rw [show n - pc (2 ^ n - 1 - x) = t by omega] at h1 h2
    have hk0 : itS (al t s0) s0 < 2 * n ∧ itS (al t s0) s0 / 2 = s0 := by
      unfold itS
      split <;> omega
    have hb := set_b n (by omega) x (by omega) hx s0 (by omega) hs0
    have h3 := h1.1
    have hb0 : bt x s0 = 0 := by omega
    have ho := or_set x (by omega) s0 (by omega) hb0
    have hi := (set_i n (by omega) x (by omega) hx s0 hs0).resolve_left (by omega)
    have hcl := an_clr (2 ^ n - 1 - x) (by omega) s0 (by omega) h3
    have hsd := set_d (2 ^ n - 1 - x) (by omega) s0 (by omega) h3
    have he : 2 ^ n - 1 - x - 2 ^ s0 = 2 ^ n - 1 - (x + 2 ^ s0) := by omega
    have hc2 := set_c n (by omega) (x + 2 ^ s0) (by omega) hi
    obtain ⟨V, e1, e2⟩ := ih (t + 1) (x + 2 ^ s0) ((itS (al t s0) s0 : Nat) : Int) u4 (some (.int (iI ((itS (al t s0) s0 + 1 : Nat) : Int)))) (by omega) hi (by rw [he] at hsd; omega) (by rw [← he]; exact h1.2.2)
    obtain ⟨u6', h⟩ := L_241i (d := d2) (m := m2) (q := q2) (w := w2) (pl := (pl : Int)) (by omega) hn7 hal4 h15 hml hR2 (y := 2 ^ n - 1 - x) (t := t) (by omega) (by omega) hs0 h1 h2 (itS (al t s0) s0) 0 (by omega)
    obtain ⟨V2, e3, e4⟩ := ih (t + 1) (x + 2 ^ s0) ((itS (al t s0) s0 : Nat) : Int) u4 u6' (by omega) hi (by rw [he] at hsd; omega) (by rw [← he]; exact h1.2.2)
    refine ⟨V2, ?_, ?_⟩
    · rw [b_94_4, if_pos (by rw [iI_lt (by omega) (by omega)]; omega), e_93 (by omega) _ rfl rfl rfl, b_93_0, show iI 0 = iI ((0 : Nat) : Int) from rfl, L_93 (by omega) hn7 hal4 hn hal hR hx (by omega) hs0 h1 h2 s0 0 none (by omega)]
      simp only [rBd_v, Option.toList_some, Option.toList_none, List.cons_append, List.nil_append, List.append_nil]
      rw [b_94_17, ho]
      exact e3
    · rw [b_241_58, if_neg (by rw [iI_lt (by omega) (by omega)]; omega), show iI 0 = iI ((0 : Nat) : Int) from rfl, h, b_241_146, (dvr _ (by omega)).1, hk0.2, hcl, he]
      exact e4
theorem K_laid {a b : Int} (ha : i32 a) (hb : i32 b) : cTH 137 241 [.int (iI a), .int (iI b)] 2 := by
  intro m q w hR d hd
  obtain ⟨n, r, o, hF, k15, k16, hn7, hfk, hfl, hCi, ho, hbt⟩ := RR_fan hR
  obtain ⟨p, z, p2, z2, p1, p3, hz7, p4, p5, hP, i1, i2, i3, i4, i5, i6⟩ := RR_pics hR
  have hpw := pw_lt n (by omega)
  have hC0 : ev d 137 [.ref 100, .int (iI a), .int (iI b)] (mk m q w) = if 0 ≤ b ∧ b < n then (if 0 ≤ a ∧ a ≤ 3 then gv (d - 1) rR137 23 [some (.ref 100), some (.int (iI a)), some (.int (iI b))] [] (mk m q w) else some (.inr 0, (mk (wr m 100 17 (m 100 17 + 1)) q w, (1, 6)))) else some (.inr 1, (mk (wr m 100 16 (m 100 16 + 1)) q w, (1, 6))) := by
    rw [e_137 (by omega) _ rfl rfl rfl, b_137_0, T_13 (by omega) f108 hb (by rw [hfk.1]; omega), hfk.1]
    simp only [rBd_v, Option.toList_some, Option.toList_none, List.cons_append, List.nil_append, List.append_nil]
    rw [b_137_12, T_125 (by omega)]
    by_cases h : 0 ≤ b ∧ b < n
    · rw [if_pos h, zb_t h, if_neg (by decide)]
      simp only [rBd_v, Option.toList_some, Option.toList_none, List.cons_append, List.nil_append, List.append_nil]
      rw [b_137_15, T_128 (by omega) ha]
      simp only [rBd_v, Option.toList_some, Option.toList_none, List.cons_append, List.nil_append, List.append_nil]
      rw [b_137_20, T_116 (by omega)]
      by_cases h2 : 0 ≤ a ∧ a ≤ 3
      · rw [if_pos h2, zb_t h2, if_neg (by decide)]
        simp only [rBd_v, Option.toList_some, Option.toList_none, List.cons_append, List.nil_append, List.append_nil]
      · rw [if_neg h2, zb_f h2, if_pos rfl]
        rfl
    · rw [if_neg h, zb_f h, if_pos rfl]
      rfl
  have hX0 : ∀ m1 : Nat → Nat → Int, m1 363 15 = n → ev d 241 [.ref 363, .int (iI a), .int (iI b)] (mk m1 q w) = if 0 ≤ b ∧ b < n then (if 0 ≤ a ∧ a ≤ 3 then gv (d - 1) rR241 32 [some (.ref 363), some (.int (iI a)), some (.int (iI b)), none, none, none, none] [] (mk (tk m1) q w) else vI 0 (mk (noX m1 2 1) q w)) else vI 0 (mk (noX m1 1 0) q w) := by
    intro m1 h15
    rw [e_241 (by omega) _ rfl rfl rfl, b_241_0, V_223 (by omega) hb hn7 h15]
    by_cases h : 0 ≤ b ∧ b < n
    · rw [if_pos h, if_pos h]
      simp only [rBd_v, Option.toList_some, Option.toList_none, List.cons_append, List.nil_append, List.append_nil]
      rw [b_241_10, if_neg (by decide), V_224 (by omega) ha]
      simp only [rBd_v, Option.toList_some, Option.toList_none, List.cons_append, List.nil_append, List.append_nil]
      rw [b_241_18, V_160 (by omega) (Or.inr rfl) (by omega) (by decide) (wr_s _ _ _ _)]
      by_cases h2 : 0 ≤ a ∧ a ≤ 3
      · rw [if_pos h2, if_pos h2]
        simp only [rBd_v, Option.toList_some, Option.toList_none, List.cons_append, List.nil_append, List.append_nil]
        rw [b_241_23, if_neg (by decide), V_200 (by omega)]
        simp only [rBd_v, Option.toList_some, Option.toList_none, List.cons_append, List.nil_append, List.append_nil]
        rfl
      · rw [if_neg h2, if_neg h2]
        simp only [rBd_v, Option.toList_some, Option.toList_none, List.cons_append, List.nil_append, List.append_nil]
        rw [b_241_23, if_pos rfl, b_241_26]
        rfl
    · rw [if_neg h, if_neg h]
      simp only [rBd_v, Option.toList_some, Option.toList_none, List.cons_append, List.nil_append, List.append_nil]
      rw [b_241_10, if_pos rfl, b_241_26]
  by_cases h : 0 ≤ b ∧ b < n
  · by_cases h2 : 0 ≤ a ∧ a ≤ 3
    · rw [if_pos h, if_pos h2] at hC0
      obtain ⟨v, rfl⟩ : ∃ v : Nat, a = v := ⟨a.toNat, by omega⟩
      obtain ⟨t, rfl⟩ : ∃ t : Nat, b = t := ⟨b.toNat, by omega⟩
      obtain ⟨m1, h1, h3, h4⟩ := T_135 (d := d - 1) (m := m) (q := q) (w := w) (n := n) (v := v) (by omega) hfk.1 hn7 p1 p3 p4 hz7 (fun i hi => (hP i hi).2) hCi (by omega)
      have hRm := RR_s (cnt_qs h3) (gS_o (h3.1 161 (by omega)) (h3.1 163 (by omega)) hR.2.2.2.2.2.2) hR
      have hx := xM_tk (o := o) (r := r) k15 hn7 hz7 p5 hP i3 i5 i6 (m1 := m1) (fun e he => h3.1 e (by omega))
      obtain ⟨R, h5, h6⟩ := X_239 (d := d - 1) (m := tk m1) (q := q) (w := w) (by omega) hF hx (v := v) (by omega)
      have hX1 := hX0 m1 (by rw [h3.1 363 (by omega)]; exact k15)
      rw [if_pos h, if_pos h2, b_241_32, h5] at hX1
      rw [b_137_23, h1] at hC0
      simp only [rBd_v, Option.toList_some, Option.toList_none, List.cons_append, List.nil_append, List.append_nil] at hX1 hC0
      rw [b_241_38] at hX1
      rw [b_137_28] at hC0
      have hRe : RR (row (tk m1) 384 R) q := RR_s (row_qs (x := 384) (f := R) (by unfold scr; omega) (by decide) (by decide)) (gS_o (row_o _ _ _ (by decide)) (row_o _ _ _ (by decide)) (tk_RR hRm).2.2.2.2.2.2) (tk_RR hRm)
      have h00 : row (tk m1) 384 R 363 0 = 0 := by
        rw [row_o _ _ _ (by decide)]
        exact tk_0
      have hwb := wW_b (al := fun t s => alw (m 110) n z (m (p + 1)) v t s) (n := n) (x := 2 ^ n - 1) hn7 (fun _ _ _ _ => alw_lt) (by omega)
      have hbd : i32 (if z ≤ n then wW (fun t s => alw (m 110) n z (m (p + 1)) v t s) n (2 ^ n - 1) else 0) := by
        split <;> omega
      simp only [iI_eq hbd (show i32 0 by omega)] at hX1 hC0
      by_cases c0 : (if z ≤ n then wW (fun t s => alw (m 110) n z (m (p + 1)) v t s) n (2 ^ n - 1) else 0) = 0
      · rw [if_pos c0] at hX1 hC0
        rw [b_137_43] at hC0
        exact q_in hC0 hX1 h00 hRe
      · have cz : z ≤ n := by
          refine Classical.byContradiction fun hz => ?_
          rw [if_neg hz] at c0
          exact c0 rfl
        rw [if_neg c0] at hX1 hC0
        rw [if_pos cz] at c0
        obtain ⟨f1, f2⟩ := h3.2.2 cz
        have hM : hML (d - 1) n (fun t s => alw (m 110) n z (m (p + 1)) v t s) v (-1) (row (tk m1) 384 R) q w := by
          intro m3 hm3 t s ov ht hs hov
          exact hML_1 (d := d - 1) (q := q) (w := w) (by omega) hF hx (v := v) (by omega) m3 (fun e a1 a2 a3 => (hm3 e a1 a2 a3).trans (row_o _ _ _ a1)) t s ov ht hs hov
        have e15 : row (tk m1) 384 R 363 15 = n := by
          rw [row_o _ _ _ (by decide)]
          exact hx.1
        obtain ⟨V, g1, g2⟩ := J_laid (d := d - 1 - 1) (d2 := d - 1) (m := m1) (q := q) (w := w) (m2 := row (tk m1) 384 R) (q2 := q) (w2 := w) (by omega) (by omega) hn7 (fun _ _ _ _ => alw_lt) f1 f2 (h4 cz) e15 hM (fun y hy => by rw [row_s]; exact h6 cz y hy) (pl := t) (by omega) t 0 0 (-1) none none (by omega) (by omega) rfl (by rw [Nat.sub_zero]; omega)
        rw [e15, zs1 n (by omega), show ((2 ^ n : Nat) : Int) - 1 = ((2 ^ n - 1 - 0 : Nat) : Int) by omega] at hX1
        rw [e_94 (by omega) _ rfl rfl, b_94_0] at hC0
        rw [show gv (d - 1 - 1) rR94 4 [some (.ref 164), some (.int (iI (t : Int))), some (.int (iI 0)), some (.int (iI 0)), none] [] (mk m1 q w) = vI V (mk m1 q w) from g1] at hC0
        simp only [rBd_v, Option.toList_some, Option.toList_none, List.cons_append, List.nil_append, List.append_nil] at hC0
        rw [b_137_43] at hC0
        exact q_in hC0 (hX1.trans g2) h00 hRe
    · rw [if_pos h, if_neg h2] at hC0
      have hX1 := hX0 (wr m 100 17 (m 100 17 + 1)) (by rw [wr_o _ _ _ _ (by decide)]; exact k15)
      rw [if_pos h, if_neg h2] at hX1
      exact q_no hR hC0 hX1
  · rw [if_neg h] at hC0
    have hX1 := hX0 (wr m 100 16 (m 100 16 + 1)) (by rw [wr_o _ _ _ _ (by decide)]; exact k15)
    rw [if_neg h] at hX1
    exact q_ns hR rfl hC0 hX1
end S
