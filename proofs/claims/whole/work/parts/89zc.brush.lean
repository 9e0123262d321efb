/-! ===== the call brush, alike ===== -/
def mn (B : Nat → Nat) (f : Nat → Int) : Nat → Nat → Int → Int
  | 0, _, a => a
  | g + 1, s, a => mn B f g (s + 1) (if B s = 1 then (if f s < a then f s else a) else a)
theorem mn_congr {B : Nat → Nat} {f h : Nat → Int} : ∀ (g s : Nat) (a : Int), (∀ j, s ≤ j → j < s + g → B j = 1 → f j = h j) → mn B f g s a = mn B h g s a := by
  intro g
  induction g with
  | zero => intro s a _; rfl
  | succ g ih =>
    intro s a hh
    unfold mn
    rw [ih (s + 1) _ (fun j h1 h2 h3 => hh j (by omega) (by omega) h3)]
    by_cases c : B s = 1
    · rw [if_pos c, if_pos c, hh s (by omega) (by omega) c]
    · rw [if_neg c, if_neg c]
theorem mn_le {B : Nat → Nat} {f : Nat → Int} : ∀ (g s : Nat) (a : Int), mn B f g s a ≤ a ∧ ∀ j, s ≤ j → j < s + g → B j = 1 → mn B f g s a ≤ f j := by
  intro g
  induction g with
  | zero => exact fun s a => ⟨Int.le_refl _, fun j h1 h2 => by omega⟩
  | succ g ih =>
    intro s a
    have h := ih (s + 1) (if B s = 1 then (if f s < a then f s else a) else a)
    have hx : (if B s = 1 then (if f s < a then f s else a) else a) ≤ a ∧ (B s = 1 → (if B s = 1 then (if f s < a then f s else a) else a) ≤ f s) := by
      by_cases c : B s = 1
      · rw [if_pos c]
        by_cases c2 : f s < a
        · rw [if_pos c2]
          exact ⟨by omega, fun _ => Int.le_refl _⟩
        · rw [if_neg c2]
          exact ⟨Int.le_refl _, fun _ => by omega⟩
      · rw [if_neg c]
        exact ⟨Int.le_refl _, fun z => absurd z c⟩
    unfold mn
    refine ⟨Int.le_trans h.1 hx.1, fun j h1 h2 h3 => ?_⟩
    by_cases e : j = s
    · subst e
      exact Int.le_trans h.1 (hx.2 h3)
    · exact h.2 j (by omega) (by omega) h3
theorem mn_ge {B : Nat → Nat} {f : Nat → Int} {c : Int} : ∀ (g s : Nat) (a : Int), c ≤ a → (∀ j, s ≤ j → j < s + g → B j = 1 → c ≤ f j) → c ≤ mn B f g s a := by
  intro g
  induction g with
  | zero => exact fun s a h _ => h
  | succ g ih =>
    intro s a h hf
    unfold mn
    refine ih (s + 1) _ ?_ (fun j h1 h2 h3 => hf j (by omega) (by omega) h3)
    by_cases e : B s = 1
    · have := hf s (by omega) (by omega) e
      rw [if_pos e]
      split <;> omega
    · rw [if_neg e]
      exact h
theorem mn_start {B : Nat → Nat} {f : Nat → Int} : ∀ (g s : Nat), (∀ j, s ≤ j → j < s + g → B j = 1 → f j < 8) → (∃ j, s ≤ j ∧ j < s + g ∧ B j = 1) → mn B f g s 1000 = mn B f g s 8 := by
  intro g
  induction g with
  | zero =>
    intro s _ h
    obtain ⟨j, h1, h2, h3⟩ := h
    omega
  | succ g ih =>
    intro s hf h
    unfold mn
    by_cases e : B s = 1
    · have := hf s (by omega) (by omega) e
      rw [if_pos e, if_pos e, if_pos (by omega), if_pos (by omega)]
    · rw [if_neg e, if_neg e]
      refine ih (s + 1) (fun j h1 h2 h3 => hf j (by omega) (by omega) h3) ?_
      obtain ⟨j, h1, h2, h3⟩ := h
      refine ⟨j, ?_, by omega, h3⟩
      by_cases e2 : j = s
      · rw [e2] at h3
        exact absurd h3 e
      · omega
def wP (a : Nat) : Int := if a = 0 then 1 else 0
def wT2 (al : Nat → Nat → Nat) (n : Nat) : Nat → Nat → Int
  | 0, _ => 0
  | f + 1, x => if x = 0 then 0 else mn (bt x) (fun s => wP (al (n - pc x) s) + wT2 al n f (x - 2 ^ s)) n 0 8
theorem wT2_fuel {al : Nat → Nat → Nat} {n : Nat} : ∀ (f g x : Nat), x ≤ f → x ≤ g → wT2 al n f x = wT2 al n g x := by
  intro f
  induction f with
  | zero =>
    intro g x h1 h2
    obtain rfl : x = 0 := by omega
    cases g with
    | zero => rfl
    | succ g => exact (if_pos rfl).symm
  | succ f ih =>
    intro g x h1 h2
    cases g with
    | zero =>
      obtain rfl : x = 0 := by omega
      exact if_pos rfl
    | succ g =>
      unfold wT2
      by_cases h : x = 0
      · rw [if_pos h, if_pos h]
      · rw [if_neg h, if_neg h]
        refine mn_congr n 0 8 (fun j _ _ _ => ?_)
        have hp : 0 < 2 ^ j := Nat.pow_pos (by decide)
        show wP (al (n - pc x) j) + wT2 al n f (x - 2 ^ j) = wP (al (n - pc x) j) + wT2 al n g (x - 2 ^ j)
        rw [ih g _ (by omega) (by omega)]
/-- the fewest halves for the sticks of a set that are left -/
def wB (al : Nat → Nat → Nat) (n x : Nat) : Int := wT2 al n x x
theorem wB_0 {al : Nat → Nat → Nat} {n : Nat} : wB al n 0 = 0 := rfl
theorem wB_rec {al : Nat → Nat → Nat} {n x : Nat} (h : 0 < x) : wB al n x = mn (bt x) (fun s => wP (al (n - pc x) s) + wB al n (x - 2 ^ s)) n 0 8 := by
  obtain ⟨f, rfl⟩ : ∃ f, x = f + 1 := ⟨x - 1, by omega⟩
  unfold wB
  rw [show wT2 al n (f + 1) (f + 1) = if f + 1 = 0 then 0 else mn (bt (f + 1)) (fun s => wP (al (n - pc (f + 1)) s) + wT2 al n f (f + 1 - 2 ^ s)) n 0 8 from rfl, if_neg (by omega)]
  refine mn_congr n 0 8 (fun j _ _ _ => ?_)
  have hp : 0 < 2 ^ j := Nat.pow_pos (by decide)
  show wP (al (n - pc (f + 1)) j) + wT2 al n f (f + 1 - 2 ^ j) = wP (al (n - pc (f + 1)) j) + wT2 al n (f + 1 - 2 ^ j) (f + 1 - 2 ^ j)
  rw [wT2_fuel f (f + 1 - 2 ^ j) _ (by omega) (by omega)]
theorem wP_01 (a : Nat) : 0 ≤ wP a ∧ wP a ≤ 1 := by
  unfold wP
  split <;> omega
theorem set_s : ∀ n : Nat, n < 8 → ∀ x : Nat, x < 128 → x < 2 ^ n → 0 < x → ∃ s : Nat, s < n ∧ bt x s = 1 := by
  have h : ∀ n : Nat, n < 8 → ∀ x : Nat, x < 128 → x < 2 ^ n → 0 < x → (List.range n).any (fun s => decide (bt x s = 1)) = true := by decide +kernel
  intro n hn x h1 h2 h3
  have h4 := h n hn x h1 h2 h3
  rw [List.any_eq_true] at h4
  obtain ⟨s, hs, he⟩ := h4
  exact ⟨s, List.mem_range.mp hs, of_decide_eq_true he⟩
theorem wB_bd {al : Nat → Nat → Nat} {n : Nat} (hn7 : n ≤ 7) : ∀ (b x : Nat), x < b → x < 2 ^ n → 0 ≤ wB al n x ∧ wB al n x ≤ pc x := by
  have hpw := pw_lt n (by omega)
  intro b
  induction b with
  | zero => intro x h; omega
  | succ b ih =>
    intro x h1 h2
    by_cases h0 : x = 0
    · subst h0
      rw [wB_0]
      exact ⟨by decide, by decide⟩
    · have hf : ∀ s, bt x s = 1 → s < n → 0 ≤ wP (al (n - pc x) s) + wB al n (x - 2 ^ s) ∧ wP (al (n - pc x) s) + wB al n (x - 2 ^ s) ≤ pc x := by
        intro s c hs
        have hd := set_d x (by omega) s (by omega) c
        have hps : 0 < 2 ^ s := Nat.pow_pos (by decide)
        have hw := ih (x - 2 ^ s) (by omega) (by omega)
        have hp := wP_01 (al (n - pc x) s)
        omega
      obtain ⟨s, hs, hb⟩ := set_s n (by omega) x (by omega) h2 (by omega)
      rw [wB_rec (by omega)]
      exact ⟨mn_ge n 0 8 (by decide) (fun j _ h4 h5 => (hf j h5 (by omega)).1), Int.le_trans ((mn_le n 0 8).2 s (by omega) (by omega) hb) (hf s hb hs).2⟩
theorem wB_b {al : Nat → Nat → Nat} {n x : Nat} (hn7 : n ≤ 7) (hx : x < 2 ^ n) : 0 ≤ wB al n x ∧ wB al n x ≤ 7 := by
  have hpw := pw_lt n (by omega)
  have h := wB_bd (al := al) hn7 (x + 1) x (by omega) hx
  have hp := (set_c n (by omega) x (by omega) hx).2
  omega
theorem wB_f {al : Nat → Nat → Nat} {n x s : Nat} (hn7 : n ≤ 7) (hx : x < 2 ^ n) (hs : s < n) (c : bt x s = 1) : 0 ≤ wP (al (n - pc x) s) + wB al n (x - 2 ^ s) ∧ wP (al (n - pc x) s) + wB al n (x - 2 ^ s) ≤ 7 := by
  have hpw := pw_lt n (by omega)
  have hd := set_d x (by omega) s (by omega) c
  have hw := wB_bd (al := al) hn7 (x - 2 ^ s + 1) (x - 2 ^ s) (by omega) (Nat.lt_of_le_of_lt (Nat.sub_le _ _) hx)
  have hp := wP_01 (al (n - pc x) s)
  have hc := (set_c n (by omega) x (by omega) hx).2
  omega
section S
variable {d n : Nat} {m : Nat → Nat → Int} {q : Nat → Nat → Option Nat} {w : Option (Nat → Int64)} {al : Nat → Nat → Nat}
theorem L_95i (hd : 9 ≤ d) (hn : m 164 1 = n) (hn7 : n ≤ 7) {x t : Nat} (hx : x < 2 ^ n) (ht : t < n) (hal : ∀ s, s < n → m 168 (7 * t + s) = al t s ∧ al t s < 4) (hR : ∀ s, s < n → bt x s = 0 → 0 ≤ m 169 (x + 2 ^ s) ∧ m 169 (x + 2 ^ s) ≤ 7) {u1 : Option Value} : ∀ (g s : Nat) (a : Int) (u6 : Option Value), s + g = n → 0 ≤ a ∧ a ≤ 1000 → ∃ u6', gv d rR95 37 [some (.ref 164), u1, some (.int (iI (x : Int))), some (.int (iI (t : Int))), some (.int (iI a)), some (.int (iI (s : Int))), u6] [] (mk m q w) = gv d rR95 99 [some (.ref 164), u1, some (.int (iI (x : Int))), some (.int (iI (t : Int))), some (.int (iI (mn (fun s => 1 - bt x s) (fun s => wP (al t s) + m 169 (x + 2 ^ s)) g s a))), some (.int (iI (n : Int))), u6'] [] (mk m q w) := by
  have hpw := pw_lt n (by omega)
  intro g
  induction g with
  | zero =>
    intro s a u6 hg ha
    obtain rfl : s = n := by omega
    refine ⟨u6, ?_⟩
    rw [b_95_37, hn, if_neg (by rw [iI_lt (by omega) (by omega)]; omega)]
    rfl
  | succ g ih =>
    intro s a u6 hg ha
    have hb := bit_ok x (by omega) s (by omega)
    have h01 := bt_01 x s
    rw [b_95_37, hn, if_pos (by rw [iI_lt (by omega) (by omega)]; omega), hb]
    simp only [iI_eq (show i32 (bt x s : Int) by omega) (show i32 0 by omega)]
    rw [show mn (fun s => 1 - bt x s) (fun s => wP (al t s) + m 169 (x + 2 ^ s)) (g + 1) s a = mn (fun s => 1 - bt x s) (fun s => wP (al t s) + m 169 (x + 2 ^ s)) g (s + 1) (if 1 - bt x s = 1 then (if wP (al t s) + m 169 (x + 2 ^ s) < a then wP (al t s) + m 169 (x + 2 ^ s) else a) else a) from rfl]
    by_cases c : bt x s = 0
    · have hi := (set_i n (by omega) x (by omega) hx s (by omega)).resolve_left (by omega)
      have ho := or_set x (by omega) s (by omega) c
      obtain ⟨e1, e2⟩ := hal s (by omega)
      have hr := hR s (by omega) c
      have hp := wP_01 (al t s)
      rw [if_pos (by omega), if_pos (by omega), T_91 (by omega) (by omega) (by omega), e1]
      simp only [rBd_v, Option.toList_some, Option.toList_none, List.cons_append, List.nil_append, List.append_nil]
      rw [b_95_62]
      simp only [iI_eq (show i32 ((al t s : Nat) : Int) by omega) (show i32 0 by omega)]
      have key : ∀ e : Int, e = wP (al t s) → ∃ u6', gv d rR95 70 [some (.ref 164), u1, some (.int (iI (x : Int))), some (.int (iI (t : Int))), some (.int (iI a)), some (.int (iI (s : Int))), u6] [.int (iI e)] (mk m q w) = gv d rR95 99 [some (.ref 164), u1, some (.int (iI (x : Int))), some (.int (iI (t : Int))), some (.int (iI (mn (fun s => 1 - bt x s) (fun s => wP (al t s) + m 169 (x + 2 ^ s)) g (s + 1) (if wP (al t s) + m 169 (x + 2 ^ s) < a then wP (al t s) + m 169 (x + 2 ^ s) else a)))), some (.int (iI (n : Int))), u6'] [] (mk m q w) := by
        intro e he
        subst he
        obtain ⟨u6', h⟩ := ih (s + 1) (if wP (al t s) + m 169 (x + 2 ^ s) < a then wP (al t s) + m 169 (x + 2 ^ s) else a) (some (.int (iI (wP (al t s))))) (by omega) (by split <;> omega)
        refine ⟨u6', ?_⟩
        rw [b_95_70 (by rw [ho]; exact Int.natCast_nonneg _) (by rw [ho]; exact nlt (by omega)) hd, ho, Int.toNat_natCast, b_95_93, show (s : Int) + 1 = ((s + 1 : Nat) : Int) from rfl]
        simp only [iI_lt (show i32 (wP (al t s) + m 169 (x + 2 ^ s)) by omega) (show i32 a by omega)]
        exact h
      by_cases c2 : al t s = 0
      · rw [if_pos (by omega)]
        exact key 1 (by unfold wP; rw [if_pos c2])
      · rw [if_neg (by omega)]
        exact key 0 (by unfold wP; rw [if_neg c2])
    · obtain ⟨u6', h⟩ := ih (s + 1) a u6 (by omega) ha
      refine ⟨u6', ?_⟩
      rw [if_neg (by omega), if_neg (by omega), b_95_93, show (s : Int) + 1 = ((s + 1 : Nat) : Int) from rfl, h]
theorem wB_c {x : Nat} (hn7 : n ≤ 7) (hx : x + 1 < 2 ^ n) {R : Nat → Int} (hR : ∀ y, x < y → y < 2 ^ n → R y = wB al n (2 ^ n - 1 - y)) : mn (fun s => 1 - bt x s) (fun s => wP (al (pc x) s) + R (x + 2 ^ s)) n 0 1000 = wB al n (2 ^ n - 1 - x) := by
  have hpw := pw_lt n (by omega)
  have hc := set_c n (by omega) x (by omega) (by omega)
  have hB : ∀ s, s < n → 1 - bt x s = bt (2 ^ n - 1 - x) s := fun s hs => (set_b n (by omega) x (by omega) (by omega) s (by omega) hs).symm
  have hfun : ∀ (g s : Nat) (a : Int), s + g = n → mn (fun s => 1 - bt x s) (fun s => wP (al (pc x) s) + R (x + 2 ^ s)) g s a = mn (bt (2 ^ n - 1 - x)) (fun s => wP (al (n - pc (2 ^ n - 1 - x)) s) + wB al n (2 ^ n - 1 - x - 2 ^ s)) g s a := by
    intro g
    induction g with
    | zero => intro s a _; rfl
    | succ g ih =>
      intro s a hg
      unfold mn
      rw [ih (s + 1) _ (by omega), hB s (by omega)]
      have h01 := bt_01 x s
      have h2 := hB s (by omega)
      have hp : 0 < 2 ^ s := Nat.pow_pos (by decide)
      by_cases c : bt (2 ^ n - 1 - x) s = 1
      · have hi := (set_i n (by omega) x (by omega) (by omega) s (by omega)).resolve_left (by omega)
        rw [if_pos c, if_pos c, hR _ (by omega) hi, hc.1, show n - (n - pc x) = pc x by omega, show 2 ^ n - 1 - (x + 2 ^ s) = 2 ^ n - 1 - x - 2 ^ s by omega]
      · rw [if_neg c, if_neg c]
  rw [hfun n 0 1000 (by omega), wB_rec (by omega)]
  refine mn_start n 0 (fun j _ h2 h3 => ?_) ?_
  · have := wB_f (al := al) (x := 2 ^ n - 1 - x) hn7 (by omega) (show j < n by omega) h3
    omega
  · obtain ⟨s, h1, h2⟩ := set_s n (by omega) (2 ^ n - 1 - x) (by omega) (by omega) (by omega)
    exact ⟨s, by omega, by omega, h2⟩
theorem L_95 (hd : 9 ≤ d) (hn : m 164 1 = n) (hn7 : n ≤ 7) (hal : ∀ t s, t < n → s < n → m 168 (7 * t + s) = al t s ∧ al t s < 4) {u1 : Option Value} : ∀ (c : Nat) (m1 : Nat → Nat → Int) (u3 u4 u5 u6 : Option Value), c + 1 ≤ 2 ^ n → (∀ a, a ≠ 169 → m1 a = m a) → (∀ y, c ≤ y → y < 2 ^ n → m1 169 y = wB al n (2 ^ n - 1 - y)) → ∃ R : Nat → Int,
    gv d rR95 20 [some (.ref 164), u1, some (.int (iI ((c : Int) - 1))), u3, u4, u5, u6] [] (mk m1 q w) = vI (wB al n (2 ^ n - 1)) (mk (row m1 169 R) q w) := by
  have hpw := pw_lt n (by omega)
  intro c
  induction c with
  | zero =>
    intro m1 u3 u4 u5 u6 hc hm hR
    refine ⟨m1 169, ?_⟩
    rw [b_95_20, if_pos (by decide), hR 0 (by omega) (by omega), Nat.sub_zero, row_self]
  | succ c ih =>
    intro m1 u3 u4 u5 u6 hc hm hR
    have hcn := set_n n (by omega) c (by omega) (by omega)
    obtain ⟨u6', hI⟩ := L_95i (d := d) (m := m1) (q := q) (w := w) (u1 := u1) (al := al) (n := n) hd (by rw [hm 164 (by decide)]; exact hn) hn7 (x := c) (t := pc c) (by omega) hcn (fun s hs => by rw [hm 168 (by decide)]; exact hal _ s hcn hs) (fun s hs hb => by
      have hp : 0 < 2 ^ s := Nat.pow_pos (by decide)
      have hi := (set_i n (by omega) c (by omega) (by omega) s hs).resolve_left (by omega)
      rw [hR _ (by omega) hi]
      exact wB_b hn7 (Nat.lt_of_le_of_lt (Nat.sub_le _ _) (by omega))) n 0 1000 u6 (by omega) (by omega)
    rw [wB_c hn7 (by omega) (fun y h3 h4 => hR y (by omega) h4)] at hI
    obtain ⟨R, h1⟩ := ih (wr m1 169 c (wB al n (2 ^ n - 1 - c))) (some (.int (iI ((pc c : Nat) : Int)))) (some (.int (iI (wB al n (2 ^ n - 1 - c))))) (some (.int (iI (n : Int)))) u6' (by omega) (fun a ha => by rw [wr_o _ _ _ _ ha, hm a ha]) (fun y h1 h2 => by
      by_cases e : y = c
      · subst e
        rw [wr_s]
      · rw [wr_b _ _ _ _ e, hR y (by omega) h2])
    refine ⟨R, ?_⟩
    rw [b_95_20, show ((c + 1 : Nat) : Int) - 1 = (c : Int) by omega, if_neg (by rw [iI_lt (by omega) (by omega)]; omega), T_38 (by omega) (by omega)]
    simp only [rBd_v, Option.toList_some, Option.toList_none, List.cons_append, List.nil_append, List.append_nil]
    rw [b_95_28]
    refine Eq.trans hI ?_
    rw [b_95_99 (by omega) (by omega), show (c : Int) + -1 = (c : Int) - 1 from rfl, Int.toNat_natCast, h1]
    unfold wr
    rw [row_row]
theorem T_95 (hd : 10 ≤ d) (hn : m 164 1 = n) (hn7 : n ≤ 7) (hal : ∀ t s, t < n → s < n → m 168 (7 * t + s) = al t s ∧ al t s < 4) : ∃ R : Nat → Int, ev d 95 [.ref 164] (mk m q w) = vI (wB al n (2 ^ n - 1)) (mk (row m 169 R) q w) := by
  have hpw := pw_lt n (by omega)
  have hz : zShl 1 (m 164 1) - 1 = ((2 ^ n - 1 : Nat) : Int) := by
    rw [hn, zs1 n (by omega)]
    omega
  obtain ⟨R, h1⟩ := L_95 (d := d - 1) (m := m) (q := q) (w := w) (al := al) (u1 := some (.int (iI ((2 ^ n - 1 : Nat) : Int)))) (by omega) hn hn7 hal (2 ^ n - 1) (wr m 169 (2 ^ n - 1) 0) none none none none (by omega) (fun a ha => wr_o _ _ _ _ ha) (fun y h1 h2 => by
    obtain rfl : y = 2 ^ n - 1 := by omega
    rw [wr_s, Nat.sub_self]
    exact wB_0.symm)
  refine ⟨R, ?_⟩
  rw [e_95 (by omega) _ rfl, b_95_0 (by rw [hz]; omega) (by rw [hz]; omega), hz, Int.toNat_natCast, h1]
  unfold wr
  rw [row_row]
theorem L_243i (hn7 : n ≤ 7) (h15 : m 363 15 = n) {v : Nat} (hml : hML d n al v (-1) m q w) (hal : ∀ t s, t < n → s < n → al t s < 4) {x t : Nat} (hx : x < 2 ^ n) (ht : t < n) {m1 : Nat → Nat → Int} (hm : ∀ a, a ≠ 384 → m1 a = m a) (hR : ∀ s, s < n → bt x s = 1 → 0 ≤ m1 384 (x - 2 ^ s) ∧ m1 384 (x - 2 ^ s) ≤ 7) : ∀ (g s : Nat) (a : Int) (u6 : Option Value), s + g = n → 0 ≤ a ∧ a ≤ 1000 → ∃ u5 u6', gv d rR243 75 [some (.ref 363), some (.int (iI v)), some (.int (iI (x : Int))), some (.int (iI (t : Int))), some (.int (iI a)), some (.int (iI (s : Int))), u6] [] (mk m1 q w) = gv d rR243 165 [some (.ref 363), some (.int (iI v)), some (.int (iI (x : Int))), some (.int (iI (t : Int))), some (.int (iI (mn (bt x) (fun s => wP (al t s) + m1 384 (x - 2 ^ s)) g s a))), u5, u6'] [] (mk m1 q w) := by
  have hpw := pw_lt n (by omega)
  intro g
  induction g with
  | zero =>
    intro s a u6 hg ha
    refine ⟨some (.int (iI (s : Int))), u6, ?_⟩
    rw [b_243_75, hm 363 (by decide), h15, if_neg (by rw [iI_lt (by omega) (by omega)]; omega)]
    rfl
  | succ g ih =>
    intro s a u6 hg ha
    have hb := bit_ok x (by omega) s (by omega)
    have h01 := bt_01 x s
    rw [b_243_75, hm 363 (by decide), h15, if_pos (by rw [iI_lt (by omega) (by omega)]; omega), hb]
    simp only [iI_eq (show i32 (bt x s : Int) by omega) (show i32 0 by omega)]
    rw [show mn (bt x) (fun s => wP (al t s) + m1 384 (x - 2 ^ s)) (g + 1) s a = mn (bt x) (fun s => wP (al t s) + m1 384 (x - 2 ^ s)) g (s + 1) (if bt x s = 1 then (if wP (al t s) + m1 384 (x - 2 ^ s) < a then wP (al t s) + m1 384 (x - 2 ^ s) else a) else a) from rfl]
    by_cases c : bt x s = 1
    · have hcl := an_clr x (by omega) s (by omega) c
      have hr := hR s (by omega) c
      have hp := wP_01 (al t s)
      have hal0 := al_0 _ (hal t s ht (by omega))
      rw [if_neg (by omega), if_pos c, b_243_96 (by rw [hcl]; exact Int.natCast_nonneg _) (by rw [hcl]; exact nlt (Nat.lt_of_le_of_lt (Nat.sub_le _ _) (show x < 128 by omega))), hcl, Int.toNat_natCast, show iI 0 = iI ((0 : Nat) : Int) from rfl, hml m1 (fun a h1 _ _ => hm a h1) t s 0 ht (by omega) (by omega)]
      simp only [rBd_v, Option.toList_some, Option.toList_none, List.cons_append, List.nil_append, List.append_nil]
      have key : ∀ e : Int, e = wP (al t s) → ∃ u5 u6', gv d rR243 140 [some (.ref 363), some (.int (iI v)), some (.int (iI (x : Int))), some (.int (iI (t : Int))), some (.int (iI a)), some (.int (iI (s : Int))), u6] [.int (iI e), .int (iI (m1 384 (x - 2 ^ s)))] (mk m1 q w) = gv d rR243 165 [some (.ref 363), some (.int (iI v)), some (.int (iI (x : Int))), some (.int (iI (t : Int))), some (.int (iI (mn (bt x) (fun s => wP (al t s) + m1 384 (x - 2 ^ s)) g (s + 1) (if wP (al t s) + m1 384 (x - 2 ^ s) < a then wP (al t s) + m1 384 (x - 2 ^ s) else a)))), u5, u6'] [] (mk m1 q w) := by
        intro e he
        subst he
        obtain ⟨u5, u6', h⟩ := ih (s + 1) (if wP (al t s) + m1 384 (x - 2 ^ s) < a then wP (al t s) + m1 384 (x - 2 ^ s) else a) (some (.int (iI (m1 384 (x - 2 ^ s) + wP (al t s))))) (by omega) (by split <;> omega)
        refine ⟨u5, u6', ?_⟩
        rw [b_243_140]
        simp only [iI_lt (show i32 (m1 384 (x - 2 ^ s) + wP (al t s)) by omega) (show i32 a by omega)]
        rw [← h, Int.add_comm (wP (al t s))]
        by_cases c3 : m1 384 (x - 2 ^ s) + wP (al t s) < a
        · rw [if_pos c3, if_pos c3, b_243_157, b_243_159]
          rfl
        · rw [if_neg c3, if_neg c3, b_243_157, b_243_159]
          rfl
      have hyes : al t s ≠ 0 → ∃ u5 u6', gv d rR243 135 [some (.ref 363), some (.int (iI v)), some (.int (iI (x : Int))), some (.int (iI (t : Int))), some (.int (iI a)), some (.int (iI (s : Int))), u6] [.int (iI (m1 384 (x - 2 ^ s)))] (mk m1 q w) = gv d rR243 165 [some (.ref 363), some (.int (iI v)), some (.int (iI (x : Int))), some (.int (iI (t : Int))), some (.int (iI (mn (bt x) (fun s => wP (al t s) + m1 384 (x - 2 ^ s)) g (s + 1) (if wP (al t s) + m1 384 (x - 2 ^ s) < a then wP (al t s) + m1 384 (x - 2 ^ s) else a)))), u5, u6'] [] (mk m1 q w) := by
        intro h
        rw [b_243_135]
        exact key 0 (by unfold wP; rw [if_neg h])
      rw [b_243_119]
      simp only [zb_0]
      by_cases c2 : bt (al t s) 0 = 1
      · rw [if_neg (not_not_intro c2)]
        exact hyes (hal0.mpr (Or.inl c2))
      · rw [if_pos c2, show iI 1 = iI ((1 : Nat) : Int) from rfl, hml m1 (fun a h1 _ _ => hm a h1) t s 1 ht (by omega) (by omega)]
        simp only [rBd_v, Option.toList_some, Option.toList_none, List.cons_append, List.nil_append, List.append_nil]
        rw [b_243_132]
        simp only [zb_0]
        by_cases c3 : bt (al t s) 1 = 1
        · rw [if_neg (not_not_intro c3)]
          exact hyes (hal0.mpr (Or.inr c3))
        · rw [if_pos c3]
          exact key 1 (by
            unfold wP
            rw [if_pos]
            exact Classical.byContradiction fun h => (hal0.mp h).elim c2 c3)
    · obtain ⟨u5, u6', h⟩ := ih (s + 1) a u6 (by omega) ha
      refine ⟨u5, u6', ?_⟩
      rw [if_pos (by omega), if_neg c, b_243_159, show (s : Int) + 1 = ((s + 1 : Nat) : Int) from rfl, h]
theorem L_243 (hd : 1 ≤ d) (hn7 : n ≤ 7) (h15 : m 363 15 = n) {v : Nat} (hml : hML d n al v (-1) m q w) (hal : ∀ t s, t < n → s < n → al t s < 4) : ∀ (g x : Nat) (m1 : Nat → Nat → Int) (u3 u4 u5 u6 : Option Value), x + g = 2 ^ n → 1 ≤ x → (∀ a, a ≠ 384 → m1 a = m a) → (∀ y, y < x → m1 384 y = wB al n y) → ∃ R : Nat → Int,
    gv d rR243 48 [some (.ref 363), some (.int (iI v)), some (.int (iI (x : Int))), u3, u4, u5, u6] [] (mk m1 q w) = vI (wB al n (2 ^ n - 1)) (mk (row m1 384 R) q w) := by
  have hpw := pw_lt n (by omega)
  have hz := zs1 n (by omega)
  intro g
  induction g with
  | zero =>
    intro x m1 u3 u4 u5 u6 hg h1x hm hR
    refine ⟨m1 384, ?_⟩
    rw [b_243_48, hm 363 (by decide), h15, hz, if_neg (by rw [iI_lt (by omega) (by omega)]; omega), b_243_179 (by rw [hm 363 (by decide), h15, hz]; omega) (by rw [hm 363 (by decide), h15, hz]; omega), hm 363 (by decide), h15, hz, show (((2 ^ n : Nat) : Int) - 1).toNat = 2 ^ n - 1 by omega, hR _ (by omega), row_self]
  | succ g ih =>
    intro x m1 u3 u4 u5 u6 hg h1x hm hR
    have hp := set_p n (by omega) x (by omega) (by omega) (by omega)
    have hRd : ∀ s, s < n → bt x s = 1 → m1 384 (x - 2 ^ s) = wB al n (x - 2 ^ s) := fun s hs c => by
      have hsd := set_d x (by omega) s (by omega) c
      have hp2 : 0 < 2 ^ s := Nat.pow_pos (by decide)
      exact hR _ (by omega)
    obtain ⟨u5', u6', hI⟩ := L_243i (d := d) (m := m) (q := q) (w := w) hn7 h15 hml hal (x := x) (t := n - pc x) (by omega) (by omega) hm (fun s hs c => by rw [hRd s hs c]; exact wB_b hn7 (Nat.lt_of_le_of_lt (Nat.sub_le _ _) (by omega))) n 0 8 u6 (by omega) (by omega)
    have hs : mn (bt x) (fun s => wP (al (n - pc x) s) + m1 384 (x - 2 ^ s)) n 0 8 = wB al n x := by
      rw [wB_rec (by omega)]
      exact mn_congr n 0 8 (fun s _ hs c => by
        show wP (al (n - pc x) s) + m1 384 (x - 2 ^ s) = wP (al (n - pc x) s) + wB al n (x - 2 ^ s)
        rw [hRd s (by omega) c])
    rw [hs] at hI
    obtain ⟨R, h1⟩ := ih (x + 1) (wr m1 384 x (wB al n x)) (some (.int (iI ((n - pc x : Nat) : Int)))) (some (.int (iI (wB al n x)))) u5' u6' (by omega) (by omega) (fun a ha => by rw [wr_o _ _ _ _ ha, hm a ha]) (fun y hy => by
      by_cases e : y = x
      · subst e
        rw [wr_s]
      · rw [wr_b _ _ _ _ e, hR y (by omega)])
    refine ⟨R, ?_⟩
    rw [b_243_48, hm 363 (by decide), h15, hz, if_pos (by rw [iI_lt (by omega) (by omega)]; omega), V_237 (by omega) (by omega)]
    simp only [rBd_v, Option.toList_some, Option.toList_none, List.cons_append, List.nil_append, List.append_nil]
    rw [b_243_66, show (n : Int) - ((pc x : Nat) : Int) = ((n - pc x : Nat) : Int) by omega]
    refine Eq.trans hI ?_
    rw [b_243_165 (by omega) (by omega), Int.toNat_natCast, show (x : Int) + 1 = ((x + 1 : Nat) : Int) from rfl, h1]
    unfold wr
    rw [row_row]
theorem K_brush {a : Int} (ha : i32 a) : cTH 139 243 [.int (iI a)] 1 := by
  intro m q w hR d hd
  obtain ⟨n, r, o, hF, k15, k16, hn7, hfk, hfl, hCi, ho, hbt⟩ := RR_fan hR
  obtain ⟨p, z, p2, z2, p1, p3, hz7, p4, p5, hP, i1, i2, i3, i4, i5, i6⟩ := RR_pics hR
  have hpw := pw_lt n (by omega)
  have hcl : ∀ m1 : Nat → Nat → Int, (∀ e, e < 164 ∨ 169 < e → m1 e = m e) → RR m1 q := fun m1 h => RR_s ⟨fun e h1 h2 => h e (by unfold scr at h1; omega), fun j _ => by rw [h 363 (by omega)]⟩ (gS_o (h 161 (by omega)) (h 163 (by omega)) hR.2.2.2.2.2.2) hR
  by_cases h : 0 ≤ a ∧ a ≤ 3
  · obtain ⟨v, rfl⟩ : ∃ v : Nat, a = v := ⟨a.toNat, by omega⟩
    obtain ⟨A, h1, h2⟩ := W_1 (d := d - 1) (m := m) (q := q) (w := w) (n := n) (v := v) (by omega) hfk.1 hn7 p3 p4 hz7 (fun i hi => (hP i hi).2) hCi (by omega)
    have hC : ev d 139 [.ref 100, .int (iI (v : Int))] (mk m q w) = rBd (if z ≤ n then vI 1 (mk (row (bgW m n) 168 A) q w) else vI 0 (mk (bgW m n) q w)) (fun x M' => gv (d - 1) rR139 36 [some (.ref 100), some (.int (iI (v : Int)))] (x.toList ++ []) M') := by
      rw [e_139 (by omega) _ rfl rfl, b_139_0, T_128 (by omega) ha]
      simp only [rBd_v, Option.toList_some, Option.toList_none, List.cons_append, List.nil_append, List.append_nil]
      rw [b_139_5, T_116 (by omega), zb_t h, if_neg (by decide)]
      simp only [rBd_v, Option.toList_some, Option.toList_none, List.cons_append, List.nil_append, List.append_nil]
      rw [b_139_8, T_88 (by omega) hfk.1]
      simp only [rBd_v, Option.toList_some, Option.toList_none, List.cons_append, List.nil_append, List.append_nil]
      rw [b_139_22, p1]
      refine Eq.trans (b_139_33 p3) ?_
      rw [h1]
      simp only [rBd_v, Option.toList_some, Option.toList_none, List.cons_append, List.nil_append, List.append_nil]
    have hX : ∀ m1 : Nat → Nat → Int, m1 363 15 = n → m1 381 0 = z → ev d 243 [.ref 363, .int (iI (v : Int))] (mk m1 q w) = if z ≤ n then gv (d - 1) rR243 39 [some (.ref 363), some (.int (iI (v : Int))), none, none, none, none, none] [] (mk (tk m1) q w) else vI (-1) (mk (wr m1 363 0 0) q w) := by
      intro m1 h15 hz
      rw [e_243 (by omega) _ rfl rfl, b_243_0, V_224 (by omega) ha]
      simp only [rBd_v, Option.toList_some, Option.toList_none, List.cons_append, List.nil_append, List.append_nil]
      rw [b_243_10, V_160 (by omega) (Or.inr rfl) (by omega) (by decide) (wr_s _ _ _ _), if_pos h]
      simp only [rBd_v, Option.toList_some, Option.toList_none, List.cons_append, List.nil_append, List.append_nil]
      rw [b_243_15, if_neg (by decide), wr_b _ _ _ _ (by decide), wr_o _ _ _ _ (by decide), h15, hz]
      by_cases c : z ≤ n
      · rw [if_neg (by rw [iI_lt (by omega) (by omega)]; omega), if_pos c, V_200 (by omega)]
        simp only [rBd_v, Option.toList_some, Option.toList_none, List.cons_append, List.nil_append, List.append_nil]
        rfl
      · rw [if_pos (by rw [iI_lt (by omega) (by omega)]; omega), if_neg c]
    by_cases c : z ≤ n
    · have h3 := h2 c
      obtain ⟨R, h4⟩ := T_95 (d := d - 1) (m := row (bgW m n) 168 A) (q := q) (w := w) (n := n) (al := fun t s => alw (m 110) n z (m (p + 1)) v t s) (by omega) (by rw [row_o _ _ _ (by decide)]; exact bg_0) hn7 (fun t s ht hs => by rw [row_s]; exact ⟨h3 t s ht hs, alw_lt⟩)
      obtain ⟨m1, em1⟩ : ∃ m1, m1 = row (row (bgW m n) 168 A) 169 R := ⟨_, rfl⟩
      have hm1 : ∀ e, e < 164 ∨ 169 < e → m1 e = m e := fun e he => by rw [em1, row_o _ _ _ (by omega), row_o _ _ _ (by omega), bg_o (by omega) (by omega) (by omega) (by omega) (by omega)]
      rw [← em1] at h4
      have hRm := hcl m1 hm1
      have hx := xM_tk (o := o) (r := r) k15 hn7 hz7 p5 hP i3 i5 i6 (m1 := m1) (fun e he => hm1 e (by omega))
      obtain ⟨R2, h5⟩ := L_243 (d := d - 1) (m := tk m1) (q := q) (w := w) (n := n) (v := v) (by omega) hn7 hx.1 (hML_1 (by omega) hF hx (by omega)) (fun _ _ _ _ => alw_lt) (2 ^ n - 1) 1 (wr (tk m1) 384 0 0) none none none none (by omega) (by omega) (fun a ha => wr_o _ _ _ _ ha) (fun y hy => by
        obtain rfl : y = 0 := by omega
        rw [wr_s]
        exact wB_0.symm)
      rw [if_pos c] at hC
      simp only [rBd_v, Option.toList_some, Option.toList_none, List.cons_append, List.nil_append, List.append_nil] at hC
      rw [b_139_36, if_neg (by decide), h4] at hC
      simp only [rBd_v, Option.toList_some, Option.toList_none, List.cons_append, List.nil_append, List.append_nil] at hC
      rw [b_139_46, b_139_50] at hC
      have hX1 := hX m1 (by rw [hm1 363 (by omega)]; exact k15) (by rw [hm1 381 (by omega)]; exact p5)
      rw [if_pos c, b_243_39] at hX1
      have hX2 := hX1.trans h5
      have hw : row (wr (tk m1) 384 0 0) 384 R2 = row (tk m1) 384 R2 := by
        unfold wr
        rw [row_row]
      rw [hw] at hX2
      refine q_in hC hX2 ?_ (RR_s (row_qs (x := 384) (f := R2) (by unfold scr; omega) (by decide) (by decide)) (gS_o (row_o _ _ _ (by decide)) (row_o _ _ _ (by decide)) (tk_RR hRm).2.2.2.2.2.2) (tk_RR hRm))
      rw [row_o _ _ _ (by decide)]
      exact tk_0
    · have hm1 : ∀ e, e < 164 ∨ 169 < e → bgW m n e = m e := fun e he => bg_o (by omega) (by omega) (by omega) (by omega) (by omega)
      have hX1 := hX (bgW m n) (by rw [hm1 363 (by omega)]; exact k15) (by rw [hm1 381 (by omega)]; exact p5)
      rw [if_neg c] at hX1 hC
      simp only [rBd_v, Option.toList_some, Option.toList_none, List.cons_append, List.nil_append, List.append_nil] at hC
      rw [b_139_36, if_pos rfl, b_139_50] at hC
      exact q_in hC hX1 (wr_s _ _ _ _) (RR_0 (hcl _ hm1))
  · refine q_no hR ?_ ?_
    · rw [e_139 (by omega) _ rfl rfl, b_139_0, T_128 (by omega) ha]
      simp only [rBd_v, Option.toList_some, Option.toList_none, List.cons_append, List.nil_append, List.append_nil]
      rw [b_139_5, T_116 (by omega), zb_f h, if_pos rfl]
      rfl
    · rw [e_243 (by omega) _ rfl rfl, b_243_0, V_224 (by omega) ha]
      simp only [rBd_v, Option.toList_some, Option.toList_none, List.cons_append, List.nil_append, List.append_nil]
      rw [b_243_10, V_160 (by omega) (Or.inr rfl) (by omega) (by decide) (wr_s _ _ _ _), if_neg h]
      simp only [rBd_v, Option.toList_some, Option.toList_none, List.cons_append, List.nil_append, List.append_nil]
      rw [b_243_15, if_pos rfl]
      rfl
end S
