/-! ===== ways: counted by sets, by both ===== -/
def wT (al : Nat → Nat → Nat) (n : Nat) : Nat → Nat → Int
  | 0, _ => 1
  | f + 1, x => if x = 0 then 1 else sI (fun s => if bt x s = 1 then (pc (al (n - pc x) s) : Int) * wT al n f (x - 2 ^ s) else 0) n 0
theorem wT_fuel {al : Nat → Nat → Nat} {n : Nat} : ∀ (f g x : Nat), x ≤ f → x ≤ g → wT al n f x = wT al n g x := by
  intro f
  induction f with
  | zero =>
    intro g x h1 h2
    obtain rfl : x = 0 := by omega
    cases g with
    | zero => rfl
    | succ g => exact (if_pos rfl).symm
  | succ f ih =>
    intro g x h1 h2
    cases g with
    | zero =>
      obtain rfl : x = 0 := by omega
      exact if_pos rfl
    | succ g =>
      unfold wT
      by_cases h : x = 0
      · rw [if_pos h, if_pos h]
      · rw [if_neg h, if_neg h]
        refine sI_congr n 0 (fun j _ _ => ?_)
        have hp : 0 < 2 ^ j := Nat.pow_pos (by decide)
        by_cases c : bt x j = 1
        · rw [if_pos c, if_pos c, ih g _ (by omega) (by omega)]
        · rw [if_neg c, if_neg c]
/-- of the sticks of a set that are left the ways -/
def wW (al : Nat → Nat → Nat) (n x : Nat) : Int := wT al n x x
theorem wW_0 {al : Nat → Nat → Nat} {n : Nat} : wW al n 0 = 1 := rfl
theorem wW_rec {al : Nat → Nat → Nat} {n x : Nat} (h : 0 < x) : wW al n x = sI (fun s => if bt x s = 1 then (pc (al (n - pc x) s) : Int) * wW al n (x - 2 ^ s) else 0) n 0 := by
  obtain ⟨f, rfl⟩ : ∃ f, x = f + 1 := ⟨x - 1, by omega⟩
  unfold wW
  rw [show wT al n (f + 1) (f + 1) = if f + 1 = 0 then 1 else sI (fun s => if bt (f + 1) s = 1 then (pc (al (n - pc (f + 1)) s) : Int) * wT al n f (f + 1 - 2 ^ s) else 0) n 0 from rfl, if_neg (by omega)]
  refine sI_congr n 0 (fun j _ _ => ?_)
  have hp : 0 < 2 ^ j := Nat.pow_pos (by decide)
  by_cases c : bt (f + 1) j = 1
  · rw [if_pos c, if_pos c, wT_fuel f (f + 1 - 2 ^ j) _ (by omega) (by omega)]
  · rw [if_neg c, if_neg c]
theorem set_n : ∀ n : Nat, n < 8 → ∀ x : Nat, x < 128 → x + 1 < 2 ^ n → pc x < n := by decide +kernel
theorem set_p : ∀ n : Nat, n < 8 → ∀ x : Nat, x < 128 → x < 2 ^ n → 0 < x → 0 < pc x ∧ pc x ≤ n := by decide +kernel
theorem nlt {y : Nat} (h : y < 128) : (y : Int) < 128 := by omega
theorem pc_4 : ∀ a : Nat, a < 4 → pc a = bt a 0 + bt a 1 := by decide +kernel
section S
variable {d n : Nat} {m : Nat → Nat → Int} {q : Nat → Nat → Option Nat} {w : Option (Nat → Int64)} {al : Nat → Nat → Nat}
theorem L_92i (hd : 4 ≤ d) (hn : m 164 1 = n) (hn7 : n ≤ 7) {x t : Nat} (hx : x < 2 ^ n) (ht : t < n) (hal : ∀ s, s < n → m 168 (7 * t + s) = al t s ∧ al t s < 4) {u1 : Option Value} : ∀ (g s : Nat) (a : Int), s + g = n → gv d rR92 35 [some (.ref 164), u1, some (.int (iI (x : Int))), some (.int (iI (t : Int))), some (.int (iI a)), some (.int (iI (s : Int)))] [] (mk m q w) = gv d rR92 86 [some (.ref 164), u1, some (.int (iI (x : Int))), some (.int (iI (t : Int))), some (.int (iI (a + sI (fun s => if bt x s = 0 then (pc (al t s) : Int) * m 169 (x + 2 ^ s) else 0) g s))), some (.int (iI (n : Int)))] [] (mk m q w) := by
  have hpw := pw_lt n (by omega)
  intro g
  induction g with
  | zero =>
    intro s a hg
    obtain rfl : s = n := by omega
    rw [b_92_35, hn, if_neg (by rw [iI_lt (by omega) (by omega)]; omega)]
    unfold sI
    rw [Int.add_zero]
  | succ g ih =>
    intro s a hg
    have hb := bit_ok x (by omega) s (by omega)
    have h01 := bt_01 x s
    rw [b_92_35, hn, if_pos (by rw [iI_lt (by omega) (by omega)]; omega), hb]
    simp only [iI_eq (show i32 (bt x s : Int) by omega) (show i32 0 by omega)]
    rw [show sI (fun s => if bt x s = 0 then (pc (al t s) : Int) * m 169 (x + 2 ^ s) else 0) (g + 1) s = (if bt x s = 0 then (pc (al t s) : Int) * m 169 (x + 2 ^ s) else 0) + sI (fun s => if bt x s = 0 then (pc (al t s) : Int) * m 169 (x + 2 ^ s) else 0) g (s + 1) from rfl]
    by_cases c : bt x s = 0
    · have hi := (set_i n (by omega) x (by omega) hx s (by omega)).resolve_left (by omega)
      have ho := or_set x (by omega) s (by omega) c
      rw [if_pos (by omega), if_pos c, T_91 (by omega) (by omega) (by omega), (hal s (by omega)).1]
      simp only [rBd_v, Option.toList_some, Option.toList_none, List.cons_append, List.nil_append, List.append_nil]
      rw [b_92_62, T_38 (by omega) (by have := (hal s (by omega)).2; omega)]
      simp only [rBd_v, Option.toList_some, Option.toList_none, List.cons_append, List.nil_append, List.append_nil]
      rw [b_92_65 (by rw [ho]; exact Int.natCast_nonneg _) (by rw [ho]; exact nlt (by omega)), ho, Int.toNat_natCast, b_92_80, show (s : Int) + 1 = ((s + 1 : Nat) : Int) from rfl, ih (s + 1) _ (by omega), Int.add_assoc]
    · rw [if_neg (by omega), if_neg c, b_92_80, show (s : Int) + 1 = ((s + 1 : Nat) : Int) from rfl, ih (s + 1) _ (by omega), Int.zero_add]
theorem wW_c {x : Nat} (hn7 : n ≤ 7) (hx : x + 1 < 2 ^ n) {R : Nat → Int} (hR : ∀ y, x < y → y < 2 ^ n → R y = wW al n (2 ^ n - 1 - y)) : sI (fun s => if bt x s = 0 then (pc (al (pc x) s) : Int) * R (x + 2 ^ s) else 0) n 0 = wW al n (2 ^ n - 1 - x) := by
  have hpw := pw_lt n (by omega)
  have hc := set_c n (by omega) x (by omega) (by omega)
  rw [wW_rec (by omega), hc.1, show n - (n - pc x) = pc x by omega]
  refine sI_congr n 0 (fun s _ hs => ?_)
  have hb := set_b n (by omega) x (by omega) (by omega) s (by omega) (by omega)
  have h01 := bt_01 x s
  have hp : 0 < 2 ^ s := Nat.pow_pos (by decide)
  by_cases c : bt x s = 0
  · have hi := (set_i n (by omega) x (by omega) (by omega) s (by omega)).resolve_left (by omega)
    rw [if_pos c, if_pos (by omega), hR _ (by omega) hi, show 2 ^ n - 1 - (x + 2 ^ s) = 2 ^ n - 1 - x - 2 ^ s by omega]
  · rw [if_neg c, if_neg (by omega)]
theorem L_92 (hd : 4 ≤ d) (hn : m 164 1 = n) (hn7 : n ≤ 7) (hal : ∀ t s, t < n → s < n → m 168 (7 * t + s) = al t s ∧ al t s < 4) {u1 : Option Value} : ∀ (c : Nat) (m1 : Nat → Nat → Int) (u3 u4 u5 : Option Value), c + 1 ≤ 2 ^ n → (∀ a, a ≠ 169 → m1 a = m a) → (∀ y, c ≤ y → y < 2 ^ n → m1 169 y = wW al n (2 ^ n - 1 - y)) → ∃ R : Nat → Int,
    gv d rR92 20 [some (.ref 164), u1, some (.int (iI ((c : Int) - 1))), u3, u4, u5] [] (mk m1 q w) = vI (wW al n (2 ^ n - 1)) (mk (row m1 169 R) q w) ∧ ∀ y, y < 2 ^ n → R y = wW al n (2 ^ n - 1 - y) := by
  have hpw := pw_lt n (by omega)
  intro c
  induction c with
  | zero =>
    intro m1 u3 u4 u5 hc hm hR
    refine ⟨m1 169, ?_, fun y hy => hR y (by omega) hy⟩
    rw [b_92_20, if_pos (by decide), hR 0 (by omega) (by omega), Nat.sub_zero, row_self]
  | succ c ih =>
    intro m1 u3 u4 u5 hc hm hR
    have hcn := set_n n (by omega) c (by omega) (by omega)
    obtain ⟨R, h1, h2⟩ := ih (wr m1 169 c (wW al n (2 ^ n - 1 - c))) (some (.int (iI ((pc c : Nat) : Int)))) (some (.int (iI (wW al n (2 ^ n - 1 - c))))) (some (.int (iI (n : Int)))) (by omega) (fun a ha => by rw [wr_o _ _ _ _ ha, hm a ha]) (fun y h1 h2 => by
      by_cases e : y = c
      · subst e
        rw [wr_s]
      · rw [wr_b _ _ _ _ e, hR y (by omega) h2])
    refine ⟨R, ?_, h2⟩
    have hI := L_92i (d := d) (m := m1) (q := q) (w := w) (u1 := u1) (al := al) (n := n) hd (by rw [hm 164 (by decide)]; exact hn) hn7 (x := c) (t := pc c) (by omega) hcn (fun s hs => by rw [hm 168 (by decide)]; exact hal _ s hcn hs) n 0 0 (by omega)
    rw [Int.zero_add, wW_c hn7 (by omega) (fun y h3 h4 => hR y (by omega) h4)] at hI
    rw [b_92_20, show ((c + 1 : Nat) : Int) - 1 = (c : Int) by omega, if_neg (by rw [iI_lt (by omega) (by omega)]; omega), T_38 (by omega) (by omega)]
    simp only [rBd_v, Option.toList_some, Option.toList_none, List.cons_append, List.nil_append, List.append_nil]
    rw [b_92_28]
    refine Eq.trans hI ?_
    rw [b_92_86 (by omega) (by omega), show (c : Int) + -1 = (c : Int) - 1 from rfl, Int.toNat_natCast, h1]
    unfold wr
    rw [row_row]
theorem T_92 (hd : 5 ≤ d) (hn : m 164 1 = n) (hn7 : n ≤ 7) (hal : ∀ t s, t < n → s < n → m 168 (7 * t + s) = al t s ∧ al t s < 4) : ∃ R : Nat → Int, ev d 92 [.ref 164] (mk m q w) = vI (wW al n (2 ^ n - 1)) (mk (row m 169 R) q w) ∧ ∀ y, y < 2 ^ n → R y = wW al n (2 ^ n - 1 - y) := by
  have hpw := pw_lt n (by omega)
  have hz : zShl 1 (m 164 1) - 1 = ((2 ^ n - 1 : Nat) : Int) := by
    rw [hn, zs1 n (by omega)]
    omega
  obtain ⟨R, h1, h2⟩ := L_92 (d := d - 1) (m := m) (q := q) (w := w) (al := al) (u1 := some (.int (iI ((2 ^ n - 1 : Nat) : Int)))) (by omega) hn hn7 hal (2 ^ n - 1) (wr m 169 (2 ^ n - 1) 1) none none none (by omega) (fun a ha => wr_o _ _ _ _ ha) (fun y h1 h2 => by
    obtain rfl : y = 2 ^ n - 1 := by omega
    rw [wr_s, Nat.sub_self]
    exact wW_0.symm)
  refine ⟨R, ?_, h2⟩
  rw [e_92 (by omega) _ rfl, b_92_0 (by rw [hz]; omega) (by rw [hz]; omega), hz, Int.toNat_natCast, h1]
  unfold wr
  rw [row_row]
/-! the reference's -/
theorem L_237 {x : Nat} (hx : x < 128) : ∀ (g k : Nat) (a : Int), k + g = 7 → gv d rR237 4 [some (.int (iI (x : Int))), some (.int (iI a)), some (.int (iI (k : Int)))] [] (mk m q w) = vI (a + sI (fun k => (bt x k : Int)) g k) (mk m q w) := by
  intro g
  induction g with
  | zero =>
    intro k a hg
    rw [b_237_4, if_neg (by rw [iI_lt (by omega) (by omega)]; omega)]
    unfold sI
    rw [Int.add_zero]
  | succ g ih =>
    intro k a hg
    rw [b_237_4, if_pos (by rw [iI_lt (by omega) (by omega)]; omega), bit_ok x hx k (by omega), show (k : Int) + 1 = ((k + 1 : Nat) : Int) from rfl, ih (k + 1) _ (by omega), Int.add_assoc]
    rfl
theorem V_237 (hd : 1 ≤ d) {x : Nat} (hx : x < 128) : ev d 237 [.int (iI (x : Int))] (mk m q w) = vI (pc x : Nat) (mk m q w) := by
  rw [e_237 hd _ rfl, b_237_0]
  refine Eq.trans (L_237 hx 7 0 0 (by omega)) ?_
  rw [Int.zero_add, show sI (fun k => (bt x k : Int)) 7 0 = ((pc x : Nat) : Int) by
    simp [sI, pc]
    omega]
/-- the reference: how a stick may lie -/
abbrev mlX (W G : Int) : Prop := W = 16 ∨ W = G
theorem V_238 (hd : 3 ≤ d) {s ov t v : Nat} {ot : Int} {z z2 : Nat} (hn7 : n ≤ 7) (hs : s < n) (hov : ov < 2) (ht : t < n) (hv : v < 4) (hot : ot = -1 ∨ (0 ≤ ot ∧ ot < 4)) (h15 : m 363 15 = n) (hz : m 381 0 = z) (hz7 : z ≤ 7) (hz2 : m 381 1 = z2) (hz27 : z2 ≤ 7) (hP : ∀ i, i < z → 0 ≤ m 380 i ∧ m 380 i ≤ 16) (hP2 : ∀ i, i < z2 → 0 ≤ m 380 (7 + i) ∧ m 380 (7 + i) ≤ 16) (hG : ∀ i, i < 4 * n → i32 (m 377 i)) : ev d 238 [.ref 363, .int (iI s), .int (iI ov), .int (iI t), .int (iI v), .int (iI ot)] (mk m q w) = vI (zb (mlX (wa z (m 380) (pl n v t)) (m 377 (4 * s + if ov = 1 then 3 - v else v)) ∧ (ot = -1 ∨ mlX (wa z2 (fun i => m 380 (7 + i)) (pl n ot.toNat t)) (m 377 (4 * s + if ov = 1 then 3 - ot.toNat else ot.toNat))))) (mk m q w) := by
  have e0 : (fun i => m 380 (7 * 0 + i)) = m 380 := funext fun i => by rw [Nat.mul_zero, Nat.zero_add]
  have hw1 : 0 ≤ wa z (m 380) (pl n v t) ∧ wa z (m 380) (pl n v t) ≤ 16 := by
    have := pl_in (v := v) ht
    unfold wa
    split
    · exact hP _ (by omega)
    · omega
  have hw2 : ∀ u : Nat, 0 ≤ wa z2 (fun i => m 380 (7 + i)) (pl n u t) ∧ wa z2 (fun i => m 380 (7 + i)) (pl n u t) ≤ 16 := by
    intro u
    have := pl_in (v := u) ht
    unfold wa
    split
    · exact hP2 _ (by omega)
    · omega
  have hidx : ∀ h : Nat, h < 4 → i32 (m 377 (4 * s + if ov = 1 then 3 - h else h)) := fun h hh => hG _ (by split <;> omega)
  have hov1 : ∀ h : Nat, (if (ov : Int) = 1 then 3 - h else h) = (if ov = 1 then 3 - h else h) := by
    intro h
    by_cases c : ov = 1
    · rw [if_pos (by omega), if_pos c]
    · rw [if_neg (by omega), if_neg c]
  have h208 : ∀ h : Nat, h < 4 → ev (d - 1) 208 [.ref 363, .int (iI s), .int (iI ov), .int (iI h)] (mk m q w) = vI (m 377 (4 * s + if ov = 1 then 3 - h else h)) (mk m q w) := by
    intro h hh
    rw [V_208 (by omega) (by omega) hh (by omega), hov1]
  rw [e_238 (by omega) _ rfl rfl rfl rfl rfl rfl, b_238_0, show iI 0 = iI ((0 : Nat) : Int) from rfl, V_233 (by omega) (by omega) hv ht hn7 h15 hz hz7, e0]
  simp only [rBd_v, Option.toList_some, Option.toList_none, List.cons_append, List.nil_append, List.append_nil]
  rw [b_238_8, h208 v hv]
  simp only [rBd_v, Option.toList_some, Option.toList_none, List.cons_append, List.nil_append, List.append_nil]
  rw [b_238_16, V_234 (by omega) (by omega) (hidx v hv)]
  simp only [rBd_v, Option.toList_some, Option.toList_none, List.cons_append, List.nil_append, List.append_nil]
  rw [b_238_19]
  simp only [zb_0]
  by_cases c1 : mlX (wa z (m 380) (pl n v t)) (m 377 (4 * s + if ov = 1 then 3 - v else v))
  · rw [if_neg (not_not_intro c1)]
    simp only [iI_eq (show i32 ot by omega) (show i32 (-1) by omega)]
    by_cases c2 : ot = -1
    · rw [if_pos c2, b_238_50, b_238_55 (Or.inr rfl), zb_t ⟨c1, Or.inl c2⟩]
    · obtain ⟨u, rfl⟩ : ∃ u : Nat, ot = u := ⟨ot.toNat, by omega⟩
      rw [if_neg c2, show iI 1 = iI ((1 : Nat) : Int) from rfl, V_233 (by omega) (by omega) (show u < 4 by omega) ht hn7 h15 hz2 hz27, Int.toNat_natCast]
      simp only [rBd_v, Option.toList_some, Option.toList_none, List.cons_append, List.nil_append, List.append_nil]
      rw [b_238_36, h208 u (by omega)]
      simp only [rBd_v, Option.toList_some, Option.toList_none, List.cons_append, List.nil_append, List.append_nil]
      have hw := hw2 u
      rw [show (fun i => m 380 (7 * 1 + i)) = (fun i => m 380 (7 + i)) from rfl, b_238_44, V_234 (by omega) (by omega) (hidx u (by omega))]
      simp only [rBd_v, Option.toList_some, Option.toList_none, List.cons_append, List.nil_append, List.append_nil]
      rw [b_238_47]
      simp only [zb_0]
      by_cases c3 : mlX (wa z2 (fun i => m 380 (7 + i)) (pl n u t)) (m 377 (4 * s + if ov = 1 then 3 - u else u))
      · rw [if_neg (not_not_intro c3), b_238_50, b_238_55 (Or.inr rfl), zb_t ⟨c1, Or.inr c3⟩]
      · rw [if_pos c3, b_238_54, b_238_55 (Or.inl rfl), zb_f (fun y => y.2.elim c2 c3)]
  · rw [if_pos c1, b_238_54, b_238_55 (Or.inl rfl), zb_f (fun y => c1 y.1)]
/-- the reference tells of every stick and place as al does -/
def hML (d n : Nat) (al : Nat → Nat → Nat) (v : Nat) (ot : Int) (m : Nat → Nat → Int) (q : Nat → Nat → Option Nat) (w : Option (Nat → Int64)) : Prop := ∀ m1 : Nat → Nat → Int, (∀ a, a ≠ 384 → a ≠ 385 → a ≠ 386 → m1 a = m a) → ∀ t s ov, t < n → s < n → ov < 2 → ev d 238 [.ref 363, .int (iI (s : Nat)), .int (iI (ov : Nat)), .int (iI (t : Nat)), .int (iI v), .int (iI ot)] (mk m1 q w) = vI (zb (bt (al t s) ov = 1)) (mk m1 q w)
theorem L_239i (hn7 : n ≤ 7) (h15 : m 363 15 = n) {v : Nat} {ot : Int} (hml : hML d n al v ot m q w) (hal : ∀ t s, t < n → s < n → al t s < 4) {x t : Nat} (hx : x < 2 ^ n) (ht : t < n) {m1 : Nat → Nat → Int} (hm : ∀ a, a ≠ 384 → m1 a = m a) : ∀ (g s : Nat) (a : Int) (u7 : Option Value), s + g = n → ∃ u6 u7', gv d rR239 91 [some (.ref 363), some (.int (iI v)), some (.int (iI ot)), some (.int (iI (x : Int))), some (.int (iI (t : Int))), some (.int (iI a)), some (.int (iI (s : Int))), u7] [] (mk m1 q w) = gv d rR239 170 [some (.ref 363), some (.int (iI v)), some (.int (iI ot)), some (.int (iI (x : Int))), some (.int (iI (t : Int))), some (.int (iI (a + sI (fun s => if bt x s = 1 then (pc (al t s) : Int) * m1 384 (x - 2 ^ s) else 0) g s))), u6, u7'] [] (mk m1 q w) := by
  have hpw := pw_lt n (by omega)
  intro g
  induction g with
  | zero =>
    intro s a u7 hg
    refine ⟨some (.int (iI (s : Int))), u7, ?_⟩
    rw [b_239_91, hm 363 (by decide), h15, if_neg (by rw [iI_lt (by omega) (by omega)]; omega)]
    unfold sI
    rw [Int.add_zero]
  | succ g ih =>
    intro s a u7 hg
    have hb := bit_ok x (by omega) s (by omega)
    have h01 := bt_01 x s
    rw [b_239_91, hm 363 (by decide), h15, if_pos (by rw [iI_lt (by omega) (by omega)]; omega), hb]
    simp only [iI_eq (show i32 (bt x s : Int) by omega) (show i32 0 by omega)]
    rw [show sI (fun s => if bt x s = 1 then (pc (al t s) : Int) * m1 384 (x - 2 ^ s) else 0) (g + 1) s = (if bt x s = 1 then (pc (al t s) : Int) * m1 384 (x - 2 ^ s) else 0) + sI (fun s => if bt x s = 1 then (pc (al t s) : Int) * m1 384 (x - 2 ^ s) else 0) g (s + 1) from rfl]
    by_cases c : bt x s = 1
    · have hsd := set_d x (by omega) s (by omega) c
      have hcl := an_clr x (by omega) s (by omega) c
      have key : ∀ (ov : Nat) (b : Int), ov < 2 → gv d rR239 115 [some (.ref 363), some (.int (iI v)), some (.int (iI ot)), some (.int (iI (x : Int))), some (.int (iI (t : Int))), some (.int (iI b)), some (.int (iI (s : Int))), some (.int (iI (ov : Int)))] [] (mk m1 q w) = gv d rR239 115 [some (.ref 363), some (.int (iI v)), some (.int (iI ot)), some (.int (iI (x : Int))), some (.int (iI (t : Int))), some (.int (iI (b + (bt (al t s) ov : Int) * m1 384 (x - 2 ^ s)))), some (.int (iI (s : Int))), some (.int (iI ((ov + 1 : Nat) : Int)))] [] (mk m1 q w) := by
        intro ov b hov
        have h2 := bt_01 (al t s) ov
        rw [b_239_115, if_neg (by rw [iI_lt (by omega) (by omega)]; omega), hml m1 (fun a h1 _ _ => hm a h1) t s ov ht (by omega) hov]
        simp only [rBd_v, Option.toList_some, Option.toList_none, List.cons_append, List.nil_append, List.append_nil]
        rw [b_239_135]
        simp only [zb_0]
        by_cases c2 : bt (al t s) ov = 1
        · rw [if_neg (not_not_intro c2), b_239_138 (by rw [hcl]; exact Int.natCast_nonneg _) (by rw [hcl]; exact nlt (Nat.lt_of_le_of_lt (Nat.sub_le _ _) (show x < 128 by omega))), hcl, Int.toNat_natCast, b_239_155, c2, show ((1 : Nat) : Int) * m1 384 (x - 2 ^ s) = m1 384 (x - 2 ^ s) from Int.one_mul _]
          rfl
        · rw [if_pos c2, b_239_155, show bt (al t s) ov = 0 by omega, show ((0 : Nat) : Int) * m1 384 (x - 2 ^ s) = 0 from Int.zero_mul _]
          rfl
      obtain ⟨u6, u7', h⟩ := ih (s + 1) (a + (pc (al t s) : Int) * m1 384 (x - 2 ^ s)) (some (.int (iI ((2 : Nat) : Int)))) (by omega)
      refine ⟨u6, u7', ?_⟩
      rw [if_neg (by omega), if_pos c, show iI 0 = iI ((0 : Nat) : Int) from rfl, key 0 a (by omega), key 1 _ (by omega), b_239_115, if_pos (by decide), b_239_164, show (s : Int) + 1 = ((s + 1 : Nat) : Int) from rfl]
      rw [pc_4 _ (hal t s ht (by omega))] at h ⊢
      rw [show ((bt (al t s) 0 + bt (al t s) 1 : Nat) : Int) * m1 384 (x - 2 ^ s) = (bt (al t s) 0 : Int) * m1 384 (x - 2 ^ s) + (bt (al t s) 1 : Int) * m1 384 (x - 2 ^ s) by rw [Int.natCast_add, Int.add_mul]] at h ⊢
      rw [Int.add_assoc, h, Int.add_assoc]
    · obtain ⟨u6, u7', h⟩ := ih (s + 1) a u7 (by omega)
      refine ⟨u6, u7', ?_⟩
      rw [if_pos (by omega), if_neg c, b_239_164, show (s : Int) + 1 = ((s + 1 : Nat) : Int) from rfl, h, Int.zero_add]
theorem L_239 (hd : 1 ≤ d) (hn7 : n ≤ 7) (h15 : m 363 15 = n) {v : Nat} {ot : Int} (hml : hML d n al v ot m q w) (hal : ∀ t s, t < n → s < n → al t s < 4) : ∀ (g x : Nat) (m1 : Nat → Nat → Int) (u4 u5 u6 u7 : Option Value), x + g = 2 ^ n → 1 ≤ x → (∀ a, a ≠ 384 → m1 a = m a) → (∀ y, y < x → m1 384 y = wW al n y) → ∃ R : Nat → Int,
    gv d rR239 64 [some (.ref 363), some (.int (iI v)), some (.int (iI ot)), some (.int (iI (x : Int))), u4, u5, u6, u7] [] (mk m1 q w) = vI (wW al n (2 ^ n - 1)) (mk (row m1 384 R) q w) ∧ ∀ y, y < 2 ^ n → R y = wW al n y := by
  have hpw := pw_lt n (by omega)
  have hz := zs1 n (by omega)
  intro g
  induction g with
  | zero =>
    intro x m1 u4 u5 u6 u7 hg h1x hm hR
    refine ⟨m1 384, ?_, fun y hy => hR y (by omega)⟩
    rw [b_239_64, hm 363 (by decide), h15, hz, if_neg (by rw [iI_lt (by omega) (by omega)]; omega), b_239_184 (by rw [hm 363 (by decide), h15, hz]; omega) (by rw [hm 363 (by decide), h15, hz]; omega), hm 363 (by decide), h15, hz, show (((2 ^ n : Nat) : Int) - 1).toNat = 2 ^ n - 1 by omega, hR _ (by omega), row_self]
  | succ g ih =>
    intro x m1 u4 u5 u6 u7 hg h1x hm hR
    have hp := set_p n (by omega) x (by omega) (by omega) (by omega)
    obtain ⟨u6', u7', hI⟩ := L_239i (d := d) (m := m) (q := q) (w := w) hn7 h15 hml hal (x := x) (t := n - pc x) (by omega) (by omega) hm n 0 0 u7 (by omega)
    have hs : sI (fun s => if bt x s = 1 then (pc (al (n - pc x) s) : Int) * m1 384 (x - 2 ^ s) else 0) n 0 = wW al n x := by
      rw [wW_rec (by omega)]
      refine sI_congr n 0 (fun s _ hs => ?_)
      by_cases c : bt x s = 1
      · have hsd := set_d x (by omega) s (by omega) c
        have hp2 : 0 < 2 ^ s := Nat.pow_pos (by decide)
        rw [if_pos c, if_pos c, hR _ (by omega)]
      · rw [if_neg c, if_neg c]
    rw [Int.zero_add, hs] at hI
    obtain ⟨R, h1, h2⟩ := ih (x + 1) (wr m1 384 x (wW al n x)) (some (.int (iI ((n - pc x : Nat) : Int)))) (some (.int (iI (wW al n x)))) u6' u7' (by omega) (by omega) (fun a ha => by rw [wr_o _ _ _ _ ha, hm a ha]) (fun y hy => by
      by_cases e : y = x
      · subst e
        rw [wr_s]
      · rw [wr_b _ _ _ _ e, hR y (by omega)])
    refine ⟨R, ?_, h2⟩
    rw [b_239_64, hm 363 (by decide), h15, hz, if_pos (by rw [iI_lt (by omega) (by omega)]; omega), V_237 (by omega) (by omega)]
    simp only [rBd_v, Option.toList_some, Option.toList_none, List.cons_append, List.nil_append, List.append_nil]
    rw [b_239_82, show (n : Int) - ((pc x : Nat) : Int) = ((n - pc x : Nat) : Int) by omega]
    refine Eq.trans hI ?_
    rw [b_239_170 (by omega) (by omega), Int.toNat_natCast, show (x : Int) + 1 = ((x + 1 : Nat) : Int) from rfl, h1]
    unfold wr
    rw [row_row]
theorem V_239 (hd : 2 ≤ d) (hn7 : n ≤ 7) (h15 : m 363 15 = n) {z z2 : Nat} (hz : m 381 0 = z) (hz7 : z ≤ 7) (hz2 : m 381 1 = z2) (hz27 : z2 ≤ 7) {v : Nat} {ot : Int} (hot : ot = -1 ∨ (0 ≤ ot ∧ ot < 4)) (hml : hML (d - 1) n al v ot m q w) (hal : ∀ t s, t < n → s < n → al t s < 4) (hzn : z ≤ n ∧ (ot = -1 ∨ z2 ≤ n)) : ∃ R : Nat → Int, ev d 239 [.ref 363, .int (iI v), .int (iI ot)] (mk m q w) = vI (wW al n (2 ^ n - 1)) (mk (row m 384 R) q w) ∧ ∀ y, y < 2 ^ n → R y = wW al n y := by
  have hpw := pw_lt n (by omega)
  obtain ⟨R, h1, h2⟩ := L_239 (d := d - 1) (m := m) (q := q) (w := w) (by omega) hn7 h15 hml hal (2 ^ n - 1) 1 (wr m 384 0 1) none none none none (by omega) (by omega) (fun a ha => wr_o _ _ _ _ ha) (fun y hy => by
    obtain rfl : y = 0 := by omega
    rw [wr_s]
    exact wW_0.symm)
  refine ⟨R, ?_, h2⟩
  have h55 : gv (d - 1) rR239 55 [some (.ref 363), some (.int (iI v)), some (.int (iI ot)), none, none, none, none, none] [] (mk m q w) = vI (wW al n (2 ^ n - 1)) (mk (row m 384 R) q w) := by
    rw [b_239_55]
    refine Eq.trans h1 ?_
    unfold wr
    rw [row_row]
  rw [e_239 (by omega) _ rfl rfl rfl, b_239_0, h15, hz, hz2, if_neg (by rw [iI_lt (by omega) (by omega)]; omega)]
  simp only [iI_eq (show i32 ot by omega) (show i32 (-1) by omega)]
  by_cases c : ot = -1
  · rw [if_pos c, h55]
  · rw [if_neg c, if_neg (by rw [iI_lt (by omega) (by omega)]; omega), h55]
theorem L_239z : ∀ (g k : Nat) (m1 : Nat → Nat → Int) (u1 u2 u4 u5 u6 u7 : Option Value), k + g = 128 → ∃ R : Nat → Int, gv d rR239 33 [some (.ref 363), u1, u2, some (.int (iI (k : Int))), u4, u5, u6, u7] [] (mk m1 q w) = vI 0 (mk (row m1 384 R) q w) := by
  intro g
  induction g with
  | zero =>
    intro k m1 u1 u2 u4 u5 u6 u7 hg
    refine ⟨m1 384, ?_⟩
    rw [b_239_33, if_neg (by rw [iI_lt (by omega) (by omega)]; omega), row_self]
  | succ g ih =>
    intro k m1 u1 u2 u4 u5 u6 u7 hg
    obtain ⟨R, h⟩ := ih (k + 1) (wr m1 384 k 0) u1 u2 u4 u5 u6 u7 (by omega)
    refine ⟨R, ?_⟩
    rw [b_239_33, if_pos (by rw [iI_lt (by omega) (by omega)]; omega), b_239_40 (by omega) (by omega), Int.toNat_natCast, show (k : Int) + 1 = ((k + 1 : Nat) : Int) from rfl, h]
    unfold wr
    rw [row_row]
theorem V_239z (hd : 2 ≤ d) (hn7 : n ≤ 7) (h15 : m 363 15 = n) {z z2 : Nat} (hz : m 381 0 = z) (hz7 : z ≤ 7) (hz2 : m 381 1 = z2) (hz27 : z2 ≤ 7) {v : Nat} {ot : Int} (hot : ot = -1 ∨ (0 ≤ ot ∧ ot < 4)) (hzn : ¬ (z ≤ n ∧ (ot = -1 ∨ z2 ≤ n))) : ∃ R : Nat → Int, ev d 239 [.ref 363, .int (iI v), .int (iI ot)] (mk m q w) = vI 0 (mk (row m 384 R) q w) := by
  obtain ⟨R, h⟩ := L_239z (d := d - 1) (q := q) (w := w) 128 0 m (some (.int (iI v))) (some (.int (iI ot))) none none none none (by omega)
  refine ⟨R, ?_⟩
  rw [e_239 (by omega) _ rfl rfl rfl, b_239_0, h15, hz, hz2]
  by_cases c : z ≤ n
  · rw [if_neg (by rw [iI_lt (by omega) (by omega)]; omega)]
    simp only [iI_eq (show i32 ot by omega) (show i32 (-1) by omega)]
    rw [if_neg (fun y => hzn ⟨c, Or.inl y⟩), if_pos (by rw [iI_lt (by omega) (by omega)]; omega), b_239_31]
    exact h
  · rw [if_pos (by rw [iI_lt (by omega) (by omega)]; omega), b_239_31]
    exact h
end S
