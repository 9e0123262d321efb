/-! ===== the calls off and shows, alike ===== -/
theorem fnR_o {n r Q : Nat} {A B C G : Nat → Int} (hF : fnR n r Q A B C G) {o : Nat} (h6 : A 6 = o) : ∀ s, s < 7 → G (35 + s) = bt o s := by
  obtain ⟨-, -, -, -, -, -, ⟨o1, o2, o3, o4⟩, -⟩ := hF
  obtain rfl : o = o1 := by omega
  exact o4
theorem pl_in {n v k : Nat} (hk : k < n) : 0 ≤ pl n v k ∧ pl n v k < n := by
  unfold pl
  split <;> omega
theorem pl_pl {n v k : Nat} (hk : k < n) : pl n v ((pl n v k).toNat : Int) = k := by
  have h := pl_in (v := v) hk
  rw [Int.toNat_of_nonneg h.1]
  unfold pl
  split <;> omega
theorem mk_lm {n o v k : Nat} {B C : Nat → Int} (hk : k < n) : mkI n B C o v k = lm C o (B (pl n v k).toNat).toNat v := by
  have h := pl_in (v := v) hk
  unfold mkI
  rw [if_pos h]
theorem fnR_lr {n r Q : Nat} {A B C G : Nat → Int} (hF : fnR n r Q A B C G) {o : Nat} (h6 : A 6 = o) {p v : Nat} (hp : p < n) (hv : v < 4) : 0 ≤ lm C o (B p).toNat v ∧ lm C o (B p).toNat v ≤ 15 := by
  have e2 := hF.2.2.2.2.2.2.2.1.2.1 p hp
  have h := fnR_lm hF (fnR_o hF h6) (s := (B p).toNat) (h := v) (by omega) hv
  omega
section S
variable {d n : Nat} {m : Nat → Nat → Int} {q : Nat → Nat → Option Nat} {w : Option (Nat → Int64)} {r Q o : Nat} {A B C : Nat → Int}
theorem X_209 (hd : 2 ≤ d) (hF : fnR n r Q A B C (m 377)) (h6 : A 6 = o) {v p : Nat} (hv : v < 4) (hp : p < n) : ev d 209 [.ref 363, .int (iI (m 377 (28 + p))), .int (iI v)] (mk m q w) = vI (lm C o (B p).toNat v) (mk m q w) := by
  have hn := hF.1.2.1
  have hb := fnR_o hF h6
  have e1 := hF.2.2.2.2.2.2.2.1.1 p hp
  have e2 := hF.2.2.2.2.2.2.2.1.2.1 p hp
  rw [← e1, show iI (B p) = iI ((B p).toNat : Nat) by rw [Int.toNat_of_nonneg e2.1], V_209 hd (by omega) hv (by
    rw [hb _ (by omega)]
    have := bt_01 o (B p).toNat
    omega), (fnR_lm hF hb (s := (B p).toNat) (by omega) hv).1]
theorem X_217 (hd : 3 ≤ d) (hF : fnR n r Q A B C (m 377)) (h6 : A 6 = o) (h15 : m 363 15 = n) {v k : Nat} (hv : v < 4) (hk : k < n) : ev d 217 [.ref 363, .int (iI v), .int (iI k)] (mk m q w) = vI (mkI n B C o v k) (mk m q w) := by
  have hn := hF.1.2.1
  have hb := fnR_o hF h6
  have hbs := hF.2.2.2.2.2.2.2.1
  rw [V_217 hd hv h15 hn hk (fun j hj => by
    have e1 := hbs.1 j hj
    have e2 := hbs.2.1 j hj
    omega) (fun s hs => by
    have e1 := hb s hs
    have e2 := bt_01 o s
    omega), mk_x (G2 := m 377) hF h6 hb hv hk (fun _ _ => rfl)]
end S
/-! what a picture wants -/
def wa (z : Nat) (P : Nat → Int) (k : Int) : Int := if k < z then P k.toNat else 16
theorem wa_eq {z : Nat} {P Q : Nat → Int} (h : rP z P Q) {k : Int} (hk : 0 ≤ k) : wa z P k = wa z Q k ∧ 0 ≤ wa z P k ∧ wa z P k ≤ 16 := by
  unfold wa
  by_cases c : k < z
  · have := h k.toNat (by omega)
    rw [if_pos c, if_pos c]
    exact this
  · rw [if_neg c, if_neg c]
    omega
/-- sums, and their turning round -/
def sI (f : Nat → Int) : Nat → Nat → Int
  | 0, _ => 0
  | g + 1, k => f k + sI f g (k + 1)
theorem sI_congr {f h : Nat → Int} : ∀ (g k : Nat), (∀ j, k ≤ j → j < k + g → f j = h j) → sI f g k = sI h g k := by
  intro g
  induction g with
  | zero => intro k _; rfl
  | succ g ih =>
    intro k hh
    unfold sI
    rw [hh k (by omega) (by omega), ih (k + 1) (fun j h1 h2 => hh j (by omega) (by omega))]
theorem sI_rev {n : Nat} (hn : n ≤ 7) {f : Nat → Int} : sI (fun k => f (n - 1 - k)) n 0 = sI f n 0 := by
  rcases (show n = 0 ∨ n = 1 ∨ n = 2 ∨ n = 3 ∨ n = 4 ∨ n = 5 ∨ n = 6 ∨ n = 7 by omega) with rfl | rfl | rfl | rfl | rfl | rfl | rfl | rfl <;> simp only [sI] <;> simp <;> omega
theorem sI_pl {n v : Nat} (hn : n ≤ 7) {f h : Nat → Int} (e : ∀ k, k < n → h (pl n v k).toNat = f k) : sI h n 0 = sI f n 0 := by
  by_cases c : v < 2
  · refine sI_congr n 0 (fun j _ hj => ?_)
    rw [← e j (by omega)]
    unfold pl
    rw [if_pos c, Int.toNat_natCast]
  · rw [← sI_rev hn (f := h)]
    refine sI_congr n 0 (fun j _ hj => ?_)
    rw [← e j (by omega)]
    unfold pl
    rw [if_neg c, show ((n : Int) - 1 - j).toNat = n - 1 - j by omega]
theorem sI_ge {f : Nat → Int} (h : ∀ j, 0 ≤ f j) : ∀ (g k : Nat), 0 ≤ sI f g k := by
  intro g
  induction g with
  | zero => intro k; exact Int.le_refl _
  | succ g ih =>
    intro k
    have h1 := ih (k + 1)
    have h2 := h k
    unfold sI
    omega
theorem zb_n {p : Prop} [Decidable p] : zb p = 0 ∨ zb p = 1 := by
  unfold zb
  split
  · exact Or.inr rfl
  · exact Or.inl rfl
theorem sI_le {f : Nat → Int} (h : ∀ j, f j ≤ 1) : ∀ (g k : Nat), sI f g k ≤ g := by
  intro g
  induction g with
  | zero => intro k; exact Int.le_refl _
  | succ g ih =>
    intro k
    have h1 := ih (k + 1)
    have h2 := h k
    unfold sI
    omega
/-- unlike at k, by the class -/
def bdC (n o v z : Nat) (B C P : Nat → Int) (k : Nat) : Int := zb (wa z P k ≠ 16 ∧ wa z P k ≠ mkI n B C o v k)
/-- unlike at a place, by the reference -/
def bdX (n o v z : Nat) (B C P : Nat → Int) (p : Nat) : Int := zb (¬ (wa z P (pl n v p) = 16 ∨ wa z P (pl n v p) = lm C o (B p).toNat v))
theorem bd_eq {n o v z : Nat} {B C P Q : Nat → Int} (hn : n ≤ 7) (h : rP z P Q) : sI (bdX n o v z B C Q) n 0 = sI (bdC n o v z B C P) n 0 := by
  refine sI_pl (v := v) hn (fun k hk => ?_)
  unfold bdX bdC
  rw [pl_pl hk, mk_lm hk, ← (wa_eq h (by omega : 0 ≤ (k : Int))).1]
  exact zb_iff ⟨fun z => ⟨fun y => z (Or.inl y), fun y => z (Or.inr y)⟩, fun z y => y.elim z.1 z.2⟩
section S
variable {d n : Nat} {m : Nat → Nat → Int} {q : Nat → Nat → Option Nat} {w : Option (Nat → Int64)} {r Q o x p z : Nat} {A B C : Nat → Int}
theorem T_75 (hd : 1 ≤ d) (hp : iPic p) (hz : m p 1 = z) (hz7 : z ≤ 7) {k : Int} (hk0 : 0 ≤ k) (hk : i32 k) : ev d 75 [.ref p, .int (iI k)] (mk m q w) = vI (wa z (m (p + 1)) k) (mk m q w) := by
  rw [e_75 hd _ rfl rfl, b_75_0 hp, if_neg (by rw [iI_lt hk (by omega)]; omega), hz]
  unfold wa
  by_cases c : k < z
  · rw [if_pos (by rw [iI_lt hk (by omega)]; omega), if_pos c, b_75_12 hp hk0 (by omega), b_75_23]
  · rw [if_neg (by rw [iI_lt hk (by omega)]; omega), if_neg c, b_75_21, b_75_23]
theorem L_76 (hd : 4 ≤ d) (hx : iFan x) (hp : iPic p) (hk : fk (m x) n o) (hl : fl (m (x + 1)) n) (hC : ∀ i, i < 28 → i32 (m (x + 2) i)) (hz : m p 1 = z) (hz7 : z ≤ 7) (hP : ∀ i, i < z → 0 ≤ m (p + 1) i ∧ m (p + 1) i ≤ 16) {v : Nat} (hv : v < 4) : ∀ (g k : Nat) (a : Int) (u : Option Value), k + g = n → gv d rR76 5 [some (.ref p), some (.ref x), some (.int (iI v)), some (.int (iI a)), some (.int (iI (k : Int))), u] [] (mk m q w) = vI (a + sI (bdC n o v z (m (x + 1)) (m (x + 2)) (m (p + 1))) g k) (mk m q w) := by
  intro g
  have hn := hk.2.1
  induction g with
  | zero =>
    intro k a u hg
    rw [b_76_5 hx hp, hk.1, if_neg (by rw [iI_lt (by omega) (by omega)]; omega)]
    unfold sI
    rw [Int.add_zero]
  | succ g ih =>
    intro k a u hg
    have hw : 0 ≤ wa z (m (p + 1)) (k : Int) ∧ wa z (m (p + 1)) (k : Int) ≤ 16 := by
      unfold wa
      split
      · exact hP _ (by omega)
      · omega
    have hm := mk_i (n := n) (o := o) hC hl hv (k := (k : Int))
    rw [b_76_5 hx hp, hk.1, if_pos (by rw [iI_lt (by omega) (by omega)]; omega), T_75 (by omega) hp hz hz7 (by omega) (by omega)]
    simp only [rBd_v, Option.toList_some, Option.toList_none, List.cons_append, List.nil_append, List.append_nil]
    rw [b_76_20 hx hp]
    simp only [iI_eq (show i32 (wa z (m (p + 1)) (k : Int)) by omega) (show i32 16 by omega)]
    rw [show sI (bdC n o v z (m (x + 1)) (m (x + 2)) (m (p + 1))) (g + 1) k = bdC n o v z (m (x + 1)) (m (x + 2)) (m (p + 1)) k + sI (bdC n o v z (m (x + 1)) (m (x + 2)) (m (p + 1))) g (k + 1) from rfl]
    unfold bdC
    by_cases c1 : wa z (m (p + 1)) (k : Int) = 16
    · rw [if_pos c1, b_76_44 hx hp, show (k : Int) + 1 = ((k + 1 : Nat) : Int) from rfl, ih (k + 1) _ _ (by omega), zb_f (fun z => z.1 c1), Int.zero_add]
      rfl
    · rw [if_neg c1, T_19 (by omega) hx hk hl hv (by omega) (by omega)]
      simp only [rBd_v, Option.toList_some, Option.toList_none, List.cons_append, List.nil_append, List.append_nil]
      rw [b_76_38 hx hp]
      simp only [iI_eq (show i32 (wa z (m (p + 1)) (k : Int)) by omega) hm]
      by_cases c2 : wa z (m (p + 1)) (k : Int) = mkI n (m (x + 1)) (m (x + 2)) o v k
      · rw [if_pos c2, b_76_44 hx hp, show (k : Int) + 1 = ((k + 1 : Nat) : Int) from rfl, ih (k + 1) _ _ (by omega), zb_f (fun z => z.2 c2), Int.zero_add]
        rfl
      · rw [if_neg c2, b_76_44 hx hp, show (k : Int) + 1 = ((k + 1 : Nat) : Int) from rfl, ih (k + 1) _ _ (by omega), zb_t ⟨c1, c2⟩, Int.add_assoc]
        rfl
theorem T_76 (hd : 5 ≤ d) (hx : iFan x) (hp : iPic p) (hk : fk (m x) n o) (hl : fl (m (x + 1)) n) (hC : ∀ i, i < 28 → i32 (m (x + 2) i)) (hz : m p 1 = z) (hz7 : z ≤ 7) (hP : ∀ i, i < z → 0 ≤ m (p + 1) i ∧ m (p + 1) i ≤ 16) {v : Nat} (hv : v < 4) : ev d 76 [.ref p, .ref x, .int (iI v)] (mk m q w) = vI (sI (bdC n o v z (m (x + 1)) (m (x + 2)) (m (p + 1))) n 0) (mk m q w) := by
  rw [e_76 (by omega) _ rfl rfl rfl, b_76_0 hx hp]
  refine Eq.trans (L_76 (show 4 ≤ d - 1 by omega) hx hp hk hl hC hz hz7 hP hv n 0 0 none (by omega)) ?_
  rw [Int.zero_add]
theorem T_77 (hd : 6 ≤ d) (hx : iFan x) (hp : iPic p) (hk : fk (m x) n o) (hl : fl (m (x + 1)) n) (hC : ∀ i, i < 28 → i32 (m (x + 2) i)) (hz : m p 1 = z) (hz7 : z ≤ 7) (hP : ∀ i, i < z → 0 ≤ m (p + 1) i ∧ m (p + 1) i ≤ 16) {v : Nat} (hv : v < 4) : ev d 77 [.ref p, .ref x, .int (iI v)] (mk m q w) = vI (zb (z ≤ n ∧ sI (bdC n o v z (m (x + 1)) (m (x + 2)) (m (p + 1))) n 0 = 0)) (mk m q w) := by
  have hn := hk.2.1
  rw [e_77 (by omega) _ rfl rfl rfl, b_77_0 hx hp, hk.1, hz]
  by_cases c : z ≤ n
  · rw [if_neg (by rw [iI_lt (by omega) (by omega)]; omega), T_76 (by omega) hx hp hk hl hC hz hz7 hP hv]
    have h1 := sI_ge (f := bdC n o v z (m (x + 1)) (m (x + 2)) (m (p + 1))) (fun j => by unfold bdC; have := zb_n (p := wa z (m (p + 1)) j ≠ 16 ∧ wa z (m (p + 1)) j ≠ mkI n (m (x + 1)) (m (x + 2)) o v j); omega) n 0
    have h2 := sI_le (f := bdC n o v z (m (x + 1)) (m (x + 2)) (m (p + 1))) (fun j => by unfold bdC; have := zb_n (p := wa z (m (p + 1)) j ≠ 16 ∧ wa z (m (p + 1)) j ≠ mkI n (m (x + 1)) (m (x + 2)) o v j); omega) n 0
    simp only [rBd_v, Option.toList_some, Option.toList_none, List.cons_append, List.nil_append, List.append_nil]
    rw [b_77_17]
    simp only [iI_eq (show i32 (sI (bdC n o v z (m (x + 1)) (m (x + 2)) (m (p + 1))) n 0) by omega) (show i32 0 by omega)]
    by_cases c2 : sI (bdC n o v z (m (x + 1)) (m (x + 2)) (m (p + 1))) n 0 = 0
    · rw [if_pos c2, b_77_25 (Or.inr rfl), zb_t ⟨c, c2⟩]
    · rw [if_neg c2, b_77_24, b_77_25 (Or.inl rfl), zb_f (fun y => c2 y.2)]
  · rw [if_pos (by rw [iI_lt (by omega) (by omega)]; omega), b_77_24, b_77_25 (Or.inl rfl), zb_f (fun y => c y.1)]
/-! the reference's -/
theorem V_233 (hd : 2 ≤ d) {c v k : Nat} (hc : c < 2) (hv : v < 4) (hk : k < n) (hn7 : n ≤ 7) (h15 : m 363 15 = n) (hz : m 381 c = z) (hz7 : z ≤ 7) : ev d 233 [.ref 363, .int (iI c), .int (iI v), .int (iI k)] (mk m q w) = vI (wa z (fun i => m 380 (7 * c + i)) (pl n v k)) (mk m q w) := by
  have hp := pl_in (v := v) hk
  rw [e_233 (by omega) _ rfl rfl rfl rfl, b_233_0, V_216 (by omega) hv h15]
  simp only [rBd_v, Option.toList_some, Option.toList_none, List.cons_append, List.nil_append, List.append_nil]
  rw [b_233_6 (by omega) (by omega), Int.toNat_natCast, hz]
  unfold wa
  by_cases h : pl n v k < z
  · rw [if_pos (by rw [iI_lt (by omega) (by omega)]; omega), if_pos h, b_233_19 (by omega) (by omega), b_233_36, show (7 * (c : Int) + pl n v k).toNat = 7 * c + (pl n v k).toNat by omega]
  · rw [if_neg (by rw [iI_lt (by omega) (by omega)]; omega), if_neg h, b_233_36]
theorem V_234 (hd : 1 ≤ d) {a b : Int} (ha : i32 a) (hb : i32 b) : ev d 234 [.int (iI a), .int (iI b)] (mk m q w) = vI (zb (a = 16 ∨ a = b)) (mk m q w) := by
  rw [e_234 hd _ rfl rfl, b_234_0]
  simp only [iI_eq ha hb, iI_eq ha (show i32 16 by omega)]
  by_cases h : a = 16
  · rw [if_pos h, b_234_11, b_234_16 (Or.inr rfl), zb_t (Or.inl h)]
  · rw [if_neg h]
    by_cases h2 : a = b
    · rw [if_pos h2, b_234_11, b_234_16 (Or.inr rfl), zb_t (Or.inr h2)]
    · rw [if_neg h2, b_234_16 (Or.inl rfl), zb_f (fun y => y.elim h h2)]
/-- the reference stands at its row, a fan's, and at a picture -/
def xpR (m : Nat → Nat → Int) (n r Q o z : Nat) (A B C : Nat → Int) : Prop := fnR n r Q A B C (m 377) ∧ A 6 = o ∧ m 363 15 = n ∧ m 381 0 = z ∧ z ≤ 7 ∧ ∀ i, i < z → 0 ≤ m 380 i ∧ m 380 i ≤ 16
theorem xp_w {v : Nat} (h : xpR m n r Q o z A B C) (k : Int) (hk : 0 ≤ k) : wa z (fun i => m 380 (7 * 0 + i)) k = wa z (m 380) k ∧ 0 ≤ wa z (m 380) k ∧ wa z (m 380) k ≤ 16 := by
  rw [show (fun i => m 380 (7 * 0 + i)) = m 380 from funext fun i => by rw [Nat.mul_zero, Nat.zero_add]]
  unfold wa
  refine ⟨rfl, ?_⟩
  split
  · exact h.2.2.2.2.2 _ (by omega)
  · omega
theorem L_248 (hd : 4 ≤ d) (h : xpR m n r Q o z A B C) {v : Nat} (hv : v < 4) : ∀ (g k : Nat) (a : Int), k + g = n → gv d rR248 28 [some (.ref 363), some (.int (iI v)), some (.int (iI a)), some (.int (iI (k : Int)))] [] (mk m q w) = vI (a + sI (bdX n o v z B C (m 380)) g k) (mk m q w) := by
  obtain ⟨hF, h6, h15, hz, hz7, hP⟩ := id h
  have hn := hF.1.2.1
  intro g
  induction g with
  | zero =>
    intro k a hg
    rw [b_248_28, h15, if_neg (by rw [iI_lt (by omega) (by omega)]; omega)]
    unfold sI
    rw [Int.add_zero]
  | succ g ih =>
    intro k a hg
    have hw := xp_w (v := v) h (pl n v k) (pl_in (by omega)).1
    have hm := fnR_lr hF h6 (p := k) (v := v) (by omega) hv
    rw [b_248_28, h15, if_pos (by rw [iI_lt (by omega) (by omega)]; omega), show iI 0 = iI ((0 : Nat) : Int) from rfl, V_233 (by omega) (by omega) hv (by omega) hn h15 hz hz7]
    simp only [rBd_v, Option.toList_some, Option.toList_none, List.cons_append, List.nil_append, List.append_nil]
    rw [b_248_44 (by omega) (by omega), show (28 + (k : Int)).toNat = 28 + k by omega, X_209 (by omega) hF h6 hv (by omega), hw.1]
    simp only [rBd_v, Option.toList_some, Option.toList_none, List.cons_append, List.nil_append, List.append_nil]
    rw [b_248_58, V_234 (by omega) (by omega) (by omega)]
    simp only [rBd_v, Option.toList_some, Option.toList_none, List.cons_append, List.nil_append, List.append_nil]
    rw [b_248_61]
    simp only [zb_0]
    rw [show sI (bdX n o v z B C (m 380)) (g + 1) k = bdX n o v z B C (m 380) k + sI (bdX n o v z B C (m 380)) g (k + 1) from rfl]
    unfold bdX
    by_cases c : wa z (m 380) (pl n v k) = 16 ∨ wa z (m 380) (pl n v k) = lm C o (B k).toNat v
    · rw [if_neg (not_not_intro c), b_248_69, show (k : Int) + 1 = ((k + 1 : Nat) : Int) from rfl, ih (k + 1) _ (by omega), zb_f (not_not_intro c), Int.zero_add, Int.add_zero]
      rfl
    · rw [if_pos c, b_248_69, show (k : Int) + 1 = ((k + 1 : Nat) : Int) from rfl, ih (k + 1) _ (by omega), zb_t c, Int.add_assoc]
      rfl
theorem L_235 (hd : 4 ≤ d) (h : xpR m n r Q o z A B C) {v : Nat} (hv : v < 4) : ∀ (g k : Nat) (P : Prop) [Decidable P], k + g = n → gv d rR235 21 [some (.ref 363), some (.int (iI v)), some (.int (iI (zb P))), some (.int (iI (k : Int)))] [] (mk m q w) = vI (zb (P ∧ sI (bdX n o v z B C (m 380)) g k = 0)) (mk m q w) := by
  obtain ⟨hF, h6, h15, hz, hz7, hP⟩ := id h
  have hn := hF.1.2.1
  have hnn : ∀ g k, 0 ≤ sI (bdX n o v z B C (m 380)) g k := sI_ge (fun j => by unfold bdX; have := zb_n (p := ¬ (wa z (m 380) (pl n v j) = 16 ∨ wa z (m 380) (pl n v j) = lm C o (B j).toNat v)); omega)
  intro g
  induction g with
  | zero =>
    intro k P _ hg
    rw [b_235_21, h15, if_neg (by rw [iI_lt (by omega) (by omega)]; omega), b_235_72 (zb_01 _)]
    exact congrArg (fun y => vI y (mk m q w)) (zb_iff ⟨fun y => ⟨y, rfl⟩, fun y => y.1⟩)
  | succ g ih =>
    intro k P _ hg
    have hw := xp_w (v := v) h (pl n v k) (pl_in (by omega)).1
    have hm := fnR_lr hF h6 (p := k) (v := v) (by omega) hv
    have hs := hnn g (k + 1)
    rw [b_235_21, h15, if_pos (by rw [iI_lt (by omega) (by omega)]; omega)]
    simp only [zb_0]
    rw [show sI (bdX n o v z B C (m 380)) (g + 1) k = bdX n o v z B C (m 380) k + sI (bdX n o v z B C (m 380)) g (k + 1) from rfl]
    have hno : gv d rR235 64 [some (.ref 363), some (.int (iI v)), some (.int (iI (zb P))), some (.int (iI (k : Int)))] [] (mk m q w) = vI 0 (mk m q w) := by
      rw [b_235_64, b_235_65, show iI 0 = iI (zb False) from rfl, show (k : Int) + 1 = ((k + 1 : Nat) : Int) from rfl, ih (k + 1) _ (by omega), zb_f (fun y => y.1)]
    by_cases cP : P
    · rw [if_neg (not_not_intro cP), show iI 0 = iI ((0 : Nat) : Int) from rfl, V_233 (by omega) (by omega) hv (by omega) hn h15 hz hz7]
      simp only [rBd_v, Option.toList_some, Option.toList_none, List.cons_append, List.nil_append, List.append_nil]
      rw [b_235_40 (by omega) (by omega), show (28 + (k : Int)).toNat = 28 + k by omega, X_209 (by omega) hF h6 hv (by omega), hw.1]
      simp only [rBd_v, Option.toList_some, Option.toList_none, List.cons_append, List.nil_append, List.append_nil]
      rw [b_235_54, V_234 (by omega) (by omega) (by omega)]
      simp only [rBd_v, Option.toList_some, Option.toList_none, List.cons_append, List.nil_append, List.append_nil]
      rw [b_235_57]
      simp only [zb_0]
      unfold bdX
      by_cases c : wa z (m 380) (pl n v k) = 16 ∨ wa z (m 380) (pl n v k) = lm C o (B k).toNat v
      · rw [if_neg (not_not_intro c), b_235_65, show iI 1 = iI (zb True) from rfl, show (k : Int) + 1 = ((k + 1 : Nat) : Int) from rfl, ih (k + 1) _ (by omega), zb_f (not_not_intro c), Int.zero_add]
        exact congrArg (fun y => vI y (mk m q w)) (zb_iff ⟨fun y => ⟨cP, y.2⟩, fun y => ⟨trivial, y.2⟩⟩)
      · rw [if_pos c, hno, zb_t c, zb_f]
        intro y
        have := y.2
        unfold bdX at hs
        omega
    · rw [if_pos cP, hno, zb_f (fun y => cP y.1)]
theorem V_235 (hd : 5 ≤ d) (h : xpR m n r Q o z A B C) {v : Nat} (hv : v < 4) : ev d 235 [.ref 363, .int (iI v)] (mk m q w) = vI (zb (z ≤ n ∧ sI (bdX n o v z B C (m 380)) n 0 = 0)) (mk m q w) := by
  have hn := h.1.1.2.1
  rw [e_235 (by omega) _ rfl rfl, b_235_0, h.2.2.1, h.2.2.2.1]
  have hz7 := h.2.2.2.2.1
  by_cases c : z ≤ n
  · rw [if_neg (by rw [iI_lt (by omega) (by omega)]; omega), b_235_18, show iI 1 = iI (zb (z ≤ n)) by rw [zb_t c], show iI 0 = iI ((0 : Nat) : Int) from rfl, L_235 (by omega) h hv n 0 _ (by omega)]
  · rw [if_pos (by rw [iI_lt (by omega) (by omega)]; omega), b_235_18]
    have := L_235 (q := q) (w := w) (show 4 ≤ d - 1 by omega) h hv n 0 (z ≤ n) (by omega)
    rw [zb_f c] at this
    exact this
end S
section Q
variable {m m1 : Nat → Nat → Int} {q : Nat → Nat → Option Nat}
theorem RR_pic (hR : RR m q) : ∃ p z : Nat, q 181 0 = some p ∧ iPic p ∧ z ≤ 7 ∧ m p 1 = z ∧ m 381 0 = z ∧ rP z (m (p + 1)) (m 380) := by
  obtain ⟨-, -, -, ⟨p0, p1, p2, p3, p4, p5, p6, p7, p8, -, -, -, ⟨z0, pc1, pc2, pc3, pc4⟩, -⟩, -⟩ := hR
  refine ⟨p0, z0, p3, p6, pc1, pc2, pc3, fun i hi => ?_⟩
  have h := pc4 i hi
  simp only [Nat.mul_zero, Nat.zero_add] at h
  exact h
theorem xp_tk {n r o z p : Nat} (hF : fnR n r 400 (m 108) (m 109) (m 110) (m 376)) (h6 : m 108 6 = o) (h15 : m 363 15 = n) (hz7 : z ≤ 7) (hz : m 381 0 = z) (hP : rP z (m (p + 1)) (m 380)) (h1 : ∀ e, 363 ≤ e → m1 e = m e) : xpR (tk m1) n r 400 o z (m 108) (m 109) (m 110) := by
  refine ⟨fnR_congr (fun _ _ => rfl) (fun _ _ => rfl) (fun _ _ => rfl) (fun j hj => by rw [tk_r hj, h1 376 (by decide)]) hF, h6, by rw [tk_b (by decide), h1 363 (by decide)]; exact h15, by rw [tk_o (by decide) (by decide), h1 381 (by decide)]; exact hz, hz7, fun i hi => ?_⟩
  have := hP i hi
  rw [tk_o (by decide) (by decide), h1 380 (by decide)]
  omega
end Q
section S
variable {d n : Nat} {m : Nat → Nat → Int} {q : Nat → Nat → Option Nat} {w : Option (Nat → Int64)}
theorem K_off {a : Int} (ha : i32 a) : cTH 143 248 [.int (iI a)] 1 := by
  intro m q w hR d hd
  obtain ⟨n, r, o, hF, k15, k16, hn7, hfk, hfl, hCi, ho, hbt⟩ := RR_fan hR
  obtain ⟨p, z, p1, p2, hz7, p4, p5, hP⟩ := RR_pic hR
  obtain ⟨V, hV⟩ : ∃ V : Int, V = sI (bdC n o a.toNat z (m 109) (m 110) (m (p + 1))) n 0 := ⟨_, rfl⟩
  have hC : ev d 143 [.ref 100, .int (iI a)] (mk m q w) = if 0 ≤ a ∧ a ≤ 3 then vI V (mk m q w) else some (.inr 0, (mk (wr m 100 17 (m 100 17 + 1)) q w, (1, 6))) := by
    rw [e_143 (by omega) _ rfl rfl, b_143_0, T_128 (by omega) ha]
    simp only [rBd_v, Option.toList_some, Option.toList_none, List.cons_append, List.nil_append, List.append_nil]
    rw [b_143_5, T_116 (by omega)]
    by_cases h : 0 ≤ a ∧ a ≤ 3
    · obtain ⟨v, rfl⟩ : ∃ v : Nat, a = v := ⟨a.toNat, by omega⟩
      rw [zb_t h, if_pos h, if_neg (by decide)]
      simp only [rBd_v, Option.toList_some, Option.toList_none, List.cons_append, List.nil_append, List.append_nil]
      rw [b_143_8, p1]
      refine Eq.trans (b_143_14 p2) ?_
      rw [T_76 (by omega) f108 p2 hfk hfl hCi p4 hz7 (fun i hi => (hP i hi).2) (by omega), hV, Int.toNat_natCast]
      simp only [rBd_v, Option.toList_some, Option.toList_none, List.cons_append, List.nil_append, List.append_nil]
      rw [b_143_25]
    · rw [zb_f h, if_neg h, if_pos rfl]
      rfl
  have hX : ∀ m1 : Nat → Nat → Int, (∀ e, 363 ≤ e → m1 e = m e) → ev d 248 [.ref 363, .int (iI a)] (mk m1 q w) = if 0 ≤ a ∧ a ≤ 3 then vI V (mk (tk m1) q w) else vI 0 (mk (noX m1 1 1) q w) := by
    intro m1 h1
    rw [e_248 (by omega) _ rfl rfl, b_248_0, V_224 (by omega) ha]
    simp only [rBd_v, Option.toList_some, Option.toList_none, List.cons_append, List.nil_append, List.append_nil]
    rw [b_248_10, V_160 (by omega) (Or.inr rfl) (by omega) (by decide) (wr_s _ _ _ _)]
    by_cases h : 0 ≤ a ∧ a ≤ 3
    · obtain ⟨v, rfl⟩ : ∃ v : Nat, a = v := ⟨a.toNat, by omega⟩
      rw [if_pos h, if_pos h]
      simp only [rBd_v, Option.toList_some, Option.toList_none, List.cons_append, List.nil_append, List.append_nil]
      rw [b_248_15, if_neg (by decide), V_200 (by omega)]
      simp only [rBd_v, Option.toList_some, Option.toList_none, List.cons_append, List.nil_append, List.append_nil]
      rw [show cp (wr m1 363 0 0) 376 377 48 = tk m1 from rfl]
      have hxp := xp_tk hF hfk.2.2.1 k15 hz7 p5 hP h1
      have e380 : tk m1 380 = m 380 := by rw [tk_o (by decide) (by decide), h1 380 (by decide)]
      rw [b_248_24, show iI 0 = iI ((0 : Nat) : Int) from rfl, L_248 (by omega) hxp (by omega) n 0 _ (by omega), e380, bd_eq hn7 hP, hV, Int.toNat_natCast, show (((0 : Nat) : Int) + _) = _ from Int.zero_add _]
    · rw [if_neg h, if_neg h]
      simp only [rBd_v, Option.toList_some, Option.toList_none, List.cons_append, List.nil_append, List.append_nil]
      rw [b_248_15, if_pos rfl]
      rfl
  by_cases h : 0 ≤ a ∧ a ≤ 3
  · rw [if_pos h] at hC
    have hX1 := hX m (fun _ _ => rfl)
    rw [if_pos h] at hX1
    exact q_in hC hX1 tk_0 (tk_RR hR)
  · rw [if_neg h] at hC
    have hX1 := hX (wr m 100 17 (m 100 17 + 1)) (fun e he => wr_o _ _ _ _ (by omega))
    rw [if_neg h] at hX1
    exact q_no hR hC hX1
theorem K_shows {a : Int} (ha : i32 a) : cTH 134 236 [.int (iI a)] 1 := by
  intro m q w hR d hd
  obtain ⟨n, r, o, hF, k15, k16, hn7, hfk, hfl, hCi, ho, hbt⟩ := RR_fan hR
  obtain ⟨p, z, p1, p2, hz7, p4, p5, hP⟩ := RR_pic hR
  obtain ⟨V, hV⟩ : ∃ V : Int, V = zb (z ≤ n ∧ sI (bdC n o a.toNat z (m 109) (m 110) (m (p + 1))) n 0 = 0) := ⟨_, rfl⟩
  have hC : ev d 134 [.ref 100, .int (iI a)] (mk m q w) = if 0 ≤ a ∧ a ≤ 3 then vI V (mk m q w) else some (.inr 0, (mk (wr m 100 17 (m 100 17 + 1)) q w, (1, 6))) := by
    rw [e_134 (by omega) _ rfl rfl, b_134_0, T_128 (by omega) ha]
    simp only [rBd_v, Option.toList_some, Option.toList_none, List.cons_append, List.nil_append, List.append_nil]
    rw [b_134_5, T_116 (by omega)]
    by_cases h : 0 ≤ a ∧ a ≤ 3
    · obtain ⟨v, rfl⟩ : ∃ v : Nat, a = v := ⟨a.toNat, by omega⟩
      rw [zb_t h, if_pos h, if_neg (by decide)]
      simp only [rBd_v, Option.toList_some, Option.toList_none, List.cons_append, List.nil_append, List.append_nil]
      rw [b_134_8, p1]
      refine Eq.trans (b_134_14 p2) ?_
      rw [T_77 (by omega) f108 p2 hfk hfl hCi p4 hz7 (fun i hi => (hP i hi).2) (by omega), hV, Int.toNat_natCast]
      simp only [rBd_v, Option.toList_some, Option.toList_none, List.cons_append, List.nil_append, List.append_nil]
      rw [b_134_25 (zb_01 _)]
    · rw [zb_f h, if_neg h, if_pos rfl]
      rfl
  have hX : ∀ m1 : Nat → Nat → Int, (∀ e, 363 ≤ e → m1 e = m e) → ev d 236 [.ref 363, .int (iI a)] (mk m1 q w) = if 0 ≤ a ∧ a ≤ 3 then vI V (mk (tk m1) q w) else vI 0 (mk (noX m1 1 1) q w) := by
    intro m1 h1
    rw [e_236 (by omega) _ rfl rfl, b_236_0, V_224 (by omega) ha]
    simp only [rBd_v, Option.toList_some, Option.toList_none, List.cons_append, List.nil_append, List.append_nil]
    rw [b_236_10, V_160 (by omega) (Or.inr rfl) (by omega) (by decide) (wr_s _ _ _ _)]
    by_cases h : 0 ≤ a ∧ a ≤ 3
    · obtain ⟨v, rfl⟩ : ∃ v : Nat, a = v := ⟨a.toNat, by omega⟩
      rw [if_pos h, if_pos h]
      simp only [rBd_v, Option.toList_some, Option.toList_none, List.cons_append, List.nil_append, List.append_nil]
      rw [b_236_15, if_neg (by decide), V_200 (by omega)]
      simp only [rBd_v, Option.toList_some, Option.toList_none, List.cons_append, List.nil_append, List.append_nil]
      rw [show cp (wr m1 363 0 0) 376 377 48 = tk m1 from rfl]
      have hxp := xp_tk hF hfk.2.2.1 k15 hz7 p5 hP h1
      have e380 : tk m1 380 = m 380 := by rw [tk_o (by decide) (by decide), h1 380 (by decide)]
      rw [b_236_24, V_235 (by omega) hxp (by omega), e380, bd_eq hn7 hP, hV, Int.toNat_natCast]
      simp only [rBd_v, Option.toList_some, Option.toList_none, List.cons_append, List.nil_append, List.append_nil]
      rw [b_236_29 (zb_01 _)]
    · rw [if_neg h, if_neg h]
      simp only [rBd_v, Option.toList_some, Option.toList_none, List.cons_append, List.nil_append, List.append_nil]
      rw [b_236_15, if_pos rfl]
      rfl
  by_cases h : 0 ≤ a ∧ a ≤ 3
  · rw [if_pos h] at hC
    have hX1 := hX m (fun _ _ => rfl)
    rw [if_pos h] at hX1
    exact q_in hC hX1 tk_0 (tk_RR hR)
  · rw [if_neg h] at hC
    have hX1 := hX (wr m 100 17 (m 100 17 + 1)) (fun e he => wr_o _ _ _ _ (by omega))
    rw [if_neg h] at hX1
    exact q_no hR hC hX1
end S
