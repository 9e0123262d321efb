/-! ===== deeds: a turn or a swap, and what is seen then ===== -/
/-- two places change -/
def swp (B : Nat → Int) (a b : Nat) : Nat → Int := row (row B a (B b)) b (B a)
theorem fnR_swap {n r Q : Nat} {A B C G : Nat → Int} (hF : fnR n r Q A B C G) {a b : Nat} (ha : a < n) (hb : b < n) (hab0 : a ≠ b) : fnR n r Q A (swp B a b) C (row (row G (28 + a) (G (28 + b))) (28 + b) (G (28 + a))) := by
  obtain ⟨f0, f2, f3, f4, f5, ⟨h7, h8, hc⟩, -, ⟨b1, b2, b3⟩, -⟩ := id hF
  have hn := f0.2.1
  unfold swp
  have e : ∀ t, row (row (B) a (B b)) b (B a) t = B (if t = b then a else if t = a then b else t) := by
    intro t
    show (if t = b then B a else if t = a then B b else B t) = _
    split
    · rfl
    · split <;> rfl
  have el : ∀ t, t < n → (if t = b then a else if t = a then b else t) < n := by
    intro t ht
    split
    · exact ha
    · split
      · exact hb
      · exact ht
  refine fnR_B hF ?_ ?_ ?_ ?_
  · intro t ht
    rw [row_o _ _ _ (by omega), row_o _ _ _ (by omega)]
  · intro t ht
    rw [e, b1 _ (el t ht)]
    show _ = (if 28 + t = 28 + b then G (28 + a) else if 28 + t = 28 + a then G (28 + b) else G (28 + t))
    by_cases t1 : t = b
    · rw [if_pos (show 28 + t = 28 + b by omega), if_pos t1]
    · rw [if_neg (show ¬ 28 + t = 28 + b by omega), if_neg t1]
      by_cases t2 : t = a
      · rw [if_pos (show 28 + t = 28 + a by omega), if_pos t2]
      · rw [if_neg (show ¬ 28 + t = 28 + a by omega), if_neg t2]
  · intro t ht
    rw [e]
    exact b2 _ (el t ht)
  · intro i t hi ht he
    rw [e, e] at he
    have h9 := b3 _ _ (el i hi) (el t ht) he
    have hab := hab0
    by_cases i1 : i = b
    · rw [if_pos i1] at h9
      by_cases t1 : t = b
      · omega
      · rw [if_neg t1] at h9
        by_cases t2 : t = a
        · rw [if_pos t2] at h9
          omega
        · rw [if_neg t2] at h9
          omega
    · rw [if_neg i1] at h9
      by_cases i2 : i = a
      · rw [if_pos i2] at h9
        by_cases t1 : t = b
        · rw [if_pos t1] at h9
          omega
        · rw [if_neg t1] at h9
          by_cases t2 : t = a
          · omega
          · rw [if_neg t2] at h9
            omega
      · rw [if_neg i2] at h9
        by_cases t1 : t = b
        · rw [if_pos t1] at h9
          omega
        · rw [if_neg t1] at h9
          by_cases t2 : t = a
          · rw [if_pos t2] at h9
            omega
          · rw [if_neg t2] at h9
            exact h9
theorem fnR_turn {n r Q : Nat} {A B C G : Nat → Int} (hF : fnR n r Q A B C G) {a o : Nat} (ha : a < n) (h6 : A 6 = o) : fnR n r Q (row A 6 (flp o (B a).toNat)) B C (row G (35 + (B a).toNat) (1 - G (35 + (B a).toNat))) ∧ flp o (B a).toNat < 128 := by
  have hb := fnR_o hF h6
  obtain ⟨f0, f2, f3, f4, f5, ⟨h7, h8, hc⟩, ⟨o1, o2, o3, o4⟩, ⟨b1, b2, b3⟩, -⟩ := id hF
  obtain rfl : o = o1 := by omega
  have hn := f0.2.1
  have ho := pow_lt hn o3
  obtain ⟨s, hs⟩ : ∃ s : Nat, B a = s := ⟨(B a).toNat, by have := b2 a ha; omega⟩
  have hsn : s < n := by have := b2 a ha; omega
  rw [hs, Int.toNat_natCast]
  have hl := flp_lt n (by omega) o ho o3 s (by omega) hsn
  refine ⟨fnR_6 (o1 := flp o s) hF ?_ ?_ ?_ hl ?_, pow_lt hn hl⟩
  · intro t ht
    rw [row_o _ _ _ ht]
  · intro t ht
    rw [row_o _ _ _ (by omega)]
  · rw [row_s]
  · intro t ht
    rw [flp_bt o ho s (by omega) t ht]
    have h01 := bt_01 o s
    by_cases e : t = s
    · subst e
      rw [row_s, if_pos rfl, o4 t ht]
      omega
    · rw [row_o _ _ _ (by omega), if_neg e, o4 t ht]
theorem mk_x2 {n r Q : Nat} {A B C G : Nat → Int} (hF : fnR n r Q A B C G) {o : Nat} (ho : A 6 = o) {v k : Nat} (hv : v < 4) (hk : k < n) {G2 : Nat → Int} (hG : ∀ j, j < 42 → G2 j = G j) : mkI n B C o v k = xm G2 (G2 (28 + (pl n v k).toNat)).toNat v := by
  have ho2 := fnR_o hF ho
  have hn := hF.1.2.1
  have hp := pl_in (v := v) hk
  have hb := hF.2.2.2.2.2.2.2.1
  have e1 := hb.1 (pl n v k).toNat (by omega)
  have e2 := hb.2.1 (pl n v k).toNat (by omega)
  have hs : (B (pl n v k).toNat).toNat < n := by omega
  have hl := (fnR_lm hF ho2 hs hv).1
  rw [hG _ (by omega), ← e1]
  have hx : xm G2 (B (pl n v k).toNat).toNat v = xm G (B (pl n v k).toNat).toNat v := by
    unfold xm
    rw [hG (35 + (B (pl n v k).toNat).toNat) (by omega)]
    split
    · rw [hG _ (by omega)]
    · rw [hG _ (by omega)]
  rw [hx, ← hl]
  unfold mkI
  rw [if_pos hp]
/-- which changes there are -/
def vld (n c : Nat) : Prop := c < n ∨ ∃ p q, p < q ∧ q < n ∧ c = 100 + 10 * p + q
def sgo (o : Nat) (B : Nat → Int) (c : Nat) : Nat := if c < 100 then flp o (B c).toNat else o
def sgB (B : Nat → Int) (c : Nat) : Nat → Int := if c < 100 then B else swp B ((c - 100) / 10) (c % 10)
/-- what is seen when a change is made -/
def sgc (n o : Nat) (B C : Nat → Int) (c v : Nat) (k : Int) : Int := mkI n (sgB B c) C (sgo o B c) v k
def sgA (o : Nat) (A B : Nat → Int) (c : Nat) : Nat → Int := if c < 100 then row A 6 (flp o (B c).toNat) else A
def sgG (B G : Nat → Int) (c : Nat) : Nat → Int := if c < 100 then row G (35 + (B c).toNat) (1 - G (35 + (B c).toNat)) else row (row G (28 + (c - 100) / 10) (G (28 + c % 10))) (28 + c % 10) (G (28 + (c - 100) / 10))
theorem fnR_sg {n r Q : Nat} {A B C G : Nat → Int} (hF : fnR n r Q A B C G) {o c : Nat} (h6 : A 6 = o) (hc : vld n c) : fnR n r Q (sgA o A B c) (sgB B c) C (sgG B G c) ∧ sgA o A B c 6 = sgo o B c ∧ sgo o B c < 128 := by
  have hn := hF.1.2.1
  obtain ⟨o1, h1, -, -, ho, -⟩ := fnR_k hF
  have ho2 : o < 128 := by
    have e1 := h1.2.2.1
    have e2 := h1.2.2.2
    omega
  unfold sgA sgB sgG sgo
  rcases hc with h | ⟨p, q, h1, h2, rfl⟩
  · rw [if_pos (by omega), if_pos (by omega), if_pos (by omega), if_pos (by omega)]
    have h3 := fnR_turn hF h h6
    exact ⟨h3.1, by rw [row_s], h3.2⟩
  · rw [if_neg (by omega), if_neg (by omega), if_neg (by omega), if_neg (by omega), show (100 + 10 * p + q - 100) / 10 = p by omega, show (100 + 10 * p + q) % 10 = q by omega]
    exact ⟨fnR_swap hF (by omega) h2 (by omega), h6, ho2⟩
theorem swp_swp {B : Nat → Int} {a b : Nat} (h : a ≠ b) : swp (swp B a b) a b = B := by
  funext t
  unfold swp
  by_cases t1 : t = b
  · subst t1
    rw [row_s, row_o _ _ _ h, row_s]
  · by_cases t2 : t = a
    · subst t2
      rw [row_o _ _ _ t1, row_s, row_s]
    · rw [row_o _ _ _ t1, row_o _ _ _ t2, row_o _ _ _ t1, row_o _ _ _ t2]
theorem flp_flp : ∀ o : Nat, o < 128 → ∀ s : Nat, s < 7 → flp (flp o s) s = o := by decide +kernel
/-- the class's fan 172 with the change made -/
def mkF (m : Nat → Nat → Int) (o c : Nat) : Nat → Nat → Int := row (row m 172 (sgA o (m 172) (m 173) c)) 173 (sgB (m 173) c)
theorem mkF_o {m : Nat → Nat → Int} {o c a : Nat} (h : a ≠ 172) (h2 : a ≠ 173) : mkF m o c a = m a := by
  unfold mkF
  rw [row_o _ _ _ h2, row_o _ _ _ h]
theorem mkF_2 {m : Nat → Nat → Int} {o c : Nat} : mkF m o c 172 = sgA o (m 172) (m 173) c := by
  unfold mkF
  rw [row_o _ _ _ (by decide), row_s]
theorem mkF_3 {m : Nat → Nat → Int} {o c : Nat} : mkF m o c 173 = sgB (m 173) c := by
  unfold mkF
  rw [row_s]
theorem row_id {m : Nat → Nat → Int} {x y : Nat} {g : Nat → Int} (h : y ≠ x) : row (row m x g) y (m y) = row m x g := by
  have := row_self (row m x g) y
  rw [row_o _ _ _ h] at this
  exact this
theorem f172 : iFan 172 := (by decide +kernel : 172 ∈ fanIds)
theorem sd10 : ∀ p : Nat, p < 7 → ∀ q : Nat, q < 7 → zDiv (100 + 10 * (p : Int) + q - 100) 10 = (p : Int) ∧ zRem (100 + 10 * (p : Int) + q) 10 = (q : Int) := by decide +kernel
section S
variable {d n : Nat} {m : Nat → Nat → Int} {q : Nat → Nat → Option Nat} {w : Option (Nat → Int64)} {r Q o : Nat} {G : Nat → Int}
theorem T_52 (hd : 4 ≤ d) (hF : fnR n r Q (m 172) (m 173) (m 174) G) (h6 : m 172 6 = o) (h7 : m 172 7 = -1) {c : Nat} (hc : vld n c) : ev d 52 [.ref 171, .int (iI (c : Int))] (mk m q w) = vV (mk (mkF m o c) q w) := by
  have hn := hF.1.2.1
  have hb := hF.2.2.2.2.2.2.2.1.2.1
  obtain ⟨o1, h1, -, -, ho, -⟩ := fnR_k hF
  have ho2 : o < 128 := by
    have e1 := h1.2.2.1
    have e2 := h1.2.2.2
    omega
  rw [e_52 (by omega) _ rfl rfl, b_52_0]
  unfold mkF sgA sgB
  rcases hc with h | ⟨p, p2, h2, h3, rfl⟩
  · have hbc := hb c h
    rw [if_pos (by rw [iI_lt (by omega) (by omega)]; omega), if_pos (by omega), if_pos (by omega), T_46 (by omega) f172 (by omega) hF.1.1 hn (by omega), if_pos ⟨h7, by omega⟩]
    simp only [rBd_v, Option.toList_some, Option.toList_none, List.cons_append, List.nil_append, List.append_nil]
    obtain ⟨s, hs⟩ : ∃ s : Nat, m 173 c = s := ⟨(m 173 c).toNat, by omega⟩
    rw [b_52_14, b_52_37, h6, Int.toNat_natCast, show (172 : Nat) + 1 = 173 from rfl, hs, flp_ok o ho2 _ (by omega), Int.toNat_natCast]
    unfold wr
    rw [row_id (show 173 ≠ 172 by decide)]
  · have hs := sd10 p (by omega) p2 (by omega)
    rw [show ((100 + 10 * p + p2 : Nat) : Int) = 100 + 10 * (p : Int) + p2 by omega, if_neg (by rw [iI_lt (by omega) (by omega)]; omega), if_neg (by omega), if_neg (by omega), hs.1, hs.2, T_45 (by omega) f172 (by omega) hF.1.1 hn (by omega) (by omega), if_pos ⟨h7, by omega, by omega, by omega⟩]
    simp only [rBd_v, Option.toList_some, Option.toList_none, List.cons_append, List.nil_append, List.append_nil]
    rw [b_52_36, b_52_37, show (100 + 10 * p + p2 - 100) / 10 = p by omega, show (100 + 10 * p + p2) % 10 = p2 by omega, Int.toNat_natCast, Int.toNat_natCast, row_self]
    unfold wr swp
    rw [row_s, row_row]
theorem mkF_mkF (hF : fnR n r Q (m 172) (m 173) (m 174) G) (h6 : m 172 6 = o) {c : Nat} (hc : vld n c) : mkF (mkF m o c) (sgo o (m 173) c) c = m := by
  have hn := hF.1.2.1
  have hb := hF.2.2.2.2.2.2.2.1.2.1
  obtain ⟨o1, h1, -, -, ho, -⟩ := fnR_k hF
  have ho2 : o < 128 := by
    have e1 := h1.2.2.1
    have e2 := h1.2.2.2
    omega
  have key : sgA (sgo o (m 173) c) (sgA o (m 172) (m 173) c) (sgB (m 173) c) c = m 172 ∧ sgB (sgB (m 173) c) c = m 173 := by
    unfold sgA sgB sgo
    rcases hc with h | ⟨p, p2, h2, h3, rfl⟩
    · have hbc := hb c h
      rw [if_pos (by omega), if_pos (by omega), if_pos (by omega), if_pos (by omega), if_pos (by omega)]
      refine ⟨?_, rfl⟩
      rw [flp_flp o ho2 _ (by omega)]
      funext t
      by_cases e : t = 6
      · subst e
        rw [row_s, h6]
      · rw [row_o _ _ _ e, row_o _ _ _ e]
    · rw [if_neg (by omega), if_neg (by omega), if_neg (by omega), if_neg (by omega)]
      rw [show (100 + 10 * p + p2 - 100) / 10 = p by omega, show (100 + 10 * p + p2) % 10 = p2 by omega]
      exact ⟨rfl, swp_swp (by omega)⟩
  funext a
  unfold mkF
  by_cases a1 : a = 173
  · subst a1
    rw [row_s, row_s]
    exact key.2
  · rw [row_o _ _ _ a1]
    by_cases a2 : a = 172
    · subst a2
      rw [row_s, row_o _ _ _ (by decide), row_s, row_s]
      exact key.1
    · rw [row_o _ _ _ a2, row_o _ _ _ a1, row_o _ _ _ a2]
/-- made, and made again: as it was -/
theorem T_52b (hd : 4 ≤ d) (hF : fnR n r Q (m 172) (m 173) (m 174) G) (h6 : m 172 6 = o) (h7 : m 172 7 = -1) {c : Nat} (hc : vld n c) : ev d 52 [.ref 171, .int (iI (c : Int))] (mk (mkF m o c) q w) = vV (mk m q w) := by
  obtain ⟨h1, h2, h3⟩ := fnR_sg hF h6 hc
  have hT := T_52 (d := d) (m := mkF m o c) (q := q) (w := w) (n := n) (r := r) (Q := Q) (o := sgo o (m 173) c) (G := sgG (m 173) G c) hd (by rw [mkF_2, mkF_3, mkF_o (by decide) (by decide)]; exact h1) (by rw [mkF_2]; exact h2) (by
    rw [mkF_2]
    unfold sgA
    split
    · rw [row_o _ _ _ (by decide)]
      exact h7
    · exact h7) hc
  rw [hT, mkF_mkF hF h6 hc]
theorem mkF_k (hF : fnR n r Q (m 172) (m 173) (m 174) G) (h6 : m 172 6 = o) {c : Nat} (hc : vld n c) : fk (mkF m o c 172) n (sgo o (m 173) c) ∧ fl (mkF m o c 173) n ∧ (∀ i, i < 28 → i32 (m 174 i)) := by
  obtain ⟨h1, h2, h3⟩ := fnR_sg hF h6 hc
  obtain ⟨o2, k1, k2, k3, -, -⟩ := fnR_k h1
  rw [mkF_2, mkF_3]
  have e := k1.2.2.1
  exact ⟨⟨k1.1, k1.2.1, h2, h3⟩, k2, k3⟩
/-! a book is right for a fan -/
abbrev ftP (z : Nat) (V S K : Nat → Int) (g : Nat → Int → Int) : Prop := ∀ i : Nat, i < z → 0 ≤ i → g (V i).toNat (S i) = K i
theorem L_20 (hd : 5 ≤ d) {x b z : Nat} (hx : iFan x) (hb : iBook b) (hk : fk (m x) n o) (hl : fl (m (x + 1)) n) (hC : ∀ i, i < 28 → i32 (m (x + 2) i)) (hz : m b 3 = z) (hz7 : z ≤ 7) (hV : ∀ i, i < z → (0 ≤ m (b + 1) i ∧ m (b + 1) i ≤ 3) ∧ (0 ≤ m (b + 2) i ∧ m (b + 2) i ≤ 6) ∧ (0 ≤ m (b + 3) i ∧ m (b + 3) i ≤ 15)) : ∀ (g k : Nat), k + g = z → gv d rR20 2 [some (.ref b), some (.ref x), some (.int (iI (k : Int)))] [] (mk m q w) = vI (zb (∀ i : Nat, i < z → k ≤ i → mkI n (m (x + 1)) (m (x + 2)) o (m (b + 1) i).toNat (m (b + 2) i) = m (b + 3) i)) (mk m q w) := by
  intro g
  induction g with
  | zero =>
    intro k hg
    rw [b_20_2 hx hb, hz, if_neg (by rw [iI_lt (by omega) (by omega)]; omega), zb_t (fun i h1 h2 => by omega)]
  | succ g ih =>
    intro k hg
    obtain ⟨v1, v2, v3⟩ := hV k (by omega)
    rw [b_20_2 hx hb, hz, if_pos (by rw [iI_lt (by omega) (by omega)]; omega), b_20_10 hx hb (by omega) (by omega), Int.toNat_natCast, show iI (m (b + 1) k) = iI (((m (b + 1) k).toNat : Nat) : Int) by rw [Int.toNat_of_nonneg v1.1], T_19 (by omega) hx hk hl (by omega) v2.1 (by omega)]
    simp only [rBd_v, Option.toList_some, Option.toList_none, List.cons_append, List.nil_append, List.append_nil]
    rw [b_20_26 hx hb (by omega) (by omega), Int.toNat_natCast]
    simp only [iI_eq (mk_i (n := n) (o := o) hC hl (show (m (b + 1) k).toNat < 4 by omega) (k := m (b + 2) k)) (show i32 (m (b + 3) k) by omega)]
    by_cases c : mkI n (m (x + 1)) (m (x + 2)) o (m (b + 1) k).toNat (m (b + 2) k) = m (b + 3) k
    · rw [if_pos c, show (k : Int) + 1 = ((k + 1 : Nat) : Int) from rfl, ih (k + 1) (by omega)]
      refine congrArg (fun y => vI y (mk m q w)) (zb_iff ⟨fun y i h1 h2 => ?_, fun y i h1 h2 => y i h1 (by omega)⟩)
      by_cases e : i = k
      · rw [e]
        exact c
      · exact y i h1 (by omega)
    · rw [if_neg c, zb_f (fun y => c (y k (by omega) (Nat.le_refl _)))]
theorem T_20 (hd : 6 ≤ d) {x b z : Nat} (hx : iFan x) (hb : iBook b) (hk : fk (m x) n o) (hl : fl (m (x + 1)) n) (hC : ∀ i, i < 28 → i32 (m (x + 2) i)) (hz : m b 3 = z) (hz7 : z ≤ 7) (hV : ∀ i, i < z → (0 ≤ m (b + 1) i ∧ m (b + 1) i ≤ 3) ∧ (0 ≤ m (b + 2) i ∧ m (b + 2) i ≤ 6) ∧ (0 ≤ m (b + 3) i ∧ m (b + 3) i ≤ 15)) : ev d 20 [.ref b, .ref x] (mk m q w) = vI (zb (ftP z (m (b + 1)) (m (b + 2)) (m (b + 3)) (fun v k => mkI n (m (x + 1)) (m (x + 2)) o v k))) (mk m q w) := by
  rw [e_20 (by omega) _ rfl rfl, b_20_0 hx hb, show iI 0 = iI ((0 : Nat) : Int) from rfl, L_20 (by omega) hx hb hk hl hC hz hz7 hV z 0 (by omega)]
end S
