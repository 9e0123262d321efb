/-! ===== the search of the class ===== -/
theorem an2 : ∀ a : Nat, a < 4 → zAnd (a : Int) 2 = ((2 * bt a 1 : Nat) : Int) := by decide +kernel
def okB (al : Nat → Nat → Nat) (B : Nat → Nat) (p j : Nat) : Bool := decide (al p (B j) ≠ 0)
def tB (al : Nat → Nat → Nat) (o : Nat) (B : Nat → Nat) (p j : Nat) : Int := if bt (al p (B j)) (bt o (B j)) = 1 then 0 else 1
theorem tB_01 {al : Nat → Nat → Nat} {o : Nat} {B : Nat → Nat} (p j : Nat) : 0 ≤ tB al o B p j ∧ tB al o B p j ≤ 1 := by
  unfold tB
  split <;> omega
theorem rest96 (m : Nat → Nat → Int) (p i : Nat) (b c : Int) : wr (wr (wr (wr (wr (wr m 164 5 b) 170 i (m 170 p)) 170 p (m 170 i)) 164 5 c) 170 p (wr (wr (wr (wr m 164 5 b) 170 i (m 170 p)) 170 p (m 170 i)) 164 5 c 170 i)) 170 i (m 170 i) = wr m 164 5 c := by
  funext x j
  by_cases h : x = 170
  · subst h
    rw [wr_o m 164 5 c (show 170 ≠ 164 by decide)]
    by_cases h1 : j = i
    · subst h1
      rw [wr_s]
    · rw [wr_b _ _ _ _ h1]
      by_cases h2 : j = p
      · subst h2
        rw [wr_s, wr_o _ _ _ _ (show 170 ≠ 164 by decide), wr_b _ _ _ _ (Ne.symm h1), wr_s]
      · rw [wr_b _ _ _ _ h2, wr_o _ _ _ _ (show 170 ≠ 164 by decide), wr_b _ _ _ _ h2, wr_b _ _ _ _ h1, wr_o _ _ _ _ (show 170 ≠ 164 by decide)]
  · rw [wr_o _ _ _ _ h, wr_o _ _ _ _ h]
    by_cases h3 : x = 164
    · subst h3
      by_cases h4 : j = 5
      · subst h4
        rw [wr_s, wr_s]
      · rw [wr_b _ _ _ _ h4, wr_o _ _ _ _ h, wr_o _ _ _ _ h, wr_b _ _ _ _ h4, wr_b _ _ _ _ h4]
    · rw [wr_o _ _ _ _ h3, wr_o _ _ _ _ h, wr_o _ _ _ _ h, wr_o _ _ _ _ h3, wr_o _ _ _ _ h3]
section S
variable {d n : Nat} {m : Nat → Nat → Int} {q : Nat → Nat → Option Nat} {w : Option (Nat → Int64)} {al : Nat → Nat → Nat} {o : Nat} {B : Nat → Nat}
/-- what the search asks of the memory -/
def wSt (m : Nat → Nat → Int) (n o : Nat) (al : Nat → Nat → Nat) : Prop := m 164 1 = n ∧ n ≤ 7 ∧ fk (m 165) n o ∧ ∀ t s, t < n → s < n → m 168 (7 * t + s) = al t s ∧ al t s < 4
theorem wSt_o {m1 : Nat → Nat → Int} (h : wSt m n o al) (h1 : m1 164 1 = m 164 1) (h5 : m1 165 = m 165) (h8 : m1 168 = m 168) : wSt m1 n o al := by
  unfold wSt at *
  rw [h1, h5, h8]
  exact h
theorem T_96 (hB : pmt n B) : ∀ (g d : Nat) (m : Nat → Nat → Int) (τ : Nat → Nat) (μ β : Int), g ≤ n → 20 + g ≤ d → wSt m n o al → pmt n τ → (∀ j, j < n → m 170 j = (B (τ j) : Int)) → m 164 5 = β → 0 ≤ μ ∧ μ ≤ 2 * ((n : Int) - g) → 0 ≤ β ∧ β ≤ 1000 →
    ev d 96 [.ref 164, .int (iI ((n - g : Nat) : Int)), .int (iI μ)] (mk m q w) = vV (mk (wr m 164 5 (sB (okB al B) (tB al o B) n g τ μ β)) q w) := by
  intro g
  induction g with
  | zero =>
    intro d m τ μ β hg hd hW hτ hor h5 hμ hβ
    have hn7 := hW.2.1
    rw [e_96 (by omega) _ rfl rfl rfl, b_96_0, h5, hW.1]
    unfold sB
    simp only [iI_lt (show i32 μ by omega) (show i32 β by omega)]
    by_cases c : μ < β
    · rw [if_pos c, if_neg (by rw [iI_lt (by omega) (by omega)]; omega), if_pos c]
    · rw [if_neg c, if_neg c, wr_self h5]
  | succ g ih =>
    intro d m τ μ β hg hd hW hτ hor h5 hμ hβ
    obtain ⟨w1, hn7, w2, w3⟩ := hW
    obtain ⟨p, hp⟩ : ∃ p, p = n - (g + 1) := ⟨_, rfl⟩
    have hpn : p < n := by omega
    rw [← hp]
    rw [e_96 (by omega) _ rfl rfl rfl, b_96_0, h5, w1]
    simp only [iI_lt (show i32 μ by omega) (show i32 β by omega)]
    unfold sB
    rw [← hp]
    by_cases c : μ < β
    · rw [if_pos c, if_pos c, if_pos (by rw [iI_lt (by omega) (by omega)]; omega)]
      have hloop : ∀ (h i : Nat) (b : Int) (u4 u5 u6 u7 u8 : Option Value), i + h = n → p ≤ i → 0 ≤ b ∧ b ≤ 1000 → gv (d - 1) rR96 25 [some (.ref 164), some (.int (iI (p : Int))), some (.int (iI μ)), some (.int (iI (i : Int))), u4, u5, u6, u7, u8] [] (mk (wr m 164 5 b) q w) = vV (mk (wr m 164 5 (sF (fun i β => if okB al B p (τ i) = true then sB (okB al B) (tB al o B) n g (sw2 τ p i) (μ + tB al o B p (τ i) + (if i = p then 0 else 1)) β else β) h i b)) q w) := by
        intro h
        induction h with
        | zero =>
          intro i b u4 u5 u6 u7 u8 hi hpi hb
          rw [b_96_25, wr_b _ _ _ _ (by decide), w1, if_neg (by rw [iI_lt (by omega) (by omega)]; omega)]
          rfl
        | succ h ihh =>
          intro i b u4 u5 u6 u7 u8 hi hpi hb
          have hτi := hτ.1 i (by omega)
          have hBi := hB.1 (τ i) hτi
          obtain ⟨a1, a2⟩ := w3 p (B (τ i)) hpn hBi
          have h170 := hor i (by omega)
          have t01 := tB_01 (al := al) (o := o) (B := B) p (τ i)
          rw [b_96_25, wr_b _ _ _ _ (by decide), w1, if_pos (by rw [iI_lt (by omega) (by omega)]; omega), b_96_33 (by omega) (by omega), Int.toNat_natCast, wr_o _ _ _ _ (by decide), h170, T_91 (by omega) (by omega) (by omega), wr_o _ _ _ _ (by decide), a1]
          simp only [rBd_v, Option.toList_some, Option.toList_none, List.cons_append, List.nil_append, List.append_nil]
          rw [b_96_48]
          simp only [iI_eq (show i32 ((al p (B (τ i)) : Nat) : Int) by omega) (show i32 0 by omega)]
          rw [show sF (fun i β => if okB al B p (τ i) = true then sB (okB al B) (tB al o B) n g (sw2 τ p i) (μ + tB al o B p (τ i) + (if i = p then 0 else 1)) β else β) (h + 1) i b = sF (fun i β => if okB al B p (τ i) = true then sB (okB al B) (tB al o B) n g (sw2 τ p i) (μ + tB al o B p (τ i) + (if i = p then 0 else 1)) β else β) h (i + 1) (if okB al B p (τ i) = true then sB (okB al B) (tB al o B) n g (sw2 τ p i) (μ + tB al o B p (τ i) + (if i = p then 0 else 1)) b else b) from rfl]
          by_cases c0 : al p (B (τ i)) = 0
          · have hok : okB al B p (τ i) = false := decide_eq_false (not_not_intro c0)
            rw [if_pos (by omega), b_96_158, show (i : Int) + 1 = ((i + 1 : Nat) : Int) from rfl, ihh (i + 1) b _ _ _ _ _ (by omega) (by omega) hb, hok]
            rfl
          · have hok : okB al B p (τ i) = true := decide_eq_true c0
            rw [if_neg (by omega), T_14 (by omega) fan_165 (by rw [wr_o _ _ _ _ (by decide)]; exact w2) (by omega)]
            simp only [rBd_v, Option.toList_some, Option.toList_none, List.cons_append, List.nil_append, List.append_nil]
            rw [b_96_67]
            simp only [zb_0]
            rw [hok, if_pos rfl]
            have hb01 := bt_01 o (B (τ i))
            have key90 : ∀ (tv : Int) (u6 u7 u8 : Option Value), tv = tB al o B p (τ i) → gv (d - 1) rR96 90 [some (.ref 164), some (.int (iI (p : Int))), some (.int (iI μ)), some (.int (iI (i : Int))), some (.int (iI ((B (τ i) : Nat) : Int))), some (.int (iI ((al p (B (τ i)) : Nat) : Int))), u6, u7, u8] [.int (iI tv)] (mk (wr m 164 5 b) q w) = vV (mk (wr m 164 5 (sF (fun i β => if okB al B p (τ i) = true then sB (okB al B) (tB al o B) n g (sw2 τ p i) (μ + tB al o B p (τ i) + (if i = p then 0 else 1)) β else β) h (i + 1) (sB (okB al B) (tB al o B) n g (sw2 τ p i) (μ + tB al o B p (τ i) + (if i = p then 0 else 1)) b))) q w) := by
              intro tv u6 u7 u8 htv
              subst htv
              have key102 : ∀ (sv : Int) (u6 u8 : Option Value), sv = (if i = p then 0 else 1) → gv (d - 1) rR96 102 [some (.ref 164), some (.int (iI (p : Int))), some (.int (iI μ)), some (.int (iI (i : Int))), some (.int (iI ((B (τ i) : Nat) : Int))), some (.int (iI ((al p (B (τ i)) : Nat) : Int))), u6, some (.int (iI (tB al o B p (τ i)))), u8] [.int (iI sv)] (mk (wr m 164 5 b) q w) = vV (mk (wr m 164 5 (sF (fun i β => if okB al B p (τ i) = true then sB (okB al B) (tB al o B) n g (sw2 τ p i) (μ + tB al o B p (τ i) + (if i = p then 0 else 1)) β else β) h (i + 1) (sB (okB al B) (tB al o B) n g (sw2 τ p i) (μ + tB al o B p (τ i) + (if i = p then 0 else 1)) b))) q w) := by
                intro sv u6 u8 hsv
                have hsv01 : 0 ≤ sv ∧ sv ≤ 1 := by
                  rw [hsv]
                  split <;> omega
                rw [← hsv]
                have hI := ih (d - 1) (wr (wr (wr m 164 5 b) 170 i (m 170 p)) 170 p (m 170 i)) (sw2 τ p i) (μ + tB al o B p (τ i) + sv) b (by omega) (by omega) (wSt_o ⟨w1, hn7, w2, w3⟩ (by rw [wr_o _ _ _ _ (by decide), wr_o _ _ _ _ (by decide), wr_b _ _ _ _ (by decide)]) (by rw [wr_o _ _ _ _ (by decide), wr_o _ _ _ _ (by decide), wr_o _ _ _ _ (by decide)]) (by rw [wr_o _ _ _ _ (by decide), wr_o _ _ _ _ (by decide), wr_o _ _ _ _ (by decide)])) (sw2_pmt hτ hpn (by omega)) (fun j hj => by
                  unfold sw2
                  by_cases e1 : j = p
                  · subst e1
                    rw [wr_s, if_pos rfl, h170]
                  · rw [wr_b _ _ _ _ e1, if_neg e1]
                    by_cases e2 : j = i
                    · subst e2
                      rw [wr_s, if_pos rfl]
                      exact hor p hpn
                    · rw [wr_b _ _ _ _ e2, if_neg e2, wr_o _ _ _ _ (by decide)]
                      exact hor j hj) (by rw [wr_o _ _ _ _ (by decide), wr_o _ _ _ _ (by decide), wr_s]) (by omega) hb
                rw [show n - g = p + 1 by omega] at hI
                have hsb := sB_le (ok := okB al B) (t := tB al o B) (n := n) g (sw2 τ p i) (μ + tB al o B p (τ i) + sv) b
                have hsb0 := sB_ge (ok := okB al B) (t := tB al o B) (n := n) (fun p i => (tB_01 p i).1) g (sw2 τ p i) (μ + tB al o B p (τ i) + sv) b (by omega) (by omega)
                rw [b_96_102 (by omega) (by omega) (by omega) (by omega), Int.toNat_natCast, Int.toNat_natCast, wr_o m 164 5 b (show 170 ≠ 164 by decide), ← h170, show (p : Int) + 1 = ((p + 1 : Nat) : Int) from rfl, hI]
                simp only [rBd_v, Option.toList_some, Option.toList_none, List.cons_append, List.nil_append, List.append_nil]
                rw [b_96_138 (by omega) (by omega) (by omega) (by omega), Int.toNat_natCast, Int.toNat_natCast, rest96, b_96_158, show (i : Int) + 1 = ((i + 1 : Nat) : Int) from rfl, ihh (i + 1) _ _ _ _ _ _ (by omega) (by omega) (by omega)]
              rw [b_96_90]
              simp only [iI_eq (show i32 (i : Int) by omega) (show i32 (p : Int) by omega)]
              by_cases cp : i = p
              · rw [if_pos (by omega), key102 0 _ _ (by rw [if_pos cp])]
              · rw [if_neg (by omega), key102 1 _ _ (by rw [if_neg cp])]
            have e1 := an1 _ a2
            have e2 := an2 _ a2
            have hx0 := bt_01 (al p (B (τ i))) 0
            have hx1 := bt_01 (al p (B (τ i))) 1
            by_cases co : bt o (B (τ i)) = 1
            · rw [if_neg (not_not_intro co), b_96_75, e2]
              simp only [iI_eq (show i32 ((2 * bt (al p (B (τ i))) 1 : Nat) : Int) by omega) (show i32 0 by omega)]
              by_cases cb : bt (al p (B (τ i))) 1 = 1
              · rw [if_neg (by omega), key90 0 _ _ _ (by unfold tB; rw [co, if_pos cb])]
              · rw [if_pos (by omega), key90 1 _ _ _ (by unfold tB; rw [co, if_neg cb])]
            · have co0 : bt o (B (τ i)) = 0 := by omega
              rw [if_pos co, b_96_75, e1]
              simp only [iI_eq (show i32 ((bt (al p (B (τ i))) 0 : Nat) : Int) by omega) (show i32 0 by omega)]
              by_cases cb : bt (al p (B (τ i))) 0 = 1
              · rw [if_neg (by omega), key90 0 _ _ _ (by unfold tB; rw [co0, if_pos cb])]
              · rw [if_pos (by omega), key90 1 _ _ _ (by unfold tB; rw [co0, if_neg cb])]
      have h0 := hloop (g + 1) p β none none none none none (by omega) (Nat.le_refl _) hβ
      rw [wr_self h5] at h0
      exact h0
    · rw [if_neg c, if_neg c, wr_self h5]
theorem T_97 (hd : 40 ≤ d) (hB : pmt n B) (hW : wSt m n o al) (h166 : ∀ j, j < n → m 166 j = (B j : Int)) : ∃ R : Nat → Int, ev d 97 [.ref 164] (mk m q w) = vI (sB (okB al B) (tB al o B) n n id 0 1000) (mk (wr (row m 170 R) 164 5 (sB (okB al B) (tB al o B) n n id 0 1000)) q w) := by
  have hn7 := hW.2.1
  refine ⟨fun j => if (Int.toNat 0) ≤ j ∧ j < (Int.toNat 0) + (Int.toNat (((7 : Nat) : Int))) then m 166 ((Int.toNat 0) + (j - (Int.toNat 0))) else m 170 j, ?_⟩
  · have hT := T_96 (q := q) (w := w) (al := al) (o := o) hB n (d - 1) (wr (row m 170 (fun j => if (Int.toNat 0) ≤ j ∧ j < (Int.toNat 0) + (Int.toNat (((7 : Nat) : Int))) then m 166 ((Int.toNat 0) + (j - (Int.toNat 0))) else m 170 j)) 164 5 1000) id 0 1000 (Nat.le_refl _) (by omega) (wSt_o hW (by rw [wr_b _ _ _ _ (by decide), row_o _ _ _ (by decide)]) (by rw [wr_o _ _ _ _ (by decide), row_o _ _ _ (by decide)]) (by rw [wr_o _ _ _ _ (by decide), row_o _ _ _ (by decide)])) ⟨fun i hi => hi, fun i j _ _ e => e⟩ (fun j hj => by
      rw [wr_o _ _ _ _ (by decide), row_s, if_pos ⟨Nat.zero_le _, by show j < 0 + 7; omega⟩]
      show m 166 (0 + (j - 0)) = _
      rw [Nat.zero_add, Nat.sub_zero]
      exact h166 j hj) (wr_s _ _ _ _) (by omega) (by omega)
    rw [Nat.sub_self, show iI ((0 : Nat) : Int) = iI 0 from rfl] at hT
    rw [e_97 (by omega) _ rfl, b_97_0 (by omega)]
    rw [hT]
    simp only [rBd_v, Option.toList_some, Option.toList_none, List.cons_append, List.nil_append, List.append_nil]
    rw [b_97_34, wr_s, ww2]
end S
/-! that there is a way at all -/
theorem set_t : ∀ x : Nat, x < 128 → ∀ s : Nat, s < 7 → bt x s = 0 → pc (x + 2 ^ s) = pc x + 1 := by decide +kernel
theorem set_u : ∀ x : Nat, x < 128 → ∀ s : Nat, s < 7 → bt x s = 0 → ∀ t : Nat, t < 7 → bt (x + 2 ^ s) t = if t = s then 1 else bt x t := by decide +kernel
theorem way_of {al : Nat → Nat → Nat} {n : Nat} (hn7 : n ≤ 7) (hal : ∀ t s, t < n → s < n → al t s < 4) : ∀ (g t x : Nat), t + g = n → x < 2 ^ n → pc x = t → 0 < wW al n (2 ^ n - 1 - x) → ∃ π : Nat → Nat, (∀ p, t ≤ p → p < n → π p < n ∧ bt x (π p) = 0 ∧ al p (π p) ≠ 0) ∧ ∀ i j, t ≤ i → i < n → t ≤ j → j < n → π i = π j → i = j := by
  have hpw := pw_lt n (by omega)
  intro g
  induction g with
  | zero =>
    intro t x hg _ _ _
    exact ⟨id, fun p h1 h2 => by omega, fun i j h1 h2 => by omega⟩
  | succ g ih =>
    intro t x hg hx hpx hpos
    have hc := set_c n (by omega) x (by omega) hx
    have hne : 0 < 2 ^ n - 1 - x := by
      refine Nat.pos_of_ne_zero (fun e => ?_)
      rw [e] at hc
      have : pc 0 = 0 := rfl
      omega
    obtain ⟨s, hs, h1, -⟩ := wW_ex hn7 hal hne (by omega) hpos
    rw [show n - pc (2 ^ n - 1 - x) = t by omega] at h1
    have hb := set_b n (by omega) x (by omega) hx s (by omega) hs
    have h3 := h1.1
    have hb0 : bt x s = 0 := by
      have := bt_01 x s
      omega
    have hi := (set_i n (by omega) x (by omega) hx s hs).resolve_left (by omega)
    obtain ⟨π, p1, p2⟩ := ih (t + 1) (x + 2 ^ s) (by omega) hi (by rw [set_t x (by omega) s (by omega) hb0]; omega) (by
      rw [show 2 ^ n - 1 - (x + 2 ^ s) = 2 ^ n - 1 - x - 2 ^ s by omega]
      exact h1.2.2)
    have hu := set_u x (by omega) s (by omega) hb0
    have hπ : ∀ p, t + 1 ≤ p → p < n → π p ≠ s ∧ bt x (π p) = 0 := by
      intro p h4 h5
      obtain ⟨q1, q2, q3⟩ := p1 p h4 h5
      rw [hu (π p) (by omega)] at q2
      by_cases e : π p = s
      · rw [if_pos e] at q2
        omega
      · rw [if_neg e] at q2
        exact ⟨e, q2⟩
    refine ⟨fun p => if p = t then s else π p, fun p h4 h5 => ?_, fun i j h4 h5 h6 h7 he => ?_⟩
    · by_cases e : p = t
      · show (if p = t then s else π p) < n ∧ bt x (if p = t then s else π p) = 0 ∧ al p (if p = t then s else π p) ≠ 0
        rw [if_pos e, e]
        exact ⟨hs, hb0, h1.2.1⟩
      · show (if p = t then s else π p) < n ∧ bt x (if p = t then s else π p) = 0 ∧ al p (if p = t then s else π p) ≠ 0
        rw [if_neg e]
        exact ⟨(p1 p (by omega) h5).1, (hπ p (by omega) h5).2, (p1 p (by omega) h5).2.2⟩
    · have he : (if i = t then s else π i) = (if j = t then s else π j) := he
      by_cases e1 : i = t
      · by_cases e2 : j = t
        · omega
        · rw [if_pos e1, if_neg e2] at he
          exact absurd he.symm (hπ j (by omega) h7).1
      · by_cases e2 : j = t
        · rw [if_neg e1, if_pos e2] at he
          exact absurd he (hπ i (by omega) h5).1
        · rw [if_neg e1, if_neg e2] at he
          exact p2 i j (by omega) h5 (by omega) h7 he
/-- the set of what lies from a place on -/
def sOf (π : Nat → Nat) (n : Nat) : Nat → Nat
  | 0 => 0
  | g + 1 => sOf π n g + 2 ^ (π (n - (g + 1)))
theorem sI_one {f : Nat → Int} : ∀ (g k j : Nat), (∀ i, k ≤ i → i < k + g → 0 ≤ f i) → k ≤ j → j < k + g → f j ≤ sI f g k := by
  intro g
  induction g with
  | zero => intro k j _ h1 h2; omega
  | succ g ih =>
    intro k j hf h1 h2
    have h3 := hf k (by omega) (by omega)
    unfold sI
    by_cases e : j = k
    · subst e
      have : ∀ (g k : Nat), (∀ i, k ≤ i → i < k + g → 0 ≤ f i) → 0 ≤ sI f g k := by
        intro g
        induction g with
        | zero => exact fun k _ => Int.le_refl _
        | succ g ih2 =>
          intro k h
          have h5 := h k (by omega) (by omega)
          have h6 := ih2 (k + 1) (fun i a b => h i (by omega) (by omega))
          unfold sI
          omega
      have := this g (j + 1) (fun i a b => hf i (by omega) (by omega))
      omega
    · have := ih (k + 1) j (fun i a b => hf i (by omega) (by omega)) (by omega) (by omega)
      omega
theorem way_to {al : Nat → Nat → Nat} {n : Nat} (hn7 : n ≤ 7) (hal : ∀ t s, t < n → s < n → al t s < 4) {π : Nat → Nat} (hπ : pmt n π) (hok : ∀ p, p < n → al p (π p) ≠ 0) : ∀ g, g ≤ n → sOf π n g < 2 ^ n ∧ pc (sOf π n g) = g ∧ (∀ s, s < n → (bt (sOf π n g) s = 1 → ∃ p, n - g ≤ p ∧ p < n ∧ π p = s)) ∧ 0 < wW al n (sOf π n g) := by
  have hpw := pw_lt n (by omega)
  intro g
  induction g with
  | zero =>
    intro _
    refine ⟨Nat.pow_pos (by decide), by show pc 0 = 0; decide, fun s hs h => ?_, ?_⟩
    · exfalso
      unfold sOf bt at h
      simp at h
    · show 0 < wW al n 0
      rw [wW_0]
      decide
  | succ g ih =>
    intro hg
    obtain ⟨h1, h2, h3, h4⟩ := ih (by omega)
    obtain ⟨p, hp⟩ : ∃ p, p = n - (g + 1) := ⟨_, rfl⟩
    have hs := hπ.1 p (by omega)
    have hb0 : bt (sOf π n g) (π p) = 0 := by
      have h01 := bt_01 (sOf π n g) (π p)
      refine Classical.byContradiction fun c => ?_
      obtain ⟨p2, a1, a2, a3⟩ := h3 (π p) hs (by omega)
      have := hπ.2 p2 p a2 (by omega) a3
      omega
    have hi := (set_i n (by omega) (sOf π n g) (by omega) h1 (π p) hs).resolve_left (by omega)
    have hu := set_u (sOf π n g) (by omega) (π p) (by omega) hb0
    have e : sOf π n (g + 1) = sOf π n g + 2 ^ (π p) := by rw [hp]; rfl
    rw [e]
    have hpc := set_t (sOf π n g) (by omega) (π p) (by omega) hb0
    have hps : 0 < 2 ^ (π p) := Nat.pow_pos (by decide)
    refine ⟨hi, by omega, fun s h5 h6 => ?_, ?_⟩
    · rw [hu s (by omega)] at h6
      by_cases es : s = π p
      · exact ⟨p, by omega, by omega, es.symm⟩
      · rw [if_neg es] at h6
        obtain ⟨p2, a1, a2, a3⟩ := h3 s h5 h6
        exact ⟨p2, by omega, a2, a3⟩
    · rw [wW_rec (by omega)]
      have hbs : bt (sOf π n g + 2 ^ π p) (π p) = 1 := by rw [hu (π p) (by omega), if_pos rfl]
      have hone := sI_one (f := fun s => if bt (sOf π n g + 2 ^ π p) s = 1 then (pc (al (n - pc (sOf π n g + 2 ^ π p)) s) : Int) * wW al n (sOf π n g + 2 ^ π p - 2 ^ s) else 0) n 0 (π p) (fun i _ hi2 => by
        show 0 ≤ (if bt (sOf π n g + 2 ^ π p) i = 1 then (pc (al (n - pc (sOf π n g + 2 ^ π p)) i) : Int) * wW al n (sOf π n g + 2 ^ π p - 2 ^ i) else 0)
        by_cases c : bt (sOf π n g + 2 ^ π p) i = 1
        · rw [if_pos c]
          exact Int.mul_nonneg (Int.natCast_nonneg _) (wW_b hn7 hal (Nat.lt_of_le_of_lt (Nat.sub_le _ _) hi)).1
        · rw [if_neg c]
          exact Int.le_refl _) (by omega) (by omega)
      have hone : (if bt (sOf π n g + 2 ^ π p) (π p) = 1 then (pc (al (n - pc (sOf π n g + 2 ^ π p)) (π p)) : Int) * wW al n (sOf π n g + 2 ^ π p - 2 ^ (π p)) else 0) ≤ _ := hone
      rw [if_pos hbs, hpc, h2, Nat.add_sub_cancel, show n - (g + 1) = p from hp.symm] at hone
      rw [hpc, h2, show n - (g + 1) = p from hp.symm]
      refine Int.lt_of_lt_of_le ?_ hone
      have hal4 := hal p (π p) (by omega) hs
      have hpp := (pc_lt _ hal4).2
      have h0 := hok p (by omega)
      refine Int.mul_pos ?_ h4
      have : pc (al p (π p)) ≠ 0 := fun e => h0 (hpp.mp e)
      omega
