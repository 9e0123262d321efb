/-! ===== the reference: what it takes to come to an order ===== -/
theorem al_ov : ∀ a : Nat, a < 4 → ∀ ov : Nat, ov < 2 → (a = 0 ↔ (¬ bt a ov = 1 ∧ ¬ bt a (1 - ov) = 1)) := by decide +kernel
def cz (b : Nat → Nat) : Nat → Nat
  | 0 => 0
  | k + 1 => (if b k = 0 then 1 else 0) + cz b k
theorem cz_le {b : Nat → Nat} : ∀ k, cz b k ≤ k := by
  intro k
  induction k with
  | zero => exact Nat.le_refl _
  | succ k ih =>
    unfold cz
    split <;> omega
theorem cz_same {b : Nat → Nat} {x v : Nat} : ∀ k, k ≤ x → cz (upB b x v) k = cz b k := by
  intro k
  induction k with
  | zero => exact fun _ => rfl
  | succ k ih =>
    intro h
    unfold cz
    rw [ih (by omega), show upB b x v k = b k from if_neg (by omega)]
theorem cz_up {b : Nat → Nat} {x : Nat} (hx : b x = 0) : ∀ k, x < k → cz (upB b x 1) k + 1 = cz b k := by
  intro k
  induction k with
  | zero => intro h; omega
  | succ k ih =>
    intro h
    unfold cz
    by_cases e : x = k
    · subst e
      rw [cz_same x (Nat.le_refl _), show upB b x 1 x = 1 from if_pos rfl, hx, if_neg (by decide), if_pos rfl]
      omega
    · have := ih (by omega)
      rw [show upB b x 1 k = b k from if_neg (fun y => e y.symm)]
      omega
section S
variable {d n : Nat} {m : Nat → Nat → Int} {q : Nat → Nat → Option Nat} {w : Option (Nat → Int64)} {o v : Nat} {al : Nat → Nat → Nat} {B π σ : Nat → Nat}
/-- the reference at an order -/
def xO (m : Nat → Nat → Int) (n o : Nat) (B π : Nat → Nat) : Prop := m 363 15 = n ∧ n ≤ 7 ∧ (∀ j, j < n → m 377 (28 + j) = (B j : Int) ∧ B j < 7) ∧ (∀ s, s < n → m 377 (35 + s) = (bt o s : Int)) ∧ ∀ p, p < n → m 385 p = (π p : Int) ∧ π p < n
theorem xO_o {m1 : Nat → Nat → Int} (h : xO m n o B π) (hm : ∀ x, x ≠ 386 → m1 x = m x) : xO m1 n o B π := by
  unfold xO at *
  rw [hm 363 (by decide), hm 377 (by decide), hm 385 (by decide)]
  exact h
theorem L_244p (hml : hML d n al v (-1) m q w) (hx : xO m n o B π) {p : Nat} (hp : p < n) (hal : al p (π p) < 4) {m1 : Nat → Nat → Int} (hm : ∀ x, x ≠ 386 → m1 x = m x) {a : Int} {u5 u6 u7 : Option Value} : gv d rR244 7 [some (.ref 363), some (.int (iI (v : Int))), some (.int (iI a)), some (.int (iI 0)), some (.int (iI (p : Int))), u5, u6, u7] [] (mk m1 q w) = if al p (π p) = 0 then vI (-1) (mk m1 q w) else gv d rR244 7 [some (.ref 363), some (.int (iI (v : Int))), some (.int (iI (a + (if bt (al p (π p)) (bt o (π p)) = 1 then 0 else 1)))), some (.int (iI 0)), some (.int (iI ((p + 1 : Nat) : Int))), some (.int (iI (π p : Int))), some (.int (iI (bt o (π p) : Int))), u7] [] (mk (wr m1 386 p 0) q w) := by
  obtain ⟨h15, hn7, hB, hov, hπ⟩ := xO_o hx hm
  have h1 := hπ p hp
  have h2 := hov _ h1.2
  have h01 := bt_01 o (π p)
  have hcall : ∀ ov : Nat, ov < 2 → ev d 238 [.ref 363, .int (iI ((π p : Nat) : Int)), .int (iI (ov : Int)), .int (iI (p : Int)), .int (iI (v : Int)), .int (iI (-1))] (mk m1 q w) = vI (zb (bt (al p (π p)) ov = 1)) (mk m1 q w) := fun ov hov => hml m1 (fun x _ _ h => hm x h) p (π p) ov hp h1.2 hov
  have hao := al_ov _ hal (bt o (π p)) (by omega)
  have k74 : ∀ a2 : Int, gv d rR244 74 [some (.ref 363), some (.int (iI (v : Int))), some (.int (iI a2)), some (.int (iI 0)), some (.int (iI (p : Int))), some (.int (iI (π p : Int))), some (.int (iI (bt o (π p) : Int))), u7] [] (mk m1 q w) = gv d rR244 7 [some (.ref 363), some (.int (iI (v : Int))), some (.int (iI a2)), some (.int (iI 0)), some (.int (iI ((p + 1 : Nat) : Int))), some (.int (iI (π p : Int))), some (.int (iI (bt o (π p) : Int))), u7] [] (mk (wr m1 386 p 0) q w) := by
    intro a2
    rw [b_244_74 (by omega) (by omega), Int.toNat_natCast]
    rfl
  rw [b_244_7, h15, if_pos (by rw [iI_lt (by omega) (by omega)]; omega), b_244_16 (by omega) (by omega) (by rw [Int.toNat_natCast, h1.1]; omega) (by rw [Int.toNat_natCast, h1.1]; omega), Int.toNat_natCast, h1.1, show (35 + ((π p : Nat) : Int)).toNat = 35 + π p by omega, h2, hcall _ (by omega)]
  simp only [rBd_v, Option.toList_some, Option.toList_none, List.cons_append, List.nil_append, List.append_nil]
  rw [b_244_49]
  simp only [zb_0]
  by_cases c1 : bt (al p (π p)) (bt o (π p)) = 1
  · rw [if_neg (not_not_intro c1), if_neg (fun y => (hao.mp y).1 c1), if_pos c1, k74, Int.add_zero]
  · rw [if_pos c1, show (1 : Int) - ((bt o (π p) : Nat) : Int) = ((1 - bt o (π p) : Nat) : Int) by omega, hcall _ (by omega)]
    simp only [rBd_v, Option.toList_some, Option.toList_none, List.cons_append, List.nil_append, List.append_nil]
    rw [b_244_66]
    simp only [zb_0]
    by_cases c2 : bt (al p (π p)) (1 - bt o (π p)) = 1
    · rw [if_neg (not_not_intro c2), if_neg (fun y => (hao.mp y).2 c2), if_neg c1, k74]
    · rw [if_pos c2, if_pos (hao.mpr ⟨c1, c2⟩)]
theorem L_244a (hml : hML d n al v (-1) m q w) (hx : xO m n o B π) (hal : ∀ t s, t < n → s < n → al t s < 4) (hσ : ∀ p, p < n → σ p < n ∧ B (σ p) = π p) : ∀ (g p : Nat) (a : Int) (m1 : Nat → Nat → Int) (u5 u6 u7 : Option Value), p + g = n → (∀ x, x ≠ 386 → m1 x = m x) → (∀ j, j < p → m1 386 j = 0) → (∀ j, p ≤ j → j < n → al j (π j) ≠ 0) → ∃ (m2 : Nat → Nat → Int) (u5' u6' u7' : Option Value), gv d rR244 7 [some (.ref 363), some (.int (iI (v : Int))), some (.int (iI a)), some (.int (iI 0)), some (.int (iI (p : Int))), u5, u6, u7] [] (mk m1 q w) = gv d rR244 91 [some (.ref 363), some (.int (iI (v : Int))), some (.int (iI (a + tS (tB al o B) n σ g))), some (.int (iI ((0 : Nat) : Int))), some (.int (iI ((0 : Nat) : Int))), u5', u6', u7'] [] (mk m2 q w) ∧ (∀ x, x ≠ 386 → m2 x = m x) ∧ ∀ j, j < n → m2 386 j = 0 := by
  obtain ⟨h15, hn7, -, -, hπ⟩ := id hx
  intro g
  induction g with
  | zero =>
    intro p a m1 u5 u6 u7 hg hm hz _
    obtain rfl : p = n := by omega
    refine ⟨m1, u5, u6, u7, ?_, hm, hz⟩
    rw [b_244_7, hm 363 (by decide), h15, if_neg (by rw [iI_lt (by omega) (by omega)]; omega)]
    unfold tS
    rw [Int.add_zero]
    rfl
  | succ g ih =>
    intro p a m1 u5 u6 u7 hg hm hz hok
    have hp : p < n := by omega
    have h1 := hπ p hp
    have hs := hσ p hp
    obtain ⟨m2, a5, a6, a7, i1, i2, i3⟩ := ih (p + 1) (a + (if bt (al p (π p)) (bt o (π p)) = 1 then 0 else 1)) (wr m1 386 p 0) (some (.int (iI (π p : Int)))) (some (.int (iI (bt o (π p) : Int)))) u7 (by omega) (fun x hx => by rw [wr_o _ _ _ _ hx]; exact hm x hx) (fun j hj => by
      by_cases e : j = p
      · subst e
        rw [wr_s]
      · rw [wr_b _ _ _ _ e]
        exact hz j (by omega)) (fun j h2 h3 => hok j (by omega) h3)
    refine ⟨m2, a5, a6, a7, ?_, i2, i3⟩
    rw [L_244p hml hx hp (hal p _ hp h1.2) hm, if_neg (hok p (Nat.le_refl _) hp), i1, show tS (tB al o B) n σ (g + 1) = tB al o B (n - (g + 1)) (σ (n - (g + 1))) + tS (tB al o B) n σ g from rfl, show n - (g + 1) = p by omega, Int.add_assoc]
    unfold tB
    rw [hs.2]
theorem L_244b (hml : hML d n al v (-1) m q w) (hx : xO m n o B π) (hal : ∀ t s, t < n → s < n → al t s < 4) : ∀ (g p : Nat) (a : Int) (m1 : Nat → Nat → Int) (u5 u6 u7 : Option Value), p + g = n → (∀ x, x ≠ 386 → m1 x = m x) → (∃ j, p ≤ j ∧ j < n ∧ al j (π j) = 0) → ∃ (m2 : Nat → Nat → Int), gv d rR244 7 [some (.ref 363), some (.int (iI (v : Int))), some (.int (iI a)), some (.int (iI 0)), some (.int (iI (p : Int))), u5, u6, u7] [] (mk m1 q w) = vI (-1) (mk m2 q w) ∧ (∀ x, x ≠ 386 → m2 x = m x) := by
  obtain ⟨h15, hn7, -, -, hπ⟩ := id hx
  intro g
  induction g with
  | zero =>
    intro p a m1 u5 u6 u7 hg hm ⟨j, h1, h2, h3⟩
    omega
  | succ g ih =>
    intro p a m1 u5 u6 u7 hg hm ⟨j, h1, h2, h3⟩
    have hp : p < n := by omega
    have h4 := hπ p hp
    have hstep := L_244p (a := a) (u5 := u5) (u6 := u6) (u7 := u7) hml hx hp (hal p _ hp h4.2) hm
    by_cases c : al p (π p) = 0
    · refine ⟨m1, ?_, hm⟩
      rw [hstep, if_pos c]
    · obtain ⟨m2, i1, i2⟩ := ih (p + 1) (a + (if bt (al p (π p)) (bt o (π p)) = 1 then 0 else 1)) (wr m1 386 p 0) (some (.int (iI (π p : Int)))) (some (.int (iI (bt o (π p) : Int)))) u7 (by omega) (fun x hx => by rw [wr_o _ _ _ _ hx]; exact hm x hx) ⟨j, by
        refine Classical.byContradiction fun e => ?_
        obtain rfl : j = p := by omega
        exact c h3, h2, h3⟩
      refine ⟨m2, ?_, i2⟩
      rw [hstep, if_neg c, i1]
theorem L_244f (hx : xO m n o B π) (hB : pmt n B) {i0 : Nat} (hi : i0 < n) {m1 : Nat → Nat → Int} (hm : ∀ x, x ≠ 386 → m1 x = m x) {a c pp : Int} {u1 u5 : Option Value} : ∀ (g k : Nat), k + g = i0 → gv d rR244 151 [some (.ref 363), u1, some (.int (iI a)), some (.int (iI c)), some (.int (iI pp)), u5, some (.int (iI (B i0 : Int))), some (.int (iI (k : Int)))] [] (mk m1 q w) = gv d rR244 121 [some (.ref 363), u1, some (.int (iI a)), some (.int (iI c)), some (.int (iI pp)), some (.int (iI (i0 : Int))), some (.int (iI (B i0 : Int))), some (.int (iI (i0 : Int)))] [] (mk m1 q w) := by
  obtain ⟨h15, hn7, hb, -, -⟩ := xO_o hx hm
  have b0 := hb i0 hi
  intro g
  induction g with
  | zero =>
    intro k hk
    obtain rfl : k = i0 := by omega
    rw [b_244_151 (by omega) (by omega), show (28 + (k : Int)).toNat = 28 + k by omega, b0.1, if_pos rfl]
  | succ g ih =>
    intro k hk
    have bk := hb k (by omega)
    have hne : B k ≠ B i0 := fun e => by
      have := hB.2 k i0 (by omega) hi e
      omega
    rw [b_244_151 (by omega) (by omega), show (28 + (k : Int)).toNat = 28 + k by omega, bk.1]
    simp only [iI_eq (show i32 ((B k : Nat) : Int) by omega) (show i32 ((B i0 : Nat) : Int) by omega)]
    rw [if_neg (by omega), show (k : Int) + 1 = ((k + 1 : Nat) : Int) from rfl, ih (k + 1) (by omega)]
theorem L_244w (hx : xO m n o B π) (hB : pmt n B) (hσ : ∀ p, p < n → σ p < n ∧ B (σ p) = π p) {a c pp : Int} {u1 : Option Value} : ∀ (h x : Nat) (m1 : Nat → Nat → Int) (b : Nat → Nat) (u6 u7 : Option Value), x < n → cz b n < h → (∀ x, x ≠ 386 → m1 x = m x) → (∀ j, j < n → m1 386 j = (b j : Int) ∧ b j ≤ 1) → ∃ (m2 : Nat → Nat → Int) (u5' u6' u7' : Option Value), gv d rR244 121 [some (.ref 363), u1, some (.int (iI a)), some (.int (iI c)), some (.int (iI pp)), some (.int (iI (x : Int))), u6, u7] [] (mk m1 q w) = gv d rR244 179 [some (.ref 363), u1, some (.int (iI a)), some (.int (iI c)), some (.int (iI pp)), u5', u6', u7'] [] (mk m2 q w) ∧ (∀ x, x ≠ 386 → m2 x = m x) ∧ ∀ j, j < n → m2 386 j = (wk σ h x b j : Int) ∧ wk σ h x b j ≤ 1 := by
  obtain ⟨h15, hn7, -, -, hπ⟩ := id hx
  intro h
  induction h with
  | zero => intro x m1 b u6 u7 _ h; omega
  | succ h ih =>
    intro x m1 b u6 u7 hxn hc hm hb
    have bx := hb x hxn
    have hs := hσ x hxn
    have hp := hπ x hxn
    have ew : wk σ (h + 1) x b = if b x = 0 then wk σ h (σ x) (upB b x 1) else b := rfl
    rw [ew, b_244_121 (by omega) (by omega), Int.toNat_natCast, bx.1]
    simp only [iI_eq (show i32 ((b x : Nat) : Int) by omega) (show i32 0 by omega)]
    by_cases e : b x = 0
    · have hcz := cz_up e n hxn
      have hm1 : ∀ y, y ≠ 386 → wr m1 386 x 1 y = m y := fun y hy => by rw [wr_o _ _ _ _ hy]; exact hm y hy
      obtain ⟨m2, a5, a6, a7, i1, i2, i3⟩ := ih (σ x) (wr m1 386 x 1) (upB b x 1) (some (.int (iI (B (σ x) : Int)))) (some (.int (iI (σ x : Int)))) hs.1 (by omega) hm1 (fun j hj => by
        by_cases e2 : j = x
        · subst e2
          rw [wr_s, show upB b j 1 j = 1 from if_pos rfl]
          exact ⟨rfl, Nat.le_refl _⟩
        · rw [wr_b _ _ _ _ e2, show upB b x 1 j = b j from if_neg e2]
          exact hb j hj)
      refine ⟨m2, a5, a6, a7, ?_, i2, ?_⟩
      · rw [if_pos (by omega), hm1 385 (by decide), hp.1, ← hs.2, show iI 0 = iI ((0 : Nat) : Int) from rfl, L_244f hx hB hs.1 hm1 (σ x) 0 (by omega), i1]
      · rw [if_pos e]
        exact i3
    · refine ⟨m1, some (.int (iI (x : Int))), u6, u7, ?_, hm, ?_⟩
      · rw [if_neg (by omega)]
      · rw [if_neg e]
        exact hb
theorem L_244c (hx : xO m n o B π) (hB : pmt n B) (hσ : ∀ p, p < n → σ p < n ∧ B (σ p) = π p) {a : Int} {u1 : Option Value} : ∀ (g p c : Nat) (m1 : Nat → Nat → Int) (b : Nat → Nat) (u5 u6 u7 : Option Value), p + g = n → (∀ x, x ≠ 386 → m1 x = m x) → (∀ j, j < n → m1 386 j = (b j : Int) ∧ b j ≤ 1) → ∃ (m2 : Nat → Nat → Int), gv d rR244 91 [some (.ref 363), u1, some (.int (iI a)), some (.int (iI (c : Int))), some (.int (iI (p : Int))), u5, u6, u7] [] (mk m1 q w) = vI (a + n - ((c + cyc σ n g p b : Nat) : Int)) (mk m2 q w) ∧ (∀ x, x ≠ 386 → m2 x = m x) := by
  obtain ⟨h15, hn7, -, -, hπ⟩ := id hx
  intro g
  induction g with
  | zero =>
    intro p c m1 b u5 u6 u7 hg hm hb
    refine ⟨m1, ?_, hm⟩
    rw [b_244_91, hm 363 (by decide), h15, if_neg (by rw [iI_lt (by omega) (by omega)]; omega)]
    rfl
  | succ g ih =>
    intro p c m1 b u5 u6 u7 hg hm hb
    have bp := hb p (by omega)
    have ec : cyc σ n (g + 1) p b = if b p = 1 then cyc σ n g (p + 1) b else 1 + cyc σ n g (p + 1) (wk σ (n + 1) p b) := rfl
    rw [b_244_91, hm 363 (by decide), h15, if_pos (by rw [iI_lt (by omega) (by omega)]; omega), b_244_100 (by omega) (by omega), Int.toNat_natCast, bp.1]
    simp only [iI_eq (show i32 ((b p : Nat) : Int) by omega) (show i32 1 by omega)]
    by_cases e : b p = 1
    · obtain ⟨m2, i1, i2⟩ := ih (p + 1) c m1 b u5 u6 u7 (by omega) hm hb
      refine ⟨m2, ?_, i2⟩
      rw [if_pos (by omega), b_244_179, show (p : Int) + 1 = ((p + 1 : Nat) : Int) from rfl, i1, ec, if_pos e]
    · have hcz := cz_le (b := b) n
      obtain ⟨m3, a5, a6, a7, j1, j2, j3⟩ := L_244w (d := d) (q := q) (w := w) (a := a) (c := ((c + 1 : Nat) : Int)) (pp := (p : Int)) (u1 := u1) hx hB hσ (n + 1) p m1 b u6 u7 (by omega) (by omega) hm hb
      obtain ⟨m2, i1, i2⟩ := ih (p + 1) (c + 1) m3 (wk σ (n + 1) p b) a5 a6 a7 (by omega) j2 j3
      refine ⟨m2, ?_, i2⟩
      rw [if_neg (by omega), show (c : Int) + 1 = ((c + 1 : Nat) : Int) from rfl, j1, b_244_179, show (p : Int) + 1 = ((p + 1 : Nat) : Int) from rfl, i1, ec, if_neg e, Nat.add_assoc]
theorem V_244 (hd : 1 ≤ d) (hml : hML (d - 1) n al v (-1) m q w) (hx : xO m n o B π) (hal : ∀ t s, t < n → s < n → al t s < 4) (hB : pmt n B) (hσ : ∀ p, p < n → σ p < n ∧ B (σ p) = π p) : ∃ m2 : Nat → Nat → Int, ev d 244 [.ref 363, .int (iI (v : Int))] (mk m q w) = vI (if (∀ p, p < n → al p (π p) ≠ 0) then tS (tB al o B) n σ n + n - (cyc σ n n 0 (fun _ => 0) : Nat) else -1) (mk m2 q w) ∧ ∀ x, x ≠ 386 → m2 x = m x := by
  rw [e_244 hd _ rfl rfl, b_244_0]
  by_cases c : ∀ p, p < n → al p (π p) ≠ 0
  · obtain ⟨m1, a5, a6, a7, h1, h2, h3⟩ := L_244a (u5 := none) (u6 := none) (u7 := none) hml hx hal hσ n 0 0 m (by omega) (fun _ _ => rfl) (fun j hj => by omega) (fun j _ hj => c j hj)
    obtain ⟨m2, h4, h5⟩ := L_244c (d := d - 1) (q := q) (w := w) (a := 0 + tS (tB al o B) n σ n) (u1 := some (.int (iI (v : Int)))) hx hB hσ n 0 0 m1 (fun _ => 0) a5 a6 a7 (by omega) h2 (fun j hj => ⟨h3 j hj, by decide⟩)
    refine ⟨m2, ?_, h5⟩
    rw [if_pos c]
    refine Eq.trans h1 (h4.trans ?_)
    rw [Int.zero_add, Nat.zero_add]
  · obtain ⟨m1, h1, h2⟩ := L_244b (u5 := none) (u6 := none) (u7 := none) hml hx hal n 0 0 m (by omega) (fun _ _ => rfl) (Classical.byContradiction fun e => c fun p hp e2 => e ⟨p, by omega, hp, e2⟩)
    refine ⟨m1, ?_, h2⟩
    rw [if_neg c]
    exact h1
end S
