/-! ===== what stands between two calls: the relation of both objects ===== -/
def kpR (n r : Nat) (m : Nat → Nat → Int) (x : Nat) (G P : Nat → Int) (k : Nat) : Prop := fnR n r 400 (m (x + 1)) (m (x + 2)) (m (x + 3)) G ∧ m x 2 = k ∧ k ≤ 16 ∧ ∀ i, i < k → fnR n r 400 (m (x + 5 + 3 * i)) (m (x + 6 + 3 * i)) (m (x + 7 + 3 * i)) (fun j => P (48 * i + j))
def gT (m : Nat → Nat → Int) (z : Nat) : Prop := (m 102 = m 365 ∧ isT (m 365)) ∧ (z ≤ 600 ∧ m 101 1 = z ∧ m 363 2 = z) ∧ m 101 5 = m 363 8
def gK (n r : Nat) (m : Nat → Nat → Int) (k h : Nat) : Prop := (m 363 15 = n ∧ m 363 16 = r) ∧ kpR n r m 107 (m 376) (m 378) k ∧ m 363 29 = k ∧ m 100 15 = m 363 30 ∧ h ≤ 3 ∧ m 100 14 = h ∧ m 363 52 = h ∧ ∀ i, i < h → ∃ e : Nat, kpR n r m (200 + 53 * i) (fun j => m 390 (817 * i + j)) (fun j => m 390 (817 * i + 48 + j)) e ∧ m 390 (817 * i + 816) = e
def gL (m : Nat → Nat → Int) (q : Nat → Nat → Option Nat) (y : Nat) : Prop := ∃ y', q 100 9 = some y ∧ q 100 10 = some y' ∧ iLaw y ∧ iLaw y' ∧ y ≠ y' ∧ ∃ z : Nat, m y 3 = z ∧ lawR (m (y + 1)) z (m 370) (m 371) (m 363 24)
def gP1 (m : Nat → Nat → Int) (p c : Nat) (z : Nat) : Prop := z ≤ 7 ∧ m p 1 = z ∧ m 381 c = z ∧ rP z (m (p + 1)) (fun i => m 380 (7 * c + i))
def gP (m : Nat → Nat → Int) (q : Nat → Nat → Option Nat) (p0 p1 : Nat) : Prop := ∃ p2, q 181 0 = some p0 ∧ q 181 1 = some p1 ∧ q 100 11 = some p2 ∧ iPic p0 ∧ iPic p1 ∧ iPic p2 ∧ p0 ≠ p1 ∧ p0 ≠ p2 ∧ p1 ≠ p2 ∧ (∃ z, gP1 m p0 0 z) ∧ (∃ z, gP1 m p1 1 z)
def gB (m : Nat → Nat → Int) (q : Nat → Nat → Option Nat) (b : Nat) : Prop := ∃ b', q 100 12 = some b ∧ q 100 13 = some b' ∧ iBook b ∧ iBook b' ∧ b ≠ b' ∧ ∃ z : Nat, z ≤ 7 ∧ m b 3 = z ∧ m 363 42 = z ∧ rB z (m (b + 1)) (m (b + 2)) (m (b + 3)) (m 383)
def gC (m : Nat → Nat → Int) : Prop := m 100 16 = m 364 0 ∧ m 100 17 = m 364 1
def gS (m : Nat → Nat → Int) : Prop := fB m 161 ∧ ((m 161 7 = -1 ∧ m 161 8 = 0) ∨ (0 ≤ m 161 7 ∧ m 161 7 ≤ 3))
def RR (m : Nat → Nat → Int) (q : Nat → Nat → Option Nat) : Prop := (∃ z, gT m z) ∧ (∃ n r k h, gK n r m k h) ∧ (∃ y, gL m q y) ∧ (∃ p0 p1, gP m q p0 p1) ∧ (∃ b, gB m q b) ∧ gC m ∧ gS m
/-- what is written and never read again by a later call -/
def scr (a : Nat) : Prop := (103 ≤ a ∧ a ≤ 106) ∨ (161 ≤ a ∧ a ≤ 180) ∨ a = 184 ∨ a = 185 ∨ a = 188 ∨ a = 189 ∨ (366 ≤ a ∧ a ≤ 369) ∨ (372 ≤ a ∧ a ≤ 375) ∨ a = 377 ∨ a = 379 ∨ a = 382 ∨ (384 ≤ a ∧ a ≤ 389) ∨ 391 ≤ a
/-- a quiet change, but for the text -/
def qk (m m1 : Nat → Nat → Int) : Prop := (∀ a, ¬ scr a → a ≠ 101 → a ≠ 363 → m1 a = m a) ∧ (∀ j, j = 15 ∨ j = 16 ∨ j = 24 ∨ j = 29 ∨ j = 30 ∨ j = 42 ∨ j = 52 → m1 363 j = m 363 j)
/-- a quiet change -/
def qq (m m1 : Nat → Nat → Int) : Prop := qk m m1 ∧ (m1 101 1 = m 101 1 ∧ m1 101 5 = m 101 5) ∧ m1 363 2 = m 363 2 ∧ m1 363 8 = m 363 8
theorem qk_refl {m : Nat → Nat → Int} : qk m m := ⟨fun _ _ _ _ => rfl, fun _ _ => rfl⟩
theorem qk_trans {m m1 m2 : Nat → Nat → Int} (h : qk m m1) (h2 : qk m1 m2) : qk m m2 := ⟨fun a a1 a2 a3 => (h2.1 a a1 a2 a3).trans (h.1 a a1 a2 a3), fun j hj => (h2.2 j hj).trans (h.2 j hj)⟩
theorem qq_refl {m : Nat → Nat → Int} : qq m m := ⟨qk_refl, ⟨rfl, rfl⟩, rfl, rfl⟩
theorem qq_trans {m m1 m2 : Nat → Nat → Int} (h : qq m m1) (h2 : qq m1 m2) : qq m m2 := ⟨qk_trans h.1 h2.1, ⟨h2.2.1.1.trans h.2.1.1, h2.2.1.2.trans h.2.1.2⟩, h2.2.2.1.trans h.2.2.1, h2.2.2.2.trans h.2.2.2⟩
theorem scr_no {a : Nat} (h : a = 100 ∨ a = 102 ∨ (107 ≤ a ∧ a ≤ 160) ∨ a = 182 ∨ a = 183 ∨ a = 186 ∨ a = 187 ∨ (190 ≤ a ∧ a ≤ 362) ∨ a = 364 ∨ a = 365 ∨ a = 370 ∨ a = 371 ∨ a = 376 ∨ a = 378 ∨ a = 380 ∨ a = 381 ∨ a = 383 ∨ a = 390) : ¬ scr a ∧ a ≠ 101 ∧ a ≠ 363 := by
  unfold scr
  omega
theorem qq_a {m m1 : Nat → Nat → Int} (h : qk m m1) {a : Nat} (ha : a = 100 ∨ a = 102 ∨ (107 ≤ a ∧ a ≤ 160) ∨ a = 182 ∨ a = 183 ∨ a = 186 ∨ a = 187 ∨ (190 ≤ a ∧ a ≤ 362) ∨ a = 364 ∨ a = 365 ∨ a = 370 ∨ a = 371 ∨ a = 376 ∨ a = 378 ∨ a = 380 ∨ a = 381 ∨ a = 383 ∨ a = 390) : m1 a = m a := by
  have h9 := scr_no ha
  exact h.1 a h9.1 h9.2.1 h9.2.2
section Q
variable {m m1 : Nat → Nat → Int} {q : Nat → Nat → Option Nat}
theorem gT_q (h : qq m m1) {z : Nat} (hR : gT m z) : gT m1 z := by
  unfold gT at *
  rw [qq_a h.1 (a := 102) (by omega), qq_a h.1 (a := 365) (by omega), h.2.1.1, h.2.1.2, h.2.2.1, h.2.2.2]
  exact hR
theorem kpR_q {n r x k : Nat} {G P G1 P1 : Nat → Int} (h : ∀ a, x ≤ a → a ≤ x + 52 → m1 a = m a) (hG : G1 = G) (hP : P1 = P) (hR : kpR n r m x G P k) : kpR n r m1 x G1 P1 k := by
  obtain ⟨h1, h2, h3, h4⟩ := hR
  unfold kpR
  rw [h (x + 1) (by omega) (by omega), h (x + 2) (by omega) (by omega), h (x + 3) (by omega) (by omega), h x (by omega) (by omega), hG, hP]
  refine ⟨h1, h2, h3, fun i hi => ?_⟩
  rw [h (x + 5 + 3 * i) (by omega) (by omega), h (x + 6 + 3 * i) (by omega) (by omega), h (x + 7 + 3 * i) (by omega) (by omega)]
  exact h4 i hi
theorem gK_q (h : qk m m1) {n r k e : Nat} (hR : gK n r m k e) : gK n r m1 k e := by
  obtain ⟨⟨h1, h2⟩, h3, h4, h5, h6, h7, h8, h9⟩ := hR
  unfold gK
  rw [qq_a h (a := 100) (by omega), qq_a h (a := 376) (by omega), qq_a h (a := 378) (by omega), qq_a h (a := 390) (by omega), h.2 15 (by omega), h.2 16 (by omega), h.2 29 (by omega), h.2 30 (by omega), h.2 52 (by omega)]
  refine ⟨⟨h1, h2⟩, kpR_q (fun a a1 a2 => qq_a h (by omega)) rfl rfl h3, h4, h5, h6, h7, h8, fun i hi => ?_⟩
  obtain ⟨e9, e1, e2⟩ := h9 i hi
  exact ⟨e9, kpR_q (fun a a1 a2 => qq_a h (by omega)) rfl rfl e1, e2⟩
theorem gL_q (h : qk m m1) {y : Nat} (hR : gL m q y) : gL m1 q y := by
  obtain ⟨y', h1, h2, h3, h4, h5, z, h6, h7⟩ := hR
  have hy := law_rng h3
  refine ⟨y', h1, h2, h3, h4, h5, z, ?_, ?_⟩
  · rw [qq_a h (by omega)]
    exact h6
  · rw [qq_a h (a := y + 1) (by omega), qq_a h (a := 370) (by omega), qq_a h (a := 371) (by omega), h.2 24 (by omega)]
    exact h7
theorem gP1_q (h : qk m m1) {p c z : Nat} (hp : iPic p) (hR : gP1 m p c z) : gP1 m1 p c z := by
  have hy := pic_rng hp
  unfold gP1 at *
  rw [qq_a h (a := p) (by omega), qq_a h (a := p + 1) (by omega), qq_a h (a := 380) (by omega), qq_a h (a := 381) (by omega)]
  exact hR
theorem gP_q (h : qk m m1) {p0 p1 : Nat} (hR : gP m q p0 p1) : gP m1 q p0 p1 := by
  obtain ⟨p2, h1, h2, h3, h4, h5, h6, h7, h8, h9, ⟨z0, z1⟩, ⟨z2, z3⟩⟩ := hR
  exact ⟨p2, h1, h2, h3, h4, h5, h6, h7, h8, h9, ⟨z0, gP1_q h h4 z1⟩, ⟨z2, gP1_q h h5 z3⟩⟩
theorem gB_q (h : qk m m1) {b : Nat} (hR : gB m q b) : gB m1 q b := by
  obtain ⟨b', h1, h2, h3, h4, h5, z, h6, h7, h8, h9⟩ := hR
  have hy := book_rng h3
  refine ⟨b', h1, h2, h3, h4, h5, z, h6, ?_, ?_, ?_⟩
  · rw [qq_a h (by omega)]
    exact h7
  · rw [h.2 42 (by omega)]
    exact h8
  · rw [qq_a h (a := b + 1) (by omega), qq_a h (a := b + 2) (by omega), qq_a h (a := b + 3) (by omega), qq_a h (a := 383) (by omega)]
    exact h9
theorem gC_q (h : qk m m1) (hR : gC m) : gC m1 := by
  unfold gC at *
  rw [qq_a h (a := 100) (by omega), qq_a h (a := 364) (by omega)]
  exact hR
theorem RR_q (h : qq m m1) (hs : gS m1) (hR : RR m q) : RR m1 q := by
  obtain ⟨⟨z, h1⟩, ⟨n, r, k, e, h2⟩, ⟨y, h3⟩, ⟨p0, p1, h4⟩, ⟨b, h5⟩, h6, h7⟩ := hR
  exact ⟨⟨z, gT_q h h1⟩, ⟨n, r, k, e, gK_q h.1 h2⟩, ⟨y, gL_q h.1 h3⟩, ⟨p0, p1, gP_q h.1 h4⟩, ⟨b, gB_q h.1 h5⟩, gC_q h.1 h6, hs⟩
/-- a refused call -/
theorem RR_c (h : ∀ a, a ≠ 100 → a ≠ 363 → a ≠ 364 → m1 a = m a) (h14 : m1 100 14 = m 100 14) (h15 : m1 100 15 = m 100 15) (h3 : ∀ j, j ≠ 0 → m1 363 j = m 363 j) (hC : gC m1) (hR : RR m q) : RR m1 q := by
  obtain ⟨⟨z, hT⟩, ⟨n, r, k, e, ⟨k1, k2⟩, k3, k4, k5, k6, k7, k8, k9⟩, ⟨y, y', l1, l2, l3, l4, l5, lz, l6, l7⟩, ⟨p0, p1, p2, p3, p4, p5, p6, p7, p8, p9, pa, pb, ⟨z0, pc⟩, ⟨z1, pd⟩⟩, ⟨b, b', b1, b2, b3, b4, b5, bz, b6, b7, b8, b9⟩, -, s1, s2⟩ := hR
  have hy := law_rng l3
  have hp := pic_rng p6
  have hp' := pic_rng p7
  have hb := book_rng b3
  refine ⟨⟨z, ?_⟩, ⟨n, r, k, e, ⟨(h3 15 (by decide)).trans k1, (h3 16 (by decide)).trans k2⟩, ?_, (h3 29 (by decide)).trans k4, h15.trans (k5.trans (h3 30 (by decide)).symm), k6, h14.trans k7, (h3 52 (by decide)).trans k8, fun i hi => ?_⟩, ⟨y, y', l1, l2, l3, l4, l5, lz, ?_, ?_⟩, ⟨p0, p1, p2, p3, p4, p5, p6, p7, p8, p9, pa, pb, ⟨z0, ?_⟩, ⟨z1, ?_⟩⟩, ⟨b, b', b1, b2, b3, b4, b5, bz, b6, ?_, (h3 42 (by decide)).trans b8, ?_⟩, hC, ?_, ?_⟩
  · unfold gT at *
    rw [h 102 (by decide) (by decide) (by decide), h 365 (by decide) (by decide) (by decide), h 101 (by decide) (by decide) (by decide), h3 2 (by decide), h3 8 (by decide)]
    exact hT
  · exact kpR_q (fun a a1 a2 => h a (by omega) (by omega) (by omega)) (h 376 (by decide) (by decide) (by decide)) (h 378 (by decide) (by decide) (by decide)) k3
  · obtain ⟨e9, e1, e2⟩ := k9 i hi
    rw [h 390 (by decide) (by decide) (by decide)]
    exact ⟨e9, kpR_q (fun a a1 a2 => h a (by omega) (by omega) (by omega)) rfl rfl e1, e2⟩
  · rw [h y (by omega) (by omega) (by omega)]
    exact l6
  · rw [h (y + 1) (by omega) (by omega) (by omega), h 370 (by decide) (by decide) (by decide), h 371 (by decide) (by decide) (by decide), h3 24 (by decide)]
    exact l7
  · unfold gP1 at *
    rw [h p0 (by omega) (by omega) (by omega), h (p0 + 1) (by omega) (by omega) (by omega), h 380 (by decide) (by decide) (by decide), h 381 (by decide) (by decide) (by decide)]
    exact pc
  · unfold gP1 at *
    rw [h p1 (by omega) (by omega) (by omega), h (p1 + 1) (by omega) (by omega) (by omega), h 380 (by decide) (by decide) (by decide), h 381 (by decide) (by decide) (by decide)]
    exact pd
  · rw [h b (by omega) (by omega) (by omega)]
    exact b7
  · rw [h (b + 1) (by omega) (by omega) (by omega), h (b + 2) (by omega) (by omega) (by omega), h (b + 3) (by omega) (by omega) (by omega), h 383 (by decide) (by decide) (by decide)]
    exact b9
  · unfold fB at *
    rw [h (161 + 2) (by decide) (by decide) (by decide)]
    exact s1
  · rw [h 161 (by decide) (by decide) (by decide)]
    exact s2
end Q
/-! a call of both: alike, or refused alike -/
def cOK (jc jr : Nat) (as : List Value) : Prop := ∀ (m : Nat → Nat → Int) (q : Nat → Nat → Option Nat) (w : Option (Nat → Int64)), RR m q → ∀ (d : Nat), 200 ≤ d →
  ∃ (v : Int) (m1 : Nat → Nat → Int) (q1 : Nat → Nat → Option Nat) (m2 : Nat → Nat → Int), ev d jc (.ref 100 :: as) (mk m q w) = vI v (mk m1 q1 w) ∧ ev d jr (.ref 363 :: as) (mk m1 q1 w) = vI v (mk m2 q1 w) ∧ m2 363 0 = 0 ∧ RR m2 q1
/-- c: what the reference says when refused by an IllegalArgumentException (c) or a NoSuchElementException (1, where c is 2) -/
def cTH (jc jr : Nat) (as : List Value) (c : Nat) : Prop := ∀ (m : Nat → Nat → Int) (q : Nat → Nat → Option Nat) (w : Option (Nat → Int64)), RR m q → ∀ (d : Nat), 200 ≤ d →
  (∃ (v : Int) (m1 : Nat → Nat → Int) (q1 : Nat → Nat → Option Nat) (m2 : Nat → Nat → Int), ev d jc (.ref 100 :: as) (mk m q w) = vI v (mk m1 q1 w) ∧ ev d jr (.ref 363 :: as) (mk m1 q1 w) = vI v (mk m2 q1 w) ∧ m2 363 0 = 0 ∧ RR m2 q1) ∨
  (∃ (e : Nat) (v : Int) (m1 m2 : Nat → Nat → Int), (e = 0 ∨ (e = 1 ∧ c = 2)) ∧ ev d jc (.ref 100 :: as) (mk m q w) = some (.inr e, (mk m1 q w, (1, 6))) ∧ ev d jr (.ref 363 :: as) (mk m1 q w) = vI v (mk m2 q w) ∧ m2 363 0 = (if e = 0 then c else 1 : Nat) ∧ RR m2 q)
