/-! ===== the call law ===== -/
section Q
variable {m m1 : Nat → Nat → Int} {q : Nat → Nat → Option Nat}
theorem RR_k {z : Nat} (hq : qk m m1) (hT : gT m1 z) (hs : gS m1) (hR : RR m q) : RR m1 q := by
  obtain ⟨-, ⟨n, r, k, e, h2⟩, ⟨y, h3⟩, ⟨p0, p1, h4⟩, ⟨b, h5⟩, h6, -⟩ := hR
  exact ⟨⟨z, hT⟩, ⟨n, r, k, e, gK_q hq h2⟩, ⟨y, gL_q hq h3⟩, ⟨p0, p1, gP_q hq h4⟩, ⟨b, gB_q hq h5⟩, gC_q hq h6, hs⟩
theorem pic_far {x y : Nat} (hx : iPic x) (hy : iPic y) (h : x ≠ y) : x + 1 ≠ y ∧ y + 1 ≠ x := (by decide +kernel : ∀ x ∈ picIds, ∀ y ∈ picIds, x ≠ y → x + 1 ≠ y ∧ y + 1 ≠ x) x hx y hy h
theorem book_two {x : Nat} (h : iBook x) : x = 192 ∨ x = 196 := (by decide +kernel : ∀ x ∈ bookIds, x = 192 ∨ x = 196) x h
theorem pic_three {x : Nat} (h : iPic x) : x = 190 ∨ x = 359 ∨ x = 361 := (by decide +kernel : ∀ x ∈ picIds, x = 190 ∨ x = 359 ∨ x = 361) x h
/-- what lies spare may change -/
theorem RR_sp (hR : RR m q) (h : ∀ a, m1 a = m a ∨ (∃ y, q 100 10 = some y ∧ (a = y ∨ a = y + 1)) ∨ (∃ p, q 100 11 = some p ∧ (a = p ∨ a = p + 1)) ∨ (∃ b, q 100 13 = some b ∧ b ≤ a ∧ a ≤ b + 3)) : RR m1 q := by
  obtain ⟨⟨z, hT⟩, ⟨n, r, k, e, ⟨k1, k2⟩, k3, k4, k5, k6, k7, k8, k9⟩, ⟨y, y', l1, l2, l3, l4, l5, lz, l6, l7⟩, ⟨p0, p1, p2, p3, p4, p5, p6, p7, p8, p9, pa, pb, ⟨z0, pc⟩, ⟨z1, pd⟩⟩, ⟨b, b', b1, b2, b3, b4, b5, bz, b6, b7, b8, b9⟩, hC, hS⟩ := hR
  have hy := law_rng l3
  have hy' := law_rng l4
  have hp0 := pic_three p6
  have hp1 := pic_three p7
  have hp2 := pic_three p8
  have hb := book_two b3
  have hb' := book_two b4
  have key : ∀ a, a ≠ y' → a ≠ y' + 1 → a ≠ p2 → a ≠ p2 + 1 → (a < b' ∨ b' + 3 < a) → m1 a = m a := by
    intro a a1 a2 a3 a4 a5
    rcases h a with h9 | ⟨y9, e9, h9⟩ | ⟨y9, e9, h9⟩ | ⟨y9, e9, h9⟩
    · exact h9
    · rw [l2] at e9
      cases e9
      omega
    · rw [p5] at e9
      cases e9
      omega
    · rw [b2] at e9
      cases e9
      omega
  clear h
  have c : ∀ a, (a ≤ 181 ∨ (200 ≤ a ∧ a ≤ 358) ∨ 363 ≤ a) → m1 a = m a := fun a ha => key a (by omega) (by omega) (by omega) (by omega) (by omega)
  have cy : m1 y = m y ∧ m1 (y + 1) = m (y + 1) := ⟨key y (by omega) (by omega) (by omega) (by omega) (by omega), key (y + 1) (by omega) (by omega) (by omega) (by omega) (by omega)⟩
  have cp0 : m1 p0 = m p0 ∧ m1 (p0 + 1) = m (p0 + 1) := ⟨key p0 (by omega) (by omega) (by omega) (by omega) (by omega), key (p0 + 1) (by omega) (by omega) (by omega) (by omega) (by omega)⟩
  have cp1 : m1 p1 = m p1 ∧ m1 (p1 + 1) = m (p1 + 1) := ⟨key p1 (by omega) (by omega) (by omega) (by omega) (by omega), key (p1 + 1) (by omega) (by omega) (by omega) (by omega) (by omega)⟩
  have cb : ∀ i, i ≤ 3 → m1 (b + i) = m (b + i) := fun i hi => key (b + i) (by omega) (by omega) (by omega) (by omega) (by omega)
  refine ⟨⟨z, ?_⟩, ⟨n, r, k, e, ⟨by rw [c 363 (by omega)]; exact k1, by rw [c 363 (by omega)]; exact k2⟩, ?_, by rw [c 363 (by omega)]; exact k4, by rw [c 100 (by omega), c 363 (by omega)]; exact k5, k6, by rw [c 100 (by omega)]; exact k7, by rw [c 363 (by omega)]; exact k8, fun i hi => ?_⟩, ⟨y, y', l1, l2, l3, l4, l5, lz, by rw [cy.1]; exact l6, by rw [cy.2, c 370 (by omega), c 371 (by omega), c 363 (by omega)]; exact l7⟩, ⟨p0, p1, p2, p3, p4, p5, p6, p7, p8, p9, pa, pb, ⟨z0, ?_⟩, ⟨z1, ?_⟩⟩, ⟨b, b', b1, b2, b3, b4, b5, bz, b6, (by have := cb 0 (by omega); rw [Nat.add_zero] at this; rw [this]; exact b7), by rw [c 363 (by omega)]; exact b8, by rw [cb 1 (by omega), cb 2 (by omega), cb 3 (by omega), c 383 (by omega)]; exact b9⟩, ?_, ?_⟩
  · unfold gT at *
    rw [c 102 (by omega), c 365 (by omega), c 101 (by omega), c 363 (by omega)]
    exact hT
  · exact kpR_q (fun a a1 a2 => c a (by omega)) (c 376 (by omega)) (c 378 (by omega)) k3
  · obtain ⟨e9, e1, e2⟩ := k9 i hi
    rw [c 390 (by omega)]
    exact ⟨e9, kpR_q (fun a a1 a2 => c a (by omega)) rfl rfl e1, e2⟩
  · unfold gP1 at *
    rw [cp0.1, cp0.2, c 380 (by omega), c 381 (by omega)]
    exact pc
  · unfold gP1 at *
    rw [cp1.1, cp1.2, c 380 (by omega), c 381 (by omega)]
    exact pd
  · unfold gC at *
    rw [c 100 (by omega), c 364 (by omega)]
    exact hC
  · unfold gS fB at *
    rw [c (161 + 2) (by omega), c 161 (by omega)]
    exact hS
end Q
def xFi (T : Nat → Int) (n : Nat) (x : rd) : rd := if x.2.1 = -1 then (if skip T n x.1 < n then (skip T n x.1, ((skip T n x.1 : Nat) : Int), 1) else (skip T n x.1, x.2)) else x
theorem rel_Fi {T : Nat → Int} {n : Nat} {s x : rd} (hr : rel s x) : rel (aFi T n s) (xFi T n x) := by
  by_cases h0 : s.2.1 = 0
  · have hx0 := (rel_fine hr).mp h0
    have hxp := rel_at hr h0
    unfold aFi xFi
    rw [if_pos hx0, hxp]
    by_cases h : skip T n s.1 < n
    · rw [if_pos h, if_pos h]
      unfold aBl
      rw [if_pos h0]
      exact Or.inr ⟨by show (1 : Int) ≠ 0; decide, by show ((skip T n s.1 : Nat) : Int) ≠ -1; omega, rfl, rfl⟩
    · rw [if_neg h, if_neg h]
      exact rel_go hr h0
  · have hx := rel_nf hr h0
    have e : xFi T n x = x := if_neg hx
    rw [e]
    exact rel_f hr h0 (f_aFi h0) rfl
theorem xFi_gx {T : Nat → Int} {n : Nat} {x : rd} (hn : n ≤ 600) (h : gx n x) : gx n (xFi T n x) := by
  have hsk := skip_le T h.1
  unfold xFi
  split
  · split
    · exact ⟨hsk.2, by show i32 ((skip T n x.1 : Nat) : Int); omega⟩
    · exact ⟨hsk.2, h.2⟩
  · exact h
theorem lk_okc {c e f : Int} (h : lk c e f) : okc c := by
  unfold okc
  rcases h with ⟨-, h1, h2⟩ | ⟨-, h1, h2, h3⟩ | ⟨h1, h2, h3⟩
  · omega
  · omega
  · obtain ⟨k, rfl⟩ : ∃ k : Nat, e = k := ⟨e.toNat, by omega⟩
    have := (cd_dc (e := k) (by omega)).2
    rw [h3, Int.toNat_natCast]
    omega
