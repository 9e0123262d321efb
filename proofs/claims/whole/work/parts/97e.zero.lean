/-! ===== what stands ahead of the first call ===== -/
def N0 : rMem := nM (aft r2)
def m0 : Nat → Nat → Int := mOf N0
def q0 : Nat → Nat → Option Nat := qOf N0
def cutOK (c : Option rCell) (n : Nat) : Bool := match c with
  | some (.inl (_, (n2, .inl _))) => Nat.beq n n2
  | _ => false
theorem mOf_hi {M : rMem} {x n j : Nat} (h : cutOK (M.2 x) n = true) (hj : n ≤ j) : mOf (nM M) x j = 0 := by
  have hn : (nM M).2 x = (M.2 x).map nMc := rfl
  unfold mOf
  rw [hn]
  rcases hc : M.2 x with _ | ⟨t, n2, f | f | f⟩ | ⟨ci, fs⟩ <;> rw [hc] at h
  · cases h
  · obtain rfl := Nat.eq_of_beq_eq_true h
    show (if j < n then f j else 0).toInt = 0
    rw [if_neg (by omega)]
    rfl
  · cases h
  · cases h
  · cases h
def m0L : List (Nat × (Nat × Int)) := [(363, 2, 0), (363, 8, -1), (363, 15, 0), (363, 16, 99), (363, 24, 0), (363, 29, 0), (363, 30, 0), (363, 42, 0), (363, 52, 0), (101, 1, 0), (101, 5, -1), (100, 14, 0), (100, 15, 0), (100, 16, 0), (100, 17, 0), (364, 0, 0), (364, 1, 0), (107, 2, 0),
  (108, 0, 0), (108, 1, 99), (108, 2, 0), (108, 3, 20), (108, 4, 0), (108, 5, 0), (108, 6, 0), (108, 7, -1), (108, 8, 0), (376, 35, 0), (376, 36, 0), (376, 37, 0), (376, 38, 0), (376, 39, 0), (376, 40, 0), (376, 41, 0), (376, 42, 0), (376, 43, 20), (376, 44, 0), (376, 45, -1), (376, 46, 0), (376, 47, 0),
  (182, 3, 1), (183, 0, -2), (359, 1, 0), (361, 1, 0), (381, 0, 0), (381, 1, 0), (192, 3, 0), (161, 7, -1), (161, 8, 0)]
def q0L : List (Nat × (Nat × Nat)) := [(100, 9, 182), (100, 10, 186), (181, 0, 359), (181, 1, 361), (100, 11, 190), (100, 12, 192), (100, 13, 196)]
def st0m (m : Nat → Nat → Int) : Bool := m0L.all (fun e => decide (m e.1 e.2.1 = e.2.2))
def st0q (q : Nat → Nat → Option Nat) : Bool := q0L.all (fun e => decide (q e.1 e.2.1 = some e.2.2))
def st0z (m : Nat → Nat → Int) (x n : Nat) : Bool := (List.range n).all (fun j => decide (m x j = 0))
theorem RR_of {m : Nat → Nat → Int} {q : Nat → Nat → Option Nat} (h1 : st0m m = true) (h2 : st0q q = true) (h3 : ∀ j, m 102 j = 0) (h4 : ∀ j, m 365 j = 0) (h5 : ∀ j, j < 28 → m 110 j = 0) (h6 : ∀ j, j < 28 → m 163 j = 0) : RR m q := by
  have v : ∀ (x j : Nat) (z : Int), (x, (j, z)) ∈ m0L → m x j = z := fun x j z hm => of_decide_eq_true (List.all_eq_true.mp h1 (x, (j, z)) hm)
  have u : ∀ (x j z : Nat), (x, (j, z)) ∈ q0L → q x j = some z := fun x j z hm => of_decide_eq_true (List.all_eq_true.mp h2 (x, (j, z)) hm)
  have a0 := v 108 0 0 (by decide +kernel)
  have a1 := v 108 1 99 (by decide +kernel)
  have a2 := v 108 2 0 (by decide +kernel)
  have a3 := v 108 3 20 (by decide +kernel)
  have a4 := v 108 4 0 (by decide +kernel)
  have a5 := v 108 5 0 (by decide +kernel)
  have a6 := v 108 6 0 (by decide +kernel)
  have a7 := v 108 7 (-1) (by decide +kernel)
  have a8 := v 108 8 0 (by decide +kernel)
  have g2 := v 376 42 0 (by decide +kernel)
  have g3 := v 376 43 20 (by decide +kernel)
  have g4 := v 376 44 0 (by decide +kernel)
  have g5 := v 376 45 (-1) (by decide +kernel)
  have g6 := v 376 46 0 (by decide +kernel)
  have g7 := v 376 47 0 (by decide +kernel)
  have hF : fnR 0 99 400 (m (107 + 1)) (m (107 + 2)) (m (107 + 3)) (m 376) := by
    show fnR 0 99 400 (m 108) (m 109) (m 110) (m 376)
    refine ⟨⟨a0, by decide, a1, by decide⟩, ⟨by omega, by omega, by omega⟩, ⟨by omega, by omega, by omega⟩, ⟨by omega, by omega, by omega⟩, by omega, ⟨by omega, by omega, Or.inl ⟨a7, a8⟩⟩, ⟨0, a6, by decide, fun s hs => ?_⟩, ⟨fun k hk => absurd hk (Nat.not_lt_zero k), fun k hk => absurd hk (Nat.not_lt_zero k), fun j k hj => absurd hj (Nat.not_lt_zero j)⟩, fun i hi => ?_, fun i hi => absurd hi (by omega)⟩
    · have hb : bt 0 s = 0 := by
        rcases (show s = 0 ∨ s = 1 ∨ s = 2 ∨ s = 3 ∨ s = 4 ∨ s = 5 ∨ s = 6 by omega) with rfl | rfl | rfl | rfl | rfl | rfl | rfl <;> rfl
      rw [hb]
      rcases (show s = 0 ∨ s = 1 ∨ s = 2 ∨ s = 3 ∨ s = 4 ∨ s = 5 ∨ s = 6 by omega) with rfl | rfl | rfl | rfl | rfl | rfl | rfl
      · exact v 376 35 0 (by decide +kernel)
      · exact v 376 36 0 (by decide +kernel)
      · exact v 376 37 0 (by decide +kernel)
      · exact v 376 38 0 (by decide +kernel)
      · exact v 376 39 0 (by decide +kernel)
      · exact v 376 40 0 (by decide +kernel)
      · exact v 376 41 0 (by decide +kernel)
    · have := h5 i hi
      omega
  have hK : gK 0 99 m 0 0 := by
    refine ⟨⟨v 363 15 0 (by decide +kernel), v 363 16 99 (by decide +kernel)⟩, ⟨hF, v 107 2 0 (by decide +kernel), by decide, fun i hi => absurd hi (Nat.not_lt_zero i)⟩, v 363 29 0 (by decide +kernel), ?_, by decide, v 100 14 0 (by decide +kernel), v 363 52 0 (by decide +kernel), fun i hi => absurd hi (Nat.not_lt_zero i)⟩
    rw [v 100 15 0 (by decide +kernel), v 363 30 0 (by decide +kernel)]
  have hT : gT m 0 := by
    refine ⟨⟨funext fun j => by rw [h3, h4], fun i => by rw [h4]; decide⟩, ⟨by decide, v 101 1 0 (by decide +kernel), v 363 2 0 (by decide +kernel)⟩, ?_⟩
    rw [v 101 5 (-1) (by decide +kernel), v 363 8 (-1) (by decide +kernel)]
  have hc0 := v 183 0 (-2) (by decide +kernel)
  have hL : gL m q 182 := by
    refine ⟨186, u 100 9 182 (by decide +kernel), u 100 10 186 (by decide +kernel), by unfold iLaw; decide +kernel, by unfold iLaw; decide +kernel, by decide, 1, v 182 3 1 (by decide +kernel), ⟨by decide, by decide, fun i hi => ?_, seg_one (by show -11 < m 183 0; omega)⟩, Or.inl ⟨v 363 24 0 (by decide +kernel), rfl, hc0⟩⟩
    obtain rfl : i = 0 := by omega
    show okc (m 183 0)
    unfold okc
    omega
  have hP : gP m q 359 361 := by
    refine ⟨190, u 181 0 359 (by decide +kernel), u 181 1 361 (by decide +kernel), u 100 11 190 (by decide +kernel), by unfold iPic; decide +kernel, by unfold iPic; decide +kernel, by unfold iPic; decide +kernel, by decide, by decide, by decide, ⟨0, by decide, v 359 1 0 (by decide +kernel), v 381 0 0 (by decide +kernel), fun i hi => absurd hi (Nat.not_lt_zero i)⟩, ⟨0, by decide, v 361 1 0 (by decide +kernel), v 381 1 0 (by decide +kernel), fun i hi => absurd hi (Nat.not_lt_zero i)⟩⟩
  have hB : gB m q 192 := by
    refine ⟨196, u 100 12 192 (by decide +kernel), u 100 13 196 (by decide +kernel), by unfold iBook; decide +kernel, by unfold iBook; decide +kernel, by decide, 0, by decide, v 192 3 0 (by decide +kernel), v 363 42 0 (by decide +kernel), fun i hi => absurd hi (Nat.not_lt_zero i)⟩
  have hC : gC m := by
    unfold gC
    rw [v 100 16 0 (by decide +kernel), v 364 0 0 (by decide +kernel), v 100 17 0 (by decide +kernel), v 364 1 0 (by decide +kernel)]
    exact ⟨rfl, rfl⟩
  have hS : gS m := by
    refine ⟨fun i hi => ?_, Or.inl ⟨v 161 7 (-1) (by decide +kernel), v 161 8 0 (by decide +kernel)⟩⟩
    have h : m (161 + 2) i = 0 := h6 i hi
    omega
  exact ⟨⟨0, hT⟩, ⟨0, 99, 0, 0, hK⟩, ⟨182, hL⟩, ⟨359, 361, hP⟩, ⟨192, hB⟩, hC, hS⟩
theorem st0z_at {m : Nat → Nat → Int} {x n : Nat} (h : st0z m x n = true) : ∀ j, j < n → m x j = 0 := fun j hj => of_decide_eq_true (List.all_eq_true.mp h j (List.mem_range.mpr hj))
def st0 : Bool := st0m m0 && (st0q q0 && (st0z m0 102 600 && (st0z m0 365 600 && (st0z m0 110 28 && (st0z m0 163 28 && (cutOK ((aft r2).2 102) 600 && cutOK ((aft r2).2 365) 600))))))
set_option maxRecDepth 100000 in
theorem st0_ok : st0 = true := by decide +kernel
theorem RR0 : RR m0 q0 := by
  have h := st0_ok
  unfold st0 at h
  rw [Bool.and_eq_true, Bool.and_eq_true, Bool.and_eq_true, Bool.and_eq_true, Bool.and_eq_true, Bool.and_eq_true, Bool.and_eq_true] at h
  obtain ⟨h1, h2, h3, h4, h5, h6, h7, h8⟩ := h
  refine RR_of h1 h2 (fun j => ?_) (fun j => ?_) (st0z_at h5) (st0z_at h6)
  · by_cases hj : j < 600
    · exact st0z_at h3 j hj
    · exact mOf_hi h7 (by omega)
  · by_cases hj : j < 600
    · exact st0z_at h4 j hj
    · exact mOf_hi h8 (by omega)
