/-! ===== all orders in one row ===== -/
theorem ck7_use {x : Nat} {h : List Nat} {e : Option (List Nat)} (hk : ck7 x h e = true) : ∃ xs, ch7 x = h :: xs ∧ cE 7 h xs e = true ∧ ∀ l, l ∈ h :: xs → okL 7 l = true := by
  unfold ck7 at hk
  split at hk
  next => cases hk
  next l xs heq =>
    rw [Bool.and_eq_true, Bool.and_eq_true] at hk
    obtain ⟨⟨h1, h2⟩, h3⟩ := hk
    have e1 : l = h := by simpa using h1
    subst e1
    exact ⟨xs, heq, h2, fun l' hl => (List.all_eq_true.mp h3) l' hl⟩
theorem lsO_all {n : Nat} {σ : Nat → Nat} (h : pmt n σ) : lsO σ n 0 ∈ pml n (List.range n) := lsO_mem n 0 _ (fun j _ h2 => List.mem_range.mpr (h.1 j (by omega))) (fun i j _ h2 _ h4 h5 => h.2 i j (by omega) (by omega) h5)
theorem ord_7 : ∃ xs, chn 7 (List.range 7) xs = true ∧ (∀ l', l' ∈ List.range 7 :: xs → okL 7 l' = true) ∧ ∀ σ, pmt 7 σ → lsO σ 7 0 ∈ List.range 7 :: xs := by
  obtain ⟨x0, a0, b0, c0⟩ := ck7_use ck7_0
  obtain ⟨x1, a1, b1, c1⟩ := ck7_use ck7_1
  obtain ⟨x2, a2, b2, c2⟩ := ck7_use ck7_2
  obtain ⟨x3, a3, b3, c3⟩ := ck7_use ck7_3
  obtain ⟨x4, a4, b4, c4⟩ := ck7_use ck7_4
  obtain ⟨x5, a5, b5, c5⟩ := ck7_use ck7_5
  obtain ⟨x6, a6, b6, c6⟩ := ck7_use ck7_6
  have hr : List.range 7 = [0, 1, 2, 3, 4, 5, 6] := by decide
  have hp : pml 7 (List.range 7) = ch7 0 ++ (ch7 1 ++ (ch7 2 ++ (ch7 3 ++ (ch7 4 ++ (ch7 5 ++ ch7 6))))) := by
    rw [show pml 7 (List.range 7) = (List.range 7).flatMap ch7 from rfl, hr]
    simp only [List.flatMap_cons, List.flatMap_nil, List.append_nil]
  have d5 := cE_app b6 x5 _ b5
  have d4 := cE_app d5 x4 _ b4
  have d3 := cE_app d4 x3 _ b3
  have d2 := cE_app d3 x2 _ b2
  have d1 := cE_app d2 x1 _ b1
  have d0 := cE_app d1 x0 _ b0
  rw [cE_none] at d0
  rw [a0, a1, a2, a3, a4, a5, a6] at hp
  rw [hr]
  refine ⟨_, d0, fun l' hl => ?_, fun σ hσ => ?_⟩
  · have hl : l' ∈ ([0, 1, 2, 3, 4, 5, 6] :: x0) ++ (([1, 0, 2, 3, 4, 5, 6] :: x1) ++ (([2, 0, 1, 3, 4, 5, 6] :: x2) ++ (([3, 0, 1, 2, 4, 5, 6] :: x3) ++ (([4, 0, 1, 2, 3, 5, 6] :: x4) ++ (([5, 0, 1, 2, 3, 4, 6] :: x5) ++ ([6, 0, 1, 2, 3, 4, 5] :: x6)))))) := hl
    rcases List.mem_append.mp hl with h | hl
    · exact c0 l' h
    · rcases List.mem_append.mp hl with h | hl
      · exact c1 l' h
      · rcases List.mem_append.mp hl with h | hl
        · exact c2 l' h
        · rcases List.mem_append.mp hl with h | hl
          · exact c3 l' h
          · rcases List.mem_append.mp hl with h | hl
            · exact c4 l' h
            · rcases List.mem_append.mp hl with h | hl
              · exact c5 l' h
              · exact c6 l' hl
  · have h := lsO_all hσ
    rw [hp] at h
    exact h
theorem chk_use {n : Nat} (hk : chk n = true) : ∃ xs, chn n (List.range n) xs = true ∧ (∀ l', l' ∈ List.range n :: xs → okL n l' = true) ∧ ∀ σ, pmt n σ → lsO σ n 0 ∈ List.range n :: xs := by
  unfold chk at hk
  split at hk
  next => cases hk
  next l xs heq =>
    rw [Bool.and_eq_true, Bool.and_eq_true] at hk
    obtain ⟨⟨h1, h2⟩, h3⟩ := hk
    have e1 : l = List.range n := by simpa using h1
    subst e1
    refine ⟨xs, h2, fun l' hl => (List.all_eq_true.mp h3) l' hl, fun σ hσ => ?_⟩
    rw [← heq]
    exact lsO_all hσ
theorem ordAll {n : Nat} (h : n ≤ 7) : ∃ xs, chn n (List.range n) xs = true ∧ (∀ l', l' ∈ List.range n :: xs → okL n l' = true) ∧ ∀ σ, pmt n σ → lsO σ n 0 ∈ List.range n :: xs := by
  obtain ⟨h0, h1, h2, h3, h4, h5⟩ := chk_5
  rcases (show n = 0 ∨ n = 1 ∨ n = 2 ∨ n = 3 ∨ n = 4 ∨ n = 5 ∨ n = 6 ∨ n = 7 by omega) with rfl | rfl | rfl | rfl | rfl | rfl | rfl | rfl
  · exact chk_use h0
  · exact chk_use h1
  · exact chk_use h2
  · exact chk_use h3
  · exact chk_use h4
  · exact chk_use h5
  · exact chk_use chk_6
  · exact ord_7
theorem okL_use {n : Nat} {l : List Nat} (h : okL n l = true) : pmt n (gf l) ∧ fc n (gf l) n id + cyc (gf l) n n 0 (fun _ => 0) = n := by
  unfold okL at h
  rw [Bool.and_eq_true] at h
  obtain ⟨h1, h2⟩ := h
  have h1 := List.all_eq_true.mp h1
  have key : ∀ i, i < n → gf l i < n ∧ ∀ j, j < i → gf l i ≠ gf l j := by
    intro i hi
    have h3 := h1 i (List.mem_range.mpr hi)
    rw [Bool.and_eq_true] at h3
    refine ⟨of_decide_eq_true h3.1, fun j hj e => ?_⟩
    have h4 := List.all_eq_true.mp h3.2 j (List.mem_range.mpr hj)
    rw [e] at h4
    simp at h4
  refine ⟨⟨fun i hi => (key i hi).1, fun i j hi hj e => ?_⟩, by simpa using h2⟩
  by_cases c1 : i < j
  · exact absurd e.symm ((key j hj).2 i c1)
  · by_cases c2 : j < i
    · exact absurd e ((key i hi).2 j c2)
    · omega
