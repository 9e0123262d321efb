/-! ===== both tapes read alike ===== -/
/-- class s, reference x: both without a fault at one place, or with the same fault -/
def rel (s x : rd) : Prop := (s.2.1 = 0 ∧ x.2.1 = -1 ∧ x.1 = s.1) ∨ (s.2.1 ≠ 0 ∧ x.2.1 ≠ -1 ∧ x.2.1 = s.2.2 ∧ x.2.2 = s.2.1)
theorem rel_fine {s x : rd} (h : rel s x) : s.2.1 = 0 ↔ x.2.1 = -1 := by
  rcases h with ⟨h1, h2, -⟩ | ⟨h1, h2, -, -⟩
  · exact ⟨fun _ => h2, fun _ => h1⟩
  · exact ⟨fun z => absurd z h1, fun z => absurd z h2⟩
theorem rel_at {s x : rd} (h : rel s x) (h0 : s.2.1 = 0) : x.1 = s.1 := by
  rcases h with ⟨-, -, h3⟩ | ⟨h1, -, -, -⟩
  · exact h3
  · exact absurd h0 h1
theorem rel_aN {T : Nat → Int} {n : Nat} {s x : rd} (h : rel s x) : rel (aN T n s) (skip T n x.1, x.2) := by
  unfold aN
  by_cases h0 : s.2.1 = 0
  · rw [if_pos h0]
    rcases h with ⟨h1, h2, h3⟩ | ⟨h1, -, -, -⟩
    · exact Or.inl ⟨h1, h2, by show skip T n x.1 = skip T n s.1; rw [h3]⟩
    · exact absurd h0 h1
  · rw [if_neg h0]
    rcases h with ⟨h1, h2, h3⟩ | h
    · exact absurd h1 h0
    · exact Or.inr h
/-- past blanks, the class alone -/
theorem rel_skip {T : Nat → Int} {n : Nat} {s x : rd} (h : rel s x) : rel (skip T n s.1, s.2) (skip T n x.1, x.2) := by
  rcases h with ⟨h1, h2, h3⟩ | h
  · exact Or.inl ⟨h1, h2, by show skip T n x.1 = skip T n s.1; rw [h3]⟩
  · exact Or.inr h
theorem rel_bad {s x : rd} {kd : Int} {z : Nat} (hk : kd ≠ 0) (h : rel s x) : rel (aBl kd z s) (xWr kd z x) := by
  unfold aBl xWr
  by_cases h0 : s.2.1 = 0
  · rw [if_pos h0, if_pos ((rel_fine h).mp h0)]
    exact Or.inr ⟨hk, by show ((z : Nat) : Int) ≠ -1; omega, rfl, rfl⟩
  · rw [if_neg h0, if_neg (fun z => h0 ((rel_fine h).mpr z))]
    exact h
theorem hv_on {T : Nat → Int} {n p : Nat} {a b : Int} (ha : 0 < a) : aF T n p a b ↔ a ≤ hv T n p ∧ hv T n p ≤ b := by
  unfold hv
  by_cases hp : p < n
  · rw [if_pos hp]
    exact ⟨fun h => h.2, fun h => ⟨hp, h⟩⟩
  · rw [if_neg hp]
    exact ⟨fun h => absurd h.1 hp, fun h => by omega⟩
theorem rel_sg {T : Nat → Int} {n : Nat} {s x : rd} {c : Int} (hc : 0 < c) (h : rel s x) : rel (aEx T n c s) (xSg T n c x) := by
  unfold aEx aTk xSg
  by_cases h0 : s.2.1 = 0
  · have h1 := (rel_fine h).mp h0
    have h2 := rel_at h h0
    rw [if_pos h1, h2]
    by_cases hf : aOn T n c c s
    · have := (hv_on hc).mp hf.2
      rw [if_pos hf, if_pos hf, if_pos (by omega)]
      exact Or.inl ⟨h0, h1, rfl⟩
    · have hn : ¬ hv T n (skip T n s.1) = c := fun z => hf ⟨h0, (hv_on hc).mpr (by omega)⟩
      rw [if_neg hf, if_neg hf, if_neg hn]
      unfold aN aBl
      rw [if_pos h0, if_pos h0]
      exact Or.inr ⟨by show (1 : Int) ≠ 0; decide, by show ((skip T n s.1 : Nat) : Int) ≠ -1; omega, rfl, rfl⟩
  · have hf : ¬ aOn T n c c s := fun z => h0 z.1
    rw [if_neg hf, if_neg hf, if_neg (fun z => h0 ((rel_fine h).mpr z))]
    unfold aN aBl
    rw [if_neg h0, if_neg h0]
    exact h
theorem dig_dgx (T : Nat → Int) (hT : isT T) : ∀ (g p : Nat) (v v2 : Int), 0 ≤ v2 → v2 ≤ 100000 → v = min v2 10000 → (dig T g p v).2 = (dgx T g p v2).2 ∧ (dig T g p v).1 = min (dgx T g p v2).1 10000 := by
  intro g
  induction g with
  | zero => intro p v v2 h0 h1 hv; exact ⟨rfl, hv⟩
  | succ g ih =>
    intro p v v2 h0 h1 hv
    unfold dig dgx
    by_cases hd : 48 ≤ T p ∧ T p ≤ 57
    · rw [if_pos hd, if_pos hd]
      refine ih (p + 1) _ _ ?_ ?_ ?_
      · split <;> omega
      · split <;> omega
      · by_cases h9 : 9999 < v2
        · rw [if_pos h9, if_pos (by omega)]
          rfl
        · rw [if_neg h9]
          obtain rfl : v = v2 := by omega
          split <;> omega
    · rw [if_neg hd, if_neg hd]
      exact ⟨rfl, hv⟩
theorem dig_at {T : Nat → Int} {g p : Nat} {v : Int} : (dig T g p v).2 = p ↔ ¬ (0 < g ∧ 48 ≤ T p ∧ T p ≤ 57) := by
  cases g with
  | zero => exact ⟨fun _ z => absurd z.1 (Nat.lt_irrefl _), fun _ => rfl⟩
  | succ g =>
    unfold dig
    have hmono : ∀ (g p : Nat) (v : Int), p ≤ (dig T g p v).2 := by
      intro g
      induction g with
      | zero => intro p v; exact Nat.le_refl _
      | succ g ih =>
        intro p v
        unfold dig
        split
        · have := ih (p + 1) (if 10000 < 10 * v + T p - 48 then 10000 else 10 * v + T p - 48)
          omega
        · exact Nat.le_refl _
    by_cases hd : 48 ≤ T p ∧ T p ≤ 57
    · rw [if_pos hd]
      have := hmono g (p + 1) (if 10000 < 10 * v + T p - 48 then 10000 else 10 * v + T p - 48)
      exact ⟨fun z => by omega, fun z => absurd ⟨by omega, hd⟩ z⟩
    · rw [if_neg hd]
      exact ⟨fun _ z => hd z.2, fun _ => rfl⟩
theorem rel_num {T : Nat → Int} {n : Nat} {s x : rd} {lo hi : Int} (hT : isT T) (hs : gd n s) (hlo : lo ≤ 10000) (hhi : hi ≤ 9999) (h : rel s x) : rel (aNum T n lo hi s).2 (xNum T n lo hi x).2 ∧ ((aNum T n lo hi s).2.2.1 = 0 → (aNum T n lo hi s).1 = (xNum T n lo hi x).1 ∧ lo ≤ (aNum T n lo hi s).1 ∧ (aNum T n lo hi s).1 ≤ hi) := by
  have hk := skip_le T hs.1
  unfold aNum xNum
  by_cases h0 : s.2.1 = 0
  · have h1 := (rel_fine h).mp h0
    have h2 := rel_at h h0
    rw [if_pos h0, if_pos h1, h2]
    obtain ⟨g1, g2⟩ := dig_dgx T hT (n - skip T n s.1) (skip T n s.1) 0 0 (by omega) (by omega) (by omega)
    have hat := dig_at (T := T) (g := n - skip T n s.1) (p := skip T n s.1) (v := 0)
    have hon := hv_on (T := T) (n := n) (p := skip T n s.1) (a := 48) (b := 57) (by omega)
    by_cases hd : 48 ≤ hv T n (skip T n s.1) ∧ hv T n (skip T n s.1) ≤ 57
    · have hf := hon.mpr hd
      have hne : ¬ (dig T (n - skip T n s.1) (skip T n s.1) 0).2 = skip T n s.1 := fun z => hat.mp z ⟨by have := hf.1; omega, hf.2⟩
      rw [if_pos hd]
      dsimp only
      rw [if_neg hne, g1, g2]
      by_cases hw : lo ≤ (dgx T (n - skip T n s.1) (skip T n s.1) 0).1 ∧ (dgx T (n - skip T n s.1) (skip T n s.1) 0).1 ≤ hi
      · have hw2 : lo ≤ min (dgx T (n - skip T n s.1) (skip T n s.1) 0).1 10000 ∧ min (dgx T (n - skip T n s.1) (skip T n s.1) 0).1 10000 ≤ hi := by omega
        rw [if_pos hw, if_pos hw2]
        exact ⟨Or.inl ⟨h0, h1, rfl⟩, fun _ => ⟨by show min (dgx T (n - skip T n s.1) (skip T n s.1) 0).1 10000 = (dgx T (n - skip T n s.1) (skip T n s.1) 0).1; omega, hw2⟩⟩
      · have hw2 : ¬ (lo ≤ min (dgx T (n - skip T n s.1) (skip T n s.1) 0).1 10000 ∧ min (dgx T (n - skip T n s.1) (skip T n s.1) 0).1 10000 ≤ hi) := by omega
        rw [if_neg hw, if_neg hw2]
        unfold aBl
        rw [if_pos h0]
        exact ⟨Or.inr ⟨by show (2 : Int) ≠ 0; decide, by show ((skip T n s.1 : Nat) : Int) ≠ -1; omega, rfl, rfl⟩, fun z => absurd z (by show ¬ (2 : Int) = 0; decide)⟩
    · have he : (dig T (n - skip T n s.1) (skip T n s.1) 0).2 = skip T n s.1 := hat.mpr (fun z => hd (hon.mp ⟨by omega, z.2⟩))
      rw [if_neg hd]
      dsimp only
      rw [if_pos he]
      unfold aBl
      rw [if_pos h0]
      exact ⟨Or.inr ⟨by show (1 : Int) ≠ 0; decide, by show ((skip T n s.1 : Nat) : Int) ≠ -1; omega, rfl, rfl⟩, fun z => absurd z (by show ¬ (1 : Int) = 0; decide)⟩
  · rw [if_neg h0, if_neg (fun z => h0 ((rel_fine h).mpr z))]
    exact ⟨h, fun z => absurd z h0⟩
/-- a word is taken, or isn't -/
theorem rel_word {T : Nat → Int} {n : Nat} {s x : rd} (hs : gd n s) {l : List Nat} (hl : isL l) (h : rel s x) (h0 : s.2.1 = 0) : (aWd T n l s ↔ wVal T n (skip T n x.1) = ofL 0 l) := by
  rw [rel_at h h0, wVal_iff (skip_le T hs.1).2 hl]
  exact ⟨fun z => z.2, fun z => ⟨h0, z⟩⟩
theorem rel_taken {T : Nat → Int} {n : Nat} {s x : rd} {l : List Nat} (hl : isL l) (h : rel s x) (hw : aWd T n l s) : rel (aTw T n l s) (wEnd T (n - skip T n x.1) (skip T n x.1), x.2) := by
  have h0 := hw.1
  unfold aTw
  rw [if_pos hw, rel_at h h0, wEnd_word hl hw.2]
  exact Or.inl ⟨h0, (rel_fine h).mp h0, rfl⟩
theorem rel_left {T : Nat → Int} {n : Nat} {s x : rd} {l : List Nat} (h : rel s x) (hw : ¬ aWd T n l s) : rel (aTw T n l s) (skip T n x.1, x.2) := by
  unfold aTw
  rw [if_neg hw]
  exact rel_aN h
theorem skp_fix (T : Nat → Int) : ∀ (g p : Nat), skp T (g - (skp T g p - p)) (skp T g p) = skp T g p := by
  intro g
  induction g with
  | zero =>
    intro p
    unfold skp
    simp [skp]
  | succ g ih =>
    intro p
    by_cases hb : T p = 32
    · have h1 : skp T (g + 1) p = skp T g (p + 1) := by
        show (if T p = 32 then skp T g (p + 1) else p) = _
        rw [if_pos hb]
      have h2 := (skp_le T g (p + 1)).1
      rw [h1, show g + 1 - (skp T g (p + 1) - p) = g - (skp T g (p + 1) - (p + 1)) by omega]
      exact ih (p + 1)
    · have h1 : skp T (g + 1) p = p := by
        show (if T p = 32 then skp T g (p + 1) else p) = _
        rw [if_neg hb]
      rw [h1, Nat.sub_self, Nat.sub_zero]
      exact h1
theorem skip_fix (T : Nat → Int) {n p : Nat} (h : p ≤ n) : skip T n (skip T n p) = skip T n p := by
  have h1 := skp_fix T (n - p) p
  have h2 := skip_le T h
  unfold skip at h2 ⊢
  rw [show n - skp T (n - p) p = n - p - (skp T (n - p) p - p) by omega]
  exact h1
