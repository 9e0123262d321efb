/-! ===== orders: the least by swaps, and all orders by size ===== -/
def sw2 (τ : Nat → Nat) (a b : Nat) : Nat → Nat := fun j => if j = a then τ b else if j = b then τ a else τ j
def sF (f : Nat → Int → Int) : Nat → Nat → Int → Int
  | 0, _, β => β
  | h + 1, i, β => sF f h (i + 1) (f i β)
/-- the search of the class, places n - g and on -/
def sB (ok : Nat → Nat → Bool) (t : Nat → Nat → Int) (n : Nat) : Nat → (Nat → Nat) → Int → Int → Int
  | 0, _, μ, β => if μ < β then μ else β
  | g + 1, τ, μ, β => if μ < β then sF (fun i β => if ok (n - (g + 1)) (τ i) = true then sB ok t n g (sw2 τ (n - (g + 1)) i) (μ + t (n - (g + 1)) (τ i) + (if i = n - (g + 1) then 0 else 1)) β else β) (g + 1) (n - (g + 1)) β else β
def ix (τ : Nat → Nat) (s : Nat) : Nat → Nat → Nat
  | 0, i => i
  | h + 1, i => if τ i = s then i else ix τ s h (i + 1)
/-- swaps on the way from τ to σ -/
def fc (n : Nat) (σ : Nat → Nat) : Nat → (Nat → Nat) → Nat
  | 0, _ => 0
  | g + 1, τ => (if ix τ (σ (n - (g + 1))) n 0 = n - (g + 1) then 0 else 1) + fc n σ g (sw2 τ (n - (g + 1)) (ix τ (σ (n - (g + 1))) n 0))
def tS (t : Nat → Nat → Int) (n : Nat) (σ : Nat → Nat) : Nat → Int
  | 0 => 0
  | g + 1 => t (n - (g + 1)) (σ (n - (g + 1))) + tS t n σ g
def pmt (n : Nat) (σ : Nat → Nat) : Prop := (∀ i, i < n → σ i < n) ∧ ∀ i j, i < n → j < n → σ i = σ j → i = j
theorem sw2_pmt {n a b : Nat} {τ : Nat → Nat} (h : pmt n τ) (ha : a < n) (hb : b < n) : pmt n (sw2 τ a b) := by
  have e : ∀ i, sw2 τ a b i = τ (if i = a then b else if i = b then a else i) := by
    intro i
    unfold sw2
    split
    · rfl
    · split <;> rfl
  have el : ∀ i, i < n → (if i = a then b else if i = b then a else i) < n := by
    intro i hi
    split
    · exact hb
    · split
      · exact ha
      · exact hi
  refine ⟨fun i hi => by rw [e]; exact h.1 _ (el i hi), fun i j hi hj he => ?_⟩
  rw [e, e] at he
  have h9 := h.2 _ _ (el i hi) (el j hj) he
  split at h9 <;> split at h9 <;> (try split at h9) <;> (try split at h9) <;> omega
theorem ix_eq {τ : Nat → Nat} {n i s : Nat} (hτ : pmt n τ) (hi : i < n) (hs : τ i = s) : ∀ (h k : Nat), k + h = n → k ≤ i → ix τ s h k = i := by
  intro h
  induction h with
  | zero => intro k h1 h2; omega
  | succ h ih =>
    intro k h1 h2
    unfold ix
    by_cases c : τ k = s
    · rw [if_pos c]
      exact hτ.2 k i (by omega) hi (by omega)
    · rw [if_neg c]
      refine ih (k + 1) (by omega) ?_
      by_cases e : k = i
      · rw [e] at c
        exact absurd hs c
      · omega
theorem ix_at {τ : Nat → Nat} {n s : Nat} (hτ : pmt n τ) (hs : s < n) : ix τ s n 0 < n ∧ τ (ix τ s n 0) = s := by
  obtain ⟨i, hi, he⟩ := onto hτ.1 hτ.2 hs
  have := ix_eq hτ hi he n 0 (by omega) (by omega)
  rw [this]
  exact ⟨hi, he⟩
theorem tS_ge {t : Nat → Nat → Int} (ht : ∀ p i, 0 ≤ t p i) {n : Nat} {σ : Nat → Nat} : ∀ g, 0 ≤ tS t n σ g := by
  intro g
  induction g with
  | zero => exact Int.le_refl _
  | succ g ih =>
    have := ht (n - (g + 1)) (σ (n - (g + 1)))
    unfold tS
    omega
theorem sF_le {f : Nat → Int → Int} (hf : ∀ i β, f i β ≤ β) : ∀ (h i : Nat) (β : Int), sF f h i β ≤ β ∧ ∀ j, i ≤ j → j < i + h → ∃ β', β' ≤ β ∧ sF f h i β ≤ f j β' := by
  intro h
  induction h with
  | zero => exact fun i β => ⟨Int.le_refl _, fun j h1 h2 => by omega⟩
  | succ h ih =>
    intro i β
    obtain ⟨h1, h2⟩ := ih (i + 1) (f i β)
    unfold sF
    refine ⟨Int.le_trans h1 (hf i β), fun j h3 h4 => ?_⟩
    by_cases e : j = i
    · subst e
      exact ⟨β, Int.le_refl _, h1⟩
    · obtain ⟨b, b1, b2⟩ := h2 j (by omega) (by omega)
      exact ⟨b, Int.le_trans b1 (hf i β), b2⟩
theorem sF_is {f : Nat → Int → Int} : ∀ (h i : Nat) (β : Int), sF f h i β = β ∨ ∃ j β', i ≤ j ∧ j < i + h ∧ sF f h i β = f j β' ∧ f j β' ≠ β' := by
  intro h
  induction h with
  | zero => exact fun i β => Or.inl rfl
  | succ h ih =>
    intro i β
    unfold sF
    rcases ih (i + 1) (f i β) with e | ⟨j, b, h1, h2, h3, h4⟩
    · rw [e]
      by_cases c : f i β = β
      · exact Or.inl c
      · exact Or.inr ⟨i, β, by omega, by omega, rfl, c⟩
    · exact Or.inr ⟨j, b, by omega, by omega, h3, h4⟩
theorem sF_ge {f : Nat → Int → Int} {c : Int} (hf : ∀ i β, c ≤ β → c ≤ f i β) : ∀ (h i : Nat) (β : Int), c ≤ β → c ≤ sF f h i β := by
  intro h
  induction h with
  | zero => exact fun i β h => h
  | succ h ih =>
    intro i β hb
    exact ih (i + 1) (f i β) (hf i β hb)
section P
variable {ok : Nat → Nat → Bool} {t : Nat → Nat → Int} {n : Nat}
theorem sB_le : ∀ (g : Nat) (τ : Nat → Nat) (μ β : Int), sB ok t n g τ μ β ≤ β := by
  intro g
  induction g with
  | zero =>
    intro τ μ β
    unfold sB
    split <;> omega
  | succ g ih =>
    intro τ μ β
    unfold sB
    by_cases c : μ < β
    · rw [if_pos c]
      refine (sF_le (fun i β => ?_) _ _ _).1
      show (if ok (n - (g + 1)) (τ i) = true then _ else β) ≤ β
      split
      · exact ih _ _ _
      · exact Int.le_refl _
    · rw [if_neg c]
      exact Int.le_refl _
theorem sB_ge (ht : ∀ p i, 0 ≤ t p i) : ∀ (g : Nat) (τ : Nat → Nat) (μ β : Int), 0 ≤ μ → 0 ≤ β → 0 ≤ sB ok t n g τ μ β := by
  intro g
  induction g with
  | zero =>
    intro τ μ β h1 h2
    unfold sB
    split <;> omega
  | succ g ih =>
    intro τ μ β h1 h2
    unfold sB
    by_cases c : μ < β
    · rw [if_pos c]
      refine sF_ge (fun i β hb => ?_) _ _ _ h2
      show 0 ≤ (if ok (n - (g + 1)) (τ i) = true then _ else β)
      have h3 := ht (n - (g + 1)) (τ i)
      split
      · refine ih _ _ _ ?_ hb
        split <;> omega
      · exact hb
    · rw [if_neg c]
      exact h2
/-- no order that comes after costs less -/
theorem sB_low (ht : ∀ p i, 0 ≤ t p i) {σ : Nat → Nat} (hσ : pmt n σ) : ∀ (g : Nat) (τ : Nat → Nat) (μ β : Int), g ≤ n → pmt n τ → (∀ j, j < n - g → σ j = τ j) → (∀ p, n - g ≤ p → p < n → ok p (σ p) = true) → sB ok t n g τ μ β ≤ μ + fc n σ g τ + tS t n σ g := by
  intro g
  induction g with
  | zero =>
    intro τ μ β _ _ _ _
    unfold sB fc tS
    split <;> omega
  | succ g ih =>
    intro τ μ β hg hτ hj hok
    obtain ⟨i1, i2⟩ := ix_at hτ (hσ.1 (n - (g + 1)) (by omega))
    obtain ⟨i, hi⟩ : ∃ i, i = ix τ (σ (n - (g + 1))) n 0 := ⟨_, rfl⟩
    rw [← hi] at i1 i2
    have hip : n - (g + 1) ≤ i := by
      refine Classical.byContradiction fun c => ?_
      have h1 := hj i (by omega)
      have h2 := hσ.2 i (n - (g + 1)) i1 (by omega) (by omega)
      omega
    have hge := tS_ge ht (n := n) (σ := σ) (g + 1)
    have hfc : ∀ g τ, (0 : Int) ≤ fc n σ g τ := fun g τ => Int.natCast_nonneg _
    unfold sB
    by_cases c : μ < β
    · rw [if_pos c]
      obtain ⟨b, b1, b2⟩ := (sF_le (f := fun i β => if ok (n - (g + 1)) (τ i) = true then sB ok t n g (sw2 τ (n - (g + 1)) i) (μ + t (n - (g + 1)) (τ i) + (if i = n - (g + 1) then 0 else 1)) β else β) (fun i β => by
        show (if ok (n - (g + 1)) (τ i) = true then _ else β) ≤ β
        split
        · exact sB_le _ _ _ _
        · exact Int.le_refl _) (g + 1) (n - (g + 1)) β).2 i hip (by omega)
      refine Int.le_trans b2 ?_
      show (if ok (n - (g + 1)) (τ i) = true then sB ok t n g (sw2 τ (n - (g + 1)) i) (μ + t (n - (g + 1)) (τ i) + (if i = n - (g + 1) then 0 else 1)) b else b) ≤ _
      rw [i2, if_pos (hok _ (by omega) (by omega))]
      have h9 := ih (sw2 τ (n - (g + 1)) i) (μ + t (n - (g + 1)) (σ (n - (g + 1))) + (if i = n - (g + 1) then 0 else 1)) b (by omega) (sw2_pmt hτ (by omega) i1) (fun j h1 => by
        unfold sw2
        by_cases e : j = n - (g + 1)
        · rw [if_pos e, e]
          exact i2.symm
        · rw [if_neg e, if_neg (by omega)]
          exact hj j (by omega)) (fun p h1 h2 => hok p (by omega) h2)
      refine Int.le_trans h9 ?_
      rw [show fc n σ (g + 1) τ = (if ix τ (σ (n - (g + 1))) n 0 = n - (g + 1) then 0 else 1) + fc n σ g (sw2 τ (n - (g + 1)) (ix τ (σ (n - (g + 1))) n 0)) from rfl, ← hi, show tS t n σ (g + 1) = t (n - (g + 1)) (σ (n - (g + 1))) + tS t n σ g from rfl]
      by_cases e : i = n - (g + 1)
      · rw [if_pos e, if_pos e]
        omega
      · rw [if_neg e, if_neg e]
        omega
    · rw [if_neg c]
      have h1 := hfc (g + 1) τ
      omega
/-- and one costs just this, or none was found -/
theorem sB_is (ht : ∀ p i, 0 ≤ t p i) : ∀ (g : Nat) (τ : Nat → Nat) (μ β : Int), g ≤ n → pmt n τ → sB ok t n g τ μ β = β ∨ ∃ σ : Nat → Nat, pmt n σ ∧ (∀ j, j < n - g → σ j = τ j) ∧ (∀ p, n - g ≤ p → p < n → ok p (σ p) = true) ∧ sB ok t n g τ μ β = μ + fc n σ g τ + tS t n σ g := by
  intro g
  induction g with
  | zero =>
    intro τ μ β _ hτ
    unfold sB
    by_cases c : μ < β
    · rw [if_pos c]
      refine Or.inr ⟨τ, hτ, fun _ _ => rfl, fun p h1 h2 => by omega, ?_⟩
      show μ = μ + ((0 : Nat) : Int) + 0
      omega
    · rw [if_neg c]
      exact Or.inl rfl
  | succ g ih =>
    intro τ μ β hg hτ
    unfold sB
    by_cases c : μ < β
    · rw [if_pos c]
      rcases sF_is (f := fun i β => if ok (n - (g + 1)) (τ i) = true then sB ok t n g (sw2 τ (n - (g + 1)) i) (μ + t (n - (g + 1)) (τ i) + (if i = n - (g + 1) then 0 else 1)) β else β) (g + 1) (n - (g + 1)) β with e | ⟨i, b, h1, h2, h3, h4⟩
      · exact Or.inl e
      · rw [h3]
        have h4 : (if ok (n - (g + 1)) (τ i) = true then sB ok t n g (sw2 τ (n - (g + 1)) i) (μ + t (n - (g + 1)) (τ i) + (if i = n - (g + 1) then 0 else 1)) b else b) ≠ b := h4
        show (if ok (n - (g + 1)) (τ i) = true then sB ok t n g (sw2 τ (n - (g + 1)) i) (μ + t (n - (g + 1)) (τ i) + (if i = n - (g + 1) then 0 else 1)) b else b) = β ∨ _
        by_cases ck : ok (n - (g + 1)) (τ i) = true
        · rw [if_pos ck] at h4 ⊢
          rcases ih (sw2 τ (n - (g + 1)) i) (μ + t (n - (g + 1)) (τ i) + (if i = n - (g + 1) then 0 else 1)) b (by omega) (sw2_pmt hτ (by omega) (by omega)) with e | ⟨σ, s1, s2, s3, s4⟩
          · exact absurd e h4
          · have e1 : σ (n - (g + 1)) = τ i := by
              rw [s2 (n - (g + 1)) (by omega)]
              unfold sw2
              rw [if_pos rfl]
            have e2 : ix τ (σ (n - (g + 1))) n 0 = i := ix_eq hτ (by omega) e1.symm n 0 (by omega) (by omega)
            refine Or.inr ⟨σ, s1, fun j hj => ?_, fun p p1 p2 => ?_, ?_⟩
            · rw [s2 j (by omega)]
              unfold sw2
              rw [if_neg (by omega), if_neg (by omega)]
            · by_cases e : p = n - (g + 1)
              · rw [e, e1]
                exact ck
              · exact s3 p (by omega) p2
            · rw [s4, show fc n σ (g + 1) τ = (if ix τ (σ (n - (g + 1))) n 0 = n - (g + 1) then 0 else 1) + fc n σ g (sw2 τ (n - (g + 1)) (ix τ (σ (n - (g + 1))) n 0)) from rfl, e2, show tS t n σ (g + 1) = t (n - (g + 1)) (σ (n - (g + 1))) + tS t n σ g from rfl, e1]
              by_cases e : i = n - (g + 1)
              · rw [if_pos e, if_pos e]
                omega
              · rw [if_neg e, if_neg e]
                omega
        · rw [if_neg ck] at h4
          exact absurd rfl h4
    · rw [if_neg c]
      exact Or.inl rfl
end P
/-! rounds -/
def upB (b : Nat → Nat) (x v : Nat) : Nat → Nat := fun j => if j = x then v else b j
def wk (σ : Nat → Nat) : Nat → Nat → (Nat → Nat) → (Nat → Nat)
  | 0, _, b => b
  | h + 1, x, b => if b x = 0 then wk σ h (σ x) (upB b x 1) else b
def cyc (σ : Nat → Nat) (n : Nat) : Nat → Nat → (Nat → Nat) → Nat
  | 0, _, _ => 0
  | g + 1, p, b => if b p = 1 then cyc σ n g (p + 1) b else 1 + cyc σ n g (p + 1) (wk σ (n + 1) p b)
/-! all orders by size -/
def pml : Nat → List Nat → List (List Nat)
  | 0, _ => [[]]
  | f + 1, xs => xs.flatMap (fun x => (pml f (xs.erase x)).map (fun l => x :: l))
def gf (l : List Nat) : Nat → Nat := fun j => l.getD j 0
def lsO (σ : Nat → Nat) : Nat → Nat → List Nat
  | 0, _ => []
  | g + 1, p => σ p :: lsO σ g (p + 1)
theorem lsO_mem {σ : Nat → Nat} : ∀ (g p : Nat) (xs : List Nat), (∀ j, p ≤ j → j < p + g → σ j ∈ xs) → (∀ i j, p ≤ i → i < p + g → p ≤ j → j < p + g → σ i = σ j → i = j) → lsO σ g p ∈ pml g xs := by
  intro g
  induction g with
  | zero => exact fun p xs _ _ => List.mem_singleton.mpr rfl
  | succ g ih =>
    intro p xs h1 h2
    unfold pml lsO
    refine List.mem_flatMap.mpr ⟨σ p, h1 p (by omega) (by omega), List.mem_map.mpr ⟨lsO σ g (p + 1), ?_, rfl⟩⟩
    refine ih (p + 1) _ (fun j h3 h4 => ?_) (fun i j a1 a2 a3 a4 => h2 i j (by omega) (by omega) (by omega) (by omega))
    refine (List.mem_erase_of_ne (fun e => ?_)).mpr (h1 j (by omega) (by omega))
    have := h2 j p (by omega) (by omega) (by omega) (by omega) e
    omega
theorem lsO_gf {σ : Nat → Nat} : ∀ (g p j : Nat), j < g → gf (lsO σ g p) j = σ (p + j) := by
  intro g
  induction g with
  | zero => intro p j h; omega
  | succ g ih =>
    intro p j h
    cases j with
    | zero => rfl
    | succ j =>
      have := ih (p + 1) j (by omega)
      rw [show p + 1 + j = p + (j + 1) by omega] at this
      exact this
def fi (o : Nat → Nat) : Nat → Option Nat
  | 0 => none
  | k + 1 => if o (k + 1) < o k then fi o k else some k
def fj (o : Nat → Nat) (i : Nat) : Nat → Nat
  | 0 => 0
  | j + 1 => if o (j + 1) < o i then fj o i j else j + 1
def rvO : Nat → Nat → Nat → (Nat → Nat) → (Nat → Nat)
  | 0, _, _, o => o
  | h + 1, a, b, o => if a < b then rvO h (a + 1) (b - 1) (sw2 o a b) else o
def nxf (n : Nat) (o : Nat → Nat) : Option (Nat → Nat) := match fi o (n - 1) with
  | none => none
  | some i => some (rvO n (i + 1) (n - 1) (sw2 o i (fj o i (n - 1))))
def adj (n : Nat) (l l2 : List Nat) : Bool := match nxf n (gf l) with
  | none => false
  | some o => (List.range n).all (fun j => o j == gf l2 j)
def chn (n : Nat) : List Nat → List (List Nat) → Bool
  | l, [] => (nxf n (gf l)).isNone
  | l, l2 :: xs => adj n l l2 && chn n l2 xs
def okL (n : Nat) (l : List Nat) : Bool := (List.range n).all (fun i => decide (gf l i < n) && (List.range i).all (fun j => !(gf l i == gf l j))) && (fc n (gf l) n id + cyc (gf l) n n 0 (fun _ => 0) == n)
def chk (n : Nat) : Bool := match pml n (List.range n) with
  | [] => false
  | l :: xs => (l == List.range n) && chn n l xs && (l :: xs).all (okL n)
theorem chk_5 : chk 0 = true ∧ chk 1 = true ∧ chk 2 = true ∧ chk 3 = true ∧ chk 4 = true ∧ chk 5 = true := by decide +kernel
