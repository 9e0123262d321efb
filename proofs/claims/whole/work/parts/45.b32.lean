theorem z_sh (v t : Nat) (hv : v < 33554432) (ht : t < 32) : iI v <<< (iI 5 &&& 31) ||| iI t = iI ((32 * v + t : Nat) : Int) := by
  have h5 : iI 5 &&& 31 = 5 := by decide
  rw [h5]
  apply Int32.toBitVec.inj
  apply BitVec.eq_of_toNat_eq
  rw [Int32.toBitVec_or, BitVec.toNat_or]
  have e1 : ∀ k : Nat, k < 4294967296 → (iI (k : Int)).toBitVec.toNat = k := by
    intro k hk
    show (BitVec.ofInt 32 (k : Int)).toNat = k
    rw [BitVec.ofInt_natCast, BitVec.toNat_ofNat]
    omega
  have e2 : (iI (v : Int) <<< (5 : Int32)).toBitVec.toNat = 32 * v := by
    rw [Int32.toBitVec_shiftLeft]
    have : ((5 : Int32).toBitVec.smod 32) = 5#32 := by decide
    rw [this]
    show ((iI (v : Int)).toBitVec <<< 5#32).toNat = _
    rw [BitVec.shiftLeft_eq', BitVec.toNat_shiftLeft, e1 v (by omega)]
    show (v <<< 5) % 4294967296 = _
    rw [Nat.shiftLeft_eq]
    omega
  rw [e2, e1 t (by omega), e1 _ (by omega)]
  have := Nat.shiftLeft_add_eq_or_of_lt (i := 5) (b := t) (by omega) v
  rw [Nat.shiftLeft_eq, show v * 2 ^ 5 = 32 * v by omega] at this
  exact this.symm
theorem zlet {v t : Int} (h0 : 0 ≤ v) (hv : v < 33554432) (t0 : 0 ≤ t) (ht : t < 32) : zOr (zShl v 5) t = 32 * v + t := by
  obtain ⟨a, rfl⟩ := Int.eq_ofNat_of_zero_le h0
  obtain ⟨b, rfl⟩ := Int.eq_ofNat_of_zero_le t0
  unfold zOr zShl
  rw [iI_toInt, z_sh a b (by omega) (by omega), toInt_iI (by omega)]
  omega

/-! ===== words as numbers ===== -/
def wrd (T : Nat → Int) : Nat → Nat → Int → Nat → Int × Nat
  | 0, _, v, c => (v, c)
  | g + 1, p, v, c => if 97 ≤ T p ∧ T p ≤ 122 then wrd T g (p + 1) (if c < 6 then zOr (zShl v 5) (T p - 96) else 0) (c + 1) else (v, c)
def wVal (T : Nat → Int) (n p : Nat) : Int := if 6 < (wrd T (n - p) p 0 0).2 then 0 else (wrd T (n - p) p 0 0).1
/-- where the letters end -/
def wEnd (T : Nat → Int) : Nat → Nat → Nat
  | 0, p => p
  | g + 1, p => if 97 ≤ T p ∧ T p ≤ 122 then wEnd T g (p + 1) else p
def ofL (v : Int) : List Nat → Int
  | [] => v
  | c :: l => ofL (zOr (zShl v 5) ((c : Int) - 96)) l
/-- digits, the last one first -/
def b32 : List Nat → Nat
  | [] => 0
  | c :: l => c + 32 * b32 l
theorem b32_inj : ∀ (a b : List Nat), (∀ x ∈ a, 1 ≤ x ∧ x < 32) → (∀ x ∈ b, 1 ≤ x ∧ x < 32) → b32 a = b32 b → a = b := by
  intro a
  induction a with
  | nil =>
    intro b _ hb h
    cases b with
    | nil => rfl
    | cons y b =>
      have := hb y List.mem_cons_self
      unfold b32 at h
      omega
  | cons x a ih =>
    intro b ha hb h
    cases b with
    | nil =>
      have := ha x List.mem_cons_self
      unfold b32 at h
      omega
    | cons y b =>
      have h1 := ha x List.mem_cons_self
      have h2 := hb y List.mem_cons_self
      unfold b32 at h
      have h3 : b32 a = b32 b := by omega
      have h4 : x = y := by omega
      rw [h4, ih b (fun z hz => ha z (List.mem_cons_of_mem _ hz)) (fun z hz => hb z (List.mem_cons_of_mem _ hz)) h3]
theorem b32_lt : ∀ (a : List Nat), (∀ x ∈ a, 1 ≤ x ∧ x < 32) → b32 a < 32 ^ a.length := by
  intro a
  induction a with
  | nil => intro _; exact Nat.one_pos
  | cons x a ih =>
    intro ha
    have h1 := ha x List.mem_cons_self
    have h2 := ih (fun z hz => ha z (List.mem_cons_of_mem _ hz))
    unfold b32
    rw [List.length_cons, Nat.pow_succ]
    omega
theorem pow32 {k : Nat} (h : k ≤ 5) : 32 ^ k ≤ 33554432 := Nat.le_trans (Nat.pow_le_pow_right (by omega) h) (by decide)
/-- the letters of a run are its digits -/
theorem wrd_b32 (T : Nat → Int) : ∀ (g p : Nat) (acc : List Nat), (∀ x ∈ acc, 1 ≤ x ∧ x < 32) →
    (wrd T g p (b32 acc) acc.length).2 = acc.length + (wEnd T g p - p) ∧ p ≤ wEnd T g p ∧ wEnd T g p ≤ p + g ∧
    (acc.length + (wEnd T g p - p) ≤ 6 → ∃ l : List Nat, (wrd T g p (b32 acc) acc.length).1 = b32 (l ++ acc) ∧ l.length = wEnd T g p - p ∧ (∀ x ∈ l, 1 ≤ x ∧ x < 32) ∧ ∀ i, i < l.length → T (p + i) = (l.reverse.getD i 0 : Nat) + 96) := by
  intro g
  induction g with
  | zero =>
    intro p acc h
    unfold wrd wEnd
    exact ⟨by simp, Nat.le_refl _, Nat.le_refl _, fun _ => ⟨[], rfl, by simp, fun x hx => (nomatch hx), fun i hi => absurd hi (Nat.not_lt_zero _)⟩⟩
  | succ g ih =>
    intro p acc h
    unfold wrd wEnd
    by_cases hs : 97 ≤ T p ∧ T p ≤ 122
    · rw [if_pos hs, if_pos hs]
      obtain ⟨t, ht⟩ : ∃ t : Nat, T p = (t : Int) + 96 := ⟨(T p - 96).toNat, by omega⟩
      have hacc : ∀ x ∈ t :: acc, 1 ≤ x ∧ x < 32 := fun x hx => by
        rcases List.mem_cons.mp hx with rfl | hx
        · omega
        · exact h x hx
      by_cases hc : acc.length < 6
      · have hv : zOr (zShl (b32 acc) 5) (T p - 96) = (b32 (t :: acc) : Nat) := by
          have := b32_lt acc h
          have := pow32 (k := acc.length) (by omega)
          rw [zlet (by omega) (by omega) (by omega) (by omega)]
          show _ = ((t + 32 * b32 acc : Nat) : Int)
          omega
        rw [if_pos hc, hv]
        obtain ⟨h1, h2, h3, h4⟩ := ih (p + 1) (t :: acc) hacc
        rw [List.length_cons] at h1 h4
        have e1 : wEnd T g (p + 1) - (p + 1) + 1 = wEnd T g (p + 1) - p := by
          clear h4
          omega
        refine ⟨by rw [h1]; clear h4; omega, by clear h4; omega, by clear h4; omega, fun hle => ?_⟩
        obtain ⟨l, l1, l2, l3, l4⟩ := h4 (by clear h4; omega)
        clear h4
        refine ⟨l ++ [t], ?_, by rw [List.length_append, l2]; exact e1, fun x hx => ?_, fun i hi => ?_⟩
        · rw [l1, List.append_assoc]
          rfl
        · rcases List.mem_append.mp hx with hx | hx
          · exact l3 x hx
          · exact hacc x (by rw [List.mem_singleton.mp hx]; exact List.mem_cons_self)
        · rw [List.reverse_append]
          show T (p + i) = ((t :: l.reverse).getD i 0 : Nat) + 96
          cases i with
          | zero => exact ht
          | succ i =>
            rw [List.length_append, List.length_singleton] at hi
            have := l4 i (Nat.lt_of_succ_lt_succ hi)
            rw [show p + 1 + i = p + (i + 1) by omega] at this
            exact this
      · rw [if_neg hc]
        have h9 := ih (p + 1) [] (fun x hx => nomatch hx)
        -- too long: only the count matters
        have hcnt : ∀ (g p : Nat) (v v2 : Int) (c : Nat), (wrd T g p v c).2 = (wrd T g p v2 0).2 + c := by
          intro g
          induction g with
          | zero => intro p v v2 c; unfold wrd; simp
          | succ g ih2 =>
            intro p v v2 c
            unfold wrd
            split
            · rw [ih2 (p + 1) _ 0 (c + 1), ih2 (p + 1) _ 0 (0 + 1)]
              omega
            · simp
        obtain ⟨h1, h2, h3, -⟩ := h9
        refine ⟨?_, by omega, by omega, fun hle => absurd hle (by omega)⟩
        rw [hcnt g (p + 1) 0 (b32 []) (acc.length + 1)]
        rw [show ([] : List Nat).length = 0 from rfl] at h1
        omega
    · rw [if_neg hs, if_neg hs]
      exact ⟨by simp, Nat.le_refl _, by omega, fun _ => ⟨[], rfl, by simp, fun x hx => (nomatch hx), fun i hi => absurd hi (Nat.not_lt_zero _)⟩⟩
