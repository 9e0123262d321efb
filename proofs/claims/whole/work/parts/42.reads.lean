/-! ===== readings of the tape, as functions on (place, kind of fault, place of fault) ===== -/
abbrev rd : Type := Nat × Int × Int
def tr (m : Nat → Nat → Int) (s : rd) : Nat → Nat → Int := tm m s.1 s.2.1 (if s.2.1 = 0 then -1 else s.2.2)
/-- within the text -/
def gd (n : Nat) (s : rd) : Prop := s.1 ≤ n ∧ i32 s.2.1
abbrev aF (T : Nat → Int) (n z : Nat) (lo hi : Int) : Prop := z < n ∧ lo ≤ T z ∧ T z ≤ hi
abbrev aOn (T : Nat → Int) (n : Nat) (lo hi : Int) (s : rd) : Prop := s.2.1 = 0 ∧ aF T n (skip T n s.1) lo hi
def aN (T : Nat → Int) (n : Nat) (s : rd) : rd := if s.2.1 = 0 then (skip T n s.1, s.2) else s
def aTk (T : Nat → Int) (n : Nat) (c : Int) (s : rd) : rd := if aOn T n c c s then (skip T n s.1 + 1, s.2) else aN T n s
def aBl (kd : Int) (z : Nat) (s : rd) : rd := if s.2.1 = 0 then (s.1, kd, (z : Int)) else s
def aEx (T : Nat → Int) (n : Nat) (c : Int) (s : rd) : rd := if aOn T n c c s then aTk T n c s else aBl 1 (aTk T n c s).1 (aTk T n c s)
def dig (T : Nat → Int) : Nat → Nat → Int → Int × Nat
  | 0, p, v => (v, p)
  | g + 1, p, v => if 48 ≤ T p ∧ T p ≤ 57 then dig T g (p + 1) (if 10000 < 10 * v + T p - 48 then 10000 else 10 * v + T p - 48) else (v, p)
theorem dig_le (T : Nat → Int) : ∀ (g p : Nat) (v : Int), 0 ≤ v → v ≤ 10000 → p ≤ (dig T g p v).2 ∧ (dig T g p v).2 ≤ p + g ∧ 0 ≤ (dig T g p v).1 ∧ (dig T g p v).1 ≤ 10000 := by
  intro g
  induction g with
  | zero => intro p v h0 h1; unfold dig; omega
  | succ g ih =>
    intro p v h0 h1
    unfold dig
    split
    · have := ih (p + 1) (if 10000 < 10 * v + T p - 48 then 10000 else 10 * v + T p - 48) (by split <;> omega) (by split <;> omega)
      omega
    · omega
/-- a number that starts behind blanks: what it is, where it ends -/
def aNum (T : Nat → Int) (n : Nat) (lo hi : Int) (s : rd) : Int × rd :=
  if s.2.1 = 0 then
    ((dig T (n - skip T n s.1) (skip T n s.1) 0).1,
      if (dig T (n - skip T n s.1) (skip T n s.1) 0).2 = skip T n s.1 then aBl 1 (skip T n s.1) ((dig T (n - skip T n s.1) (skip T n s.1) 0).2, s.2)
      else if lo ≤ (dig T (n - skip T n s.1) (skip T n s.1) 0).1 ∧ (dig T (n - skip T n s.1) (skip T n s.1) 0).1 ≤ hi then ((dig T (n - skip T n s.1) (skip T n s.1) 0).2, s.2)
      else aBl 2 (skip T n s.1) ((dig T (n - skip T n s.1) (skip T n s.1) 0).2, s.2))
  else (lo, s)
section S
variable {d n : Nat} {m : Nat → Nat → Int} {q : Nat → Nat → Option Nat} {w : Option (Nat → Int64)} {T : Nat → Int} {s : rd}
theorem aN_gd (h : gd n s) : gd n (aN T n s) := by
  unfold aN
  split
  · exact ⟨(skip_le T h.1).2, h.2⟩
  · exact h
theorem aBl_gd (h : gd n s) {kd : Int} {z : Nat} (hk : i32 kd) : gd n (aBl kd z s) := by
  unfold aBl
  split
  · exact ⟨h.1, hk⟩
  · exact h
theorem aTk_gd (h : gd n s) {c : Int} : gd n (aTk T n c s) := by
  unfold aTk
  split
  next hc => exact ⟨by have := hc.2.1; show skip T n s.1 + 1 ≤ n; omega, h.2⟩
  next => exact aN_gd h
theorem aEx_gd (h : gd n s) {c : Int} : gd n (aEx T n c s) := by
  unfold aEx
  split
  · exact aTk_gd h
  · exact aBl_gd (aTk_gd h) (by omega)
theorem aNum_gd (h : gd n s) {lo hi : Int} : gd n (aNum T n lo hi s).2 := by
  unfold aNum
  split
  · have h1 := skip_le T h.1
    have h2 := dig_le T (n - skip T n s.1) (skip T n s.1) 0 (by omega) (by omega)
    have h3 : gd n ((dig T (n - skip T n s.1) (skip T n s.1) 0).2, s.2) := ⟨by show (dig _ _ _ _).2 ≤ n; omega, h.2⟩
    dsimp only
    split
    · exact aBl_gd h3 (by omega)
    · split
      · exact h3
      · exact aBl_gd h3 (by omega)
  · exact h
theorem tr_3 : tr m s 101 3 = s.1 := tm_3 _ _ _ _
theorem tr_4 : tr m s 101 4 = s.2.1 := tm_4 _ _ _ _
theorem tr_5 : tr m s 101 5 = (if s.2.1 = 0 then -1 else s.2.2) := tm_5 _ _ _ _
theorem tr_1 : tr m s 101 1 = m 101 1 := tm_1 _ _ _ _
theorem tr_2 : tr m s 101 2 = m 101 2 := tm_2 _ _ _ _
theorem tr_o {y : Nat} (h : y ≠ 101) : tr m s y = m y := tm_o _ _ _ _ h
theorem tr_w3 {p : Nat} : wr (tr m s) 101 3 p = tr m (p, s.2) := tm_w3 _ _ _ _ _
theorem tr_w45 {kd : Int} {z : Int} (hk : kd ≠ 0) : wr (wr (tr m s) 101 4 kd) 101 5 z = tr m (s.1, kd, z) := by
  unfold tr
  rw [tm_w45]
  dsimp only
  rw [if_neg hk]
theorem U_1 (hd : 1 ≤ d) (h : gd n s) : ev d 1 [.ref 101] (mk (tr m s) q w) = vI (zb (s.2.1 ≠ 0)) (mk (tr m s) q w) := T_1 hd h.2
theorem U_2 (hd : 1 ≤ d) (h : onT m T n) (hs : gd n s) : ev d 2 [.ref 101] (mk (tr m s) q w) = vI (skip T n s.1) (mk (tr m (skip T n s.1, s.2)) q w) := T_2 hd h hs.1
theorem U_3 (hd : 1 ≤ d) (h : onT m T n) {a b : Int} (ha : i32 a) (hb : i32 b) {z : Nat} (hz : z ≤ 10000) : ev d 3 [.ref 101, .int (iI z), .int (iI a), .int (iI b)] (mk (tr m s) q w) = vI (zb (aF T n z a b)) (mk (tr m s) q w) := T_3 hd h ha hb hz
theorem zb_iff {p q : Prop} [Decidable p] [Decidable q] (h : p ↔ q) : zb p = zb q := by
  unfold zb
  by_cases hp : p
  · rw [if_pos hp, if_pos (h.mp hp)]
  · rw [if_neg hp, if_neg (fun z => hp (h.mpr z))]
theorem zb_t {p : Prop} [Decidable p] (h : p) : zb p = 1 := if_pos h
theorem zb_f {p : Prop} [Decidable p] (h : ¬ p) : zb p = 0 := if_neg h
theorem U_4 (hd : 2 ≤ d) (h : onT m T n) (hs : gd n s) : ev d 4 [.ref 101] (mk (tr m s) q w) = vI (zb (aOn T n 48 57 s)) (mk (tr m (aN T n s)) q w) := by
  have hn := h.2.2.1
  have hk := skip_le T hs.1
  rw [e_4 (by omega) _ rfl]
  simp only [b_4_0, U_1 (show 1 ≤ d - 1 by omega) hs, rBd_v, Option.toList_some, List.append_nil, b_4_4, zb_0, b_4_26, b_4_27 (Or.inl rfl)]
  unfold aN
  by_cases h0 : s.2.1 = 0
  · rw [if_pos (not_not_intro h0), if_pos h0]
    simp only [U_2 (show 1 ≤ d - 1 by omega) h hs, rBd_v, Option.toList_some, List.cons_append, List.nil_append, List.append_nil, b_4_12, U_3 (show 1 ≤ d - 1 by omega) h (by omega : i32 48) (by omega : i32 57) (show skip T n s.1 ≤ 10000 by omega), b_4_19, zb_0, b_4_26, b_4_27 (Or.inl rfl), b_4_27 (Or.inr rfl)]
    by_cases hf : aF T n (skip T n s.1) 48 57
    · rw [if_neg (not_not_intro hf), zb_t ⟨h0, hf⟩]
    · rw [if_pos hf, zb_f (fun z => hf z.2)]
  · rw [if_neg (not_not_intro h0), if_neg h0, zb_f (fun z => h0 z.1)]
end S
