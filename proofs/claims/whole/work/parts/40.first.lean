def zb (p : Prop) [Decidable p] : Int := if p then 1 else 0
theorem iI10 : ¬ iI 1 = iI 0 := by decide
theorem zb_0 {p : Prop} [Decidable p] : iI (zb p) = iI 0 ↔ ¬ p := by
  unfold zb
  by_cases h : p
  · rw [if_pos h]
    exact ⟨fun h9 => absurd h9 iI10, fun h9 => absurd h h9⟩
  · rw [if_neg h]
    exact ⟨fun _ => h, fun _ => rfl⟩
theorem zb_01 (p : Prop) [Decidable p] : iI (zb p) = iI 0 ∨ iI (zb p) = iI 1 := by
  unfold zb
  split
  · exact Or.inr rfl
  · exact Or.inl rfl
abbrev vI (z : Int) (M : rMem) : Option rRes := some (.inl (some (.int (iI z))), (M, (0, 0)))
abbrev vV (M : rMem) : Option rRes := some (.inl none, (M, (0, 0)))
section S
variable {d : Nat} {m : Nat → Nat → Int} {q : Nat → Nat → Option Nat} {w : Option (Nat → Int64)}
theorem T_6 (hd : 1 ≤ d) {a b c : Int} (ha : i32 a) (hb : i32 b) (hc : i32 c) : ev d 6 [.int (iI a), .int (iI b), .int (iI c)] (mk m q w) = vI (zb (b ≤ a ∧ a ≤ c)) (mk m q w) := by
  rw [e_6 hd _ rfl rfl rfl]
  simp only [b_6_0, b_6_14, b_6_15 (Or.inl rfl), b_6_15 (Or.inr rfl), iI_lt ha hb, iI_lt hc ha]
  unfold zb
  repeat' split
  all_goals first | rfl | (exfalso; omega)
theorem T_12 (hd : 1 ≤ d) {x : Nat} (hx : iFan x) {v k : Int} (hv : i32 v) : ev d 12 [.ref x, .int (iI v), .int (iI k)] (mk m q w) = vI (if v < 2 then k else m x 0 - 1 - k) (mk m q w) := by
  rw [e_12 hd _ rfl rfl rfl]
  simp only [b_12_0 hx, b_12_17, iI_lt hv (by omega : i32 2)]
  split <;> rfl
theorem T_13 (hd : 2 ≤ d) {x : Nat} (hx : iFan x) {p : Int} (hp : i32 p) (hn : i32 (m x 0 - 1)) : ev d 13 [.ref x, .int (iI p)] (mk m q w) = vI (zb (0 ≤ p ∧ p < m x 0)) (mk m q w) := by
  rw [e_13 (by omega) _ rfl rfl]
  simp only [b_13_0 hx, T_6 (show 1 ≤ d - 1 by omega) hp (by omega : i32 0) hn, rBd_v, Option.toList_some, List.append_nil, b_13_11 (zb_01 _)]
  unfold zb
  repeat' split
  all_goals first | rfl | (exfalso; omega)
end S
