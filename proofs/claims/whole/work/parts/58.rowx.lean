/-! ===== the reference reads a fan's clauses ===== -/
theorem word_i {T : Nat → Int} {n p : Nat} : i32 (wVal T n p) := by
  obtain ⟨w1, w2, w3, w4⟩ := wrd_b32 T (n - p) p [] (fun x hx => nomatch hx)
  rw [show ([] : List Nat).length = 0 from rfl] at w1 w4
  have w1' : (wrd T (n - p) p 0 0).2 = wEnd T (n - p) p - p := by
    rw [Nat.zero_add] at w1
    exact w1
  unfold wVal
  rw [w1']
  by_cases hc : 6 < wEnd T (n - p) p - p
  · rw [if_pos hc]
    omega
  · rw [if_neg hc]
    obtain ⟨u, u1, u2, u3, u4⟩ := w4 (by clear w4; omega)
    clear w4
    rw [List.append_nil] at u1
    have u1' : (wrd T (n - p) p 0 0).1 = (b32 u : Nat) := u1
    have h1 := b32_lt u u3
    have h2 : 32 ^ u.length ≤ 32 ^ 6 := Nat.pow_le_pow_right (by omega) (by omega)
    rw [u1']
    have : (32 : Nat) ^ 6 = 1073741824 := by decide
    omega
theorem ofL_i {l : List Nat} (hl : isL l) : i32 (ofL 0 l) := by
  have hD : ∀ x ∈ (l.map (fun c => c - 96)).reverse, 1 ≤ x ∧ x < 32 := by
    intro x hx
    rw [List.mem_reverse] at hx
    obtain ⟨c, hc, rfl⟩ := List.mem_map.mp hx
    have := hl.2.2 c hc
    omega
  have hO : ofL 0 l = (b32 (l.map (fun c => c - 96)).reverse : Nat) := by
    have := ofL_b32 l [] hl.2.2 (fun x hx => nomatch hx) (by have := hl.2.1; simp; omega)
    rw [List.append_nil] at this
    exact this
  have h1 := b32_lt _ hD
  have h2 : 32 ^ ((l.map (fun c => c - 96)).reverse).length ≤ 32 ^ 6 := Nat.pow_le_pow_right (by omega) (by have := hl.2.1; simp; omega)
  have : (32 : Nat) ^ 6 = 1073741824 := by decide
  rw [hO]
  omega
section S
variable {d n : Nat} {m : Nat → Nat → Int} {q : Nat → Nat → Option Nat} {w : Option (Nat → Int64)} {T : Nat → Int}
theorem V_181 (hd : 11 ≤ d) {v : Int} (hv : i32 v) : ev d 181 [.int (iI v)] (mk m q w) = vI (zb (v = ofL 0 W25 ∨ v = ofL 0 W22 ∨ v = ofL 0 W18)) (mk m q w) := by
  rw [e_181 (by omega) _ rfl]
  simp only [b_181_0, V_173 (show 10 ≤ d - 1 by omega) W25_t, V_173 (show 10 ≤ d - 1 by omega) W22_t, V_173 (show 10 ≤ d - 1 by omega) W18_t, rBd_v, Option.toList_some, Option.toList_none, List.cons_append, List.nil_append, List.append_nil, b_181_6, b_181_15, b_181_24, b_181_27, b_181_32 (Or.inl rfl), b_181_32 (Or.inr rfl), iI_eq hv (ofL_i W25_l), iI_eq hv (ofL_i W22_l), iI_eq hv (ofL_i W18_l)]
  by_cases h1 : v = ofL 0 W25
  · rw [if_pos h1, zb_t (Or.inl h1)]
  · rw [if_neg h1]
    by_cases h2 : v = ofL 0 W22
    · rw [if_pos h2, zb_t (Or.inr (Or.inl h2))]
    · rw [if_neg h2]
      by_cases h3 : v = ofL 0 W18
      · rw [if_pos h3, zb_t (Or.inr (Or.inr h3))]
      · rw [if_neg h3, zb_f (fun z => z.elim h1 (fun z => z.elim h2 h3))]
end S
