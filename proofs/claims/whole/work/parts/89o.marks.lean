/-! ===== the call marks, alike ===== -/
def bits (f : Nat → Int) : Nat → Nat → Int → Int
  | 0, _, a => a
  | g + 1, k, a => bits f g (k + 1) (zOr a (zShl 1 (f k)))
section S
variable {d n : Nat} {m : Nat → Nat → Int} {q : Nat → Nat → Option Nat} {w : Option (Nat → Int64)}
theorem L_133 (hd : 5 ≤ d) {n o v : Nat} (hk : fk (m 108) n o) (hl : fl (m 109) n) (hv : v < 4) : ∀ (g k : Nat) (a : Int), k + g = n → gv d rR133 12 [some (.ref 100), some (.int (iI (v : Int))), some (.int (iI a)), some (.int (iI (k : Int)))] [] (mk m q w) = vI (bits (fun k => mkI n (m 109) (m 110) o v k) g k a) (mk m q w) := by
  intro g
  have hn := hk.2.1
  induction g with
  | zero =>
    intro k a hg
    rw [b_133_12, hk.1, if_neg (by rw [iI_lt (by omega) (by omega)]; omega)]
    rfl
  | succ g ih =>
    intro k a hg
    rw [b_133_12, hk.1, if_pos (by rw [iI_lt (by omega) (by omega)]; omega), T_19 (by omega) f108 hk hl hv (by omega) (by omega)]
    simp only [rBd_v, Option.toList_some, Option.toList_none, List.cons_append, List.nil_append, List.append_nil]
    refine Eq.trans b_133_40 ?_
    rw [show (k : Int) + 1 = ((k + 1 : Nat) : Int) from rfl, ih (k + 1) _ (by omega)]
    rfl
theorem L_232 (hd : 4 ≤ d) {n v : Nat} {f : Nat → Int} (hn7 : n ≤ 7) (h15 : m 363 15 = n) (hv : v < 4) (hl : ∀ j, j < n → 0 ≤ m 377 (28 + j) ∧ m 377 (28 + j) < 7) (ho : ∀ s, s < 7 → i32 (m 377 (35 + s))) (hf : ∀ k, k < n → f k = xm (m 377) (m 377 (28 + (pl n v k).toNat)).toNat v) : ∀ (g k : Nat) (a : Int), k + g = n → gv d rR232 28 [some (.ref 363), some (.int (iI (v : Int))), some (.int (iI a)), some (.int (iI (k : Int)))] [] (mk m q w) = vI (bits f g k a) (mk m q w) := by
  intro g
  induction g with
  | zero =>
    intro k a hg
    rw [b_232_28, h15, if_neg (by rw [iI_lt (by omega) (by omega)]; omega)]
    rfl
  | succ g ih =>
    intro k a hg
    rw [b_232_28, h15, if_pos (by rw [iI_lt (by omega) (by omega)]; omega), V_217 (n := n) (by omega) hv h15 hn7 (by omega) hl ho, ← hf k (by omega)]
    simp only [rBd_v, Option.toList_some, Option.toList_none, List.cons_append, List.nil_append, List.append_nil]
    refine Eq.trans b_232_44 ?_
    rw [show (k : Int) + 1 = ((k + 1 : Nat) : Int) from rfl, ih (k + 1) _ (by omega)]
    rfl
theorem K_marks {a : Int} (ha : i32 a) : cTH 133 232 [.int (iI a)] 1 := by
  intro m q w hR d hd
  obtain ⟨-, ⟨n0, r0, k, h0, ⟨k1, k2⟩, ⟨kF, -, -, -⟩, -, -, -, -, -, -⟩, -⟩ := id hR
  have hF : fnR n0 r0 400 (m 108) (m 109) (m 110) (m 376) := kF
  have hn7 := hF.1.2.1
  obtain ⟨o, hfk, hfl, -, -, hbt⟩ := fnR_k hF
  have hbs := hF.2.2.2.2.2.2.2.1
  obtain ⟨V, hV⟩ : ∃ V : Int, V = bits (fun k => mkI n0 (m 109) (m 110) o a.toNat k) n0 0 0 := ⟨_, rfl⟩
  have hC : ev d 133 [.ref 100, .int (iI a)] (mk m q w) = if 0 ≤ a ∧ a ≤ 3 then vI V (mk m q w) else some (.inr 0, (mk (wr m 100 17 (m 100 17 + 1)) q w, (1, 6))) := by
    rw [e_133 (by omega) _ rfl rfl, b_133_0, T_128 (by omega) ha]
    simp only [rBd_v, Option.toList_some, Option.toList_none, List.cons_append, List.nil_append, List.append_nil]
    rw [b_133_5, T_116 (by omega)]
    by_cases h : 0 ≤ a ∧ a ≤ 3
    · obtain ⟨v, rfl⟩ : ∃ v : Nat, a = v := ⟨a.toNat, by omega⟩
      rw [zb_t h, if_pos h, if_neg (by decide)]
      simp only [rBd_v, Option.toList_some, Option.toList_none, List.cons_append, List.nil_append, List.append_nil]
      rw [Int.toNat_natCast] at hV
      rw [b_133_8, hV]
      exact L_133 (by omega) hfk hfl (by omega) n0 0 0 (by omega)
    · rw [zb_f h, if_neg h, if_pos rfl]
      rfl
  have hX : ∀ m1 : Nat → Nat → Int, m1 363 = m 363 → m1 376 = m 376 → ev d 232 [.ref 363, .int (iI a)] (mk m1 q w) = if 0 ≤ a ∧ a ≤ 3 then vI V (mk (cp (wr m1 363 0 0) 376 377 48) q w) else vI 0 (mk (noX m1 1 1) q w) := by
    intro m1 h1 h2
    have e15 : cp (wr m1 363 0 0) 376 377 48 363 15 = n0 := by
      unfold cp
      rw [row_o _ _ _ (by decide), wr_b _ _ _ _ (by decide), h1]
      exact k1
    have e377 : ∀ j, j < 48 → cp (wr m1 363 0 0) 376 377 48 377 j = m 376 j := by
      intro j hj
      unfold cp
      rw [row_s, if_pos hj, wr_o _ _ _ _ (by decide), h2]
    rw [e_232 (by omega) _ rfl rfl, b_232_0, V_224 (by omega) ha]
    simp only [rBd_v, Option.toList_some, Option.toList_none, List.cons_append, List.nil_append, List.append_nil]
    rw [b_232_10, V_160 (by omega) (Or.inr rfl) (by omega) (by decide) (wr_s _ _ _ _)]
    by_cases h : 0 ≤ a ∧ a ≤ 3
    · obtain ⟨v, rfl⟩ : ∃ v : Nat, a = v := ⟨a.toNat, by omega⟩
      rw [if_pos h, if_pos h]
      simp only [rBd_v, Option.toList_some, Option.toList_none, List.cons_append, List.nil_append, List.append_nil]
      rw [b_232_15, if_neg (by decide), V_200 (by omega)]
      simp only [rBd_v, Option.toList_some, Option.toList_none, List.cons_append, List.nil_append, List.append_nil]
      rw [Int.toNat_natCast] at hV
      rw [b_232_24, hV]
      exact L_232 (by omega) hn7 e15 (by omega) (fun j hj => by
        have e1 := hbs.1 j hj
        have e2 := hbs.2.1 j hj
        rw [e377 _ (by omega)]
        omega) (fun s hs => by
        rw [e377 _ (by omega), hbt s hs]
        have := bt_01 o s
        omega) (fun k hk => mk_x hF hfk.2.2.1 hbt (by omega) hk e377) n0 0 0 (by omega)
    · rw [if_neg h, if_neg h]
      simp only [rBd_v, Option.toList_some, Option.toList_none, List.cons_append, List.nil_append, List.append_nil]
      rw [b_232_15, if_pos rfl]
      rfl
  by_cases h : 0 ≤ a ∧ a ≤ 3
  · rw [if_pos h] at hC
    have hX1 := hX m rfl rfl
    rw [if_pos h] at hX1
    refine Or.inl ⟨_, m, q, _, hC, hX1, ?_, RR_take (RR_0 hR)⟩
    unfold cp
    rw [row_o _ _ _ (by decide), wr_s]
  · rw [if_neg h] at hC
    have hX1 := hX (wr m 100 17 (m 100 17 + 1)) (wr_o _ _ _ _ (by decide)) (wr_o _ _ _ _ (by decide))
    rw [if_neg h] at hX1
    exact Or.inr ⟨0, 0, _, noX (wr m 100 17 (m 100 17 + 1)) 1 1, Or.inl rfl, hC, hX1, noX_0, RR_no0 hR⟩
end S
