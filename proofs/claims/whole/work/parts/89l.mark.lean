/-! ===== the call mark, alike ===== -/
/-- a mark that is seen: both -/
theorem mk_x {n r Q : Nat} {A B C G : Nat → Int} (hF : fnR n r Q A B C G) {o : Nat} (ho : A 6 = o) (ho2 : ∀ s, s < 7 → G (35 + s) = bt o s) {v k : Nat} (hv : v < 4) (hk : k < n) {G2 : Nat → Int} (hG : ∀ j, j < 48 → G2 j = G j) : mkI n B C o v k = xm G2 (G2 (28 + (pl n v k).toNat)).toNat v := by
  have hn := hF.1.2.1
  have hp : 0 ≤ pl n v k ∧ pl n v k < n := by
    unfold pl
    split <;> omega
  have hb := hF.2.2.2.2.2.2.2.1
  have e1 := hb.1 (pl n v k).toNat (by omega)
  have e2 := hb.2.1 (pl n v k).toNat (by omega)
  have hs : (B (pl n v k).toNat).toNat < n := by omega
  have hl := (fnR_lm hF ho2 hs hv).1
  rw [hG _ (by omega), ← e1]
  have hx : xm G2 (B (pl n v k).toNat).toNat v = xm G (B (pl n v k).toNat).toNat v := by
    unfold xm
    rw [hG (35 + (B (pl n v k).toNat).toNat) (by omega)]
    split
    · rw [hG _ (by omega)]
    · rw [hG _ (by omega)]
  rw [hx, ← hl]
  unfold mkI
  rw [if_pos hp]
theorem mk_n {n o v : Nat} {B C : Nat → Int} {k : Int} (h : (n : Int) ≤ k) : mkI n B C o v k = -1 := by
  unfold mkI pl
  rw [if_neg]
  split <;> omega
theorem RR_take {m : Nat → Nat → Int} {q : Nat → Nat → Option Nat} (hR : RR m q) : RR (cp m 376 377 48) q := by
  have ho : ∀ e, e ≠ 377 → cp m 376 377 48 e = m e := fun e h => by
    unfold cp
    rw [row_o _ _ _ h]
  refine RR_q ⟨⟨fun e h1 _ _ => ho e (by unfold scr at h1; omega), fun j _ => by rw [ho 363 (by decide)]⟩, ⟨by rw [ho 101 (by decide)], by rw [ho 101 (by decide)]⟩, by rw [ho 363 (by decide)], by rw [ho 363 (by decide)]⟩ ?_ hR
  have hS := hR.2.2.2.2.2.2
  unfold gS fB at *
  rw [ho (161 + 2) (by decide), ho 161 (by decide)]
  exact hS
section S
variable {d n : Nat} {m : Nat → Nat → Int} {q : Nat → Nat → Option Nat} {w : Option (Nat → Int64)}
theorem K_mark {a b : Int} (ha : i32 a) (hb : i32 b) : cTH 131 230 [.int (iI a), .int (iI b)] 1 := by
  intro m q w hR d hd
  obtain ⟨-, ⟨n0, r0, k, h0, ⟨k1, k2⟩, ⟨kF, -, -, -⟩, -, -, -, -, -, -⟩, -⟩ := id hR
  have hF : fnR n0 r0 400 (m 108) (m 109) (m 110) (m 376) := kF
  have hn7 := hF.1.2.1
  obtain ⟨o, hfk, hfl, -, -, hbt⟩ := fnR_k hF
  have hEc : ¬ ((0 ≤ a ∧ a ≤ 3) ∧ 0 ≤ b) → gv (d - 1) rR131 16 [some (.ref 100), some (.int (iI a)), some (.int (iI b))] [.ref 100] (mk m q w) = some (.inr 0, (mk (wr m 100 17 (m 100 17 + 1)) q w, (1, 6))) := by
    intro _
    rw [b_131_16, b_131_17, T_116 (by omega), if_pos rfl]
    rfl
  have hC : ev d 131 [.ref 100, .int (iI a), .int (iI b)] (mk m q w) = if (0 ≤ a ∧ a ≤ 3) ∧ 0 ≤ b then vI (mkI n0 (m 109) (m 110) o a.toNat b) (mk m q w) else some (.inr 0, (mk (wr m 100 17 (m 100 17 + 1)) q w, (1, 6))) := by
    rw [e_131 (by omega) _ rfl rfl rfl, b_131_0, T_128 (by omega) ha]
    simp only [rBd_v, Option.toList_some, Option.toList_none, List.cons_append, List.nil_append, List.append_nil]
    rw [b_131_5]
    simp only [zb_0]
    by_cases h : 0 ≤ a ∧ a ≤ 3
    · rw [if_neg (not_not_intro h)]
      by_cases h2 : b < 0
      · rw [if_pos (by rw [iI_lt hb (by omega)]; omega), if_neg (by omega), hEc (by omega)]
      · obtain ⟨v, rfl⟩ : ∃ v : Nat, a = v := ⟨a.toNat, by omega⟩
        rw [if_neg (by rw [iI_lt hb (by omega)]; omega), if_pos (by omega), b_131_17, T_116 (by omega), if_neg (by decide)]
        simp only [rBd_v, Option.toList_some, Option.toList_none, List.cons_append, List.nil_append, List.append_nil]
        rw [b_131_20, T_19 (by omega) f108 hfk hfl (by omega) (by omega) hb]
        simp only [rBd_v, Option.toList_some, Option.toList_none, List.cons_append, List.nil_append, List.append_nil, b_131_32]
        rw [Int.toNat_natCast]
    · rw [if_pos h, if_neg (by omega), hEc (by omega)]
  have hX : ∀ m1 : Nat → Nat → Int, m1 363 = m 363 → m1 376 = m 376 → ev d 230 [.ref 363, .int (iI a), .int (iI b)] (mk m1 q w) = if (0 ≤ a ∧ a ≤ 3) ∧ 0 ≤ b then vI (mkI n0 (m 109) (m 110) o a.toNat b) (mk (cp (wr m1 363 0 0) 376 377 48) q w) else vI 0 (mk (noX m1 1 1) q w) := by
    intro m1 h1 h2
    have key : ∀ (P : Prop) [Decidable P], (P ↔ (0 ≤ a ∧ a ≤ 3) ∧ 0 ≤ b) → gv (d - 1) rR230 22 [some (.ref 363), some (.int (iI a)), some (.int (iI b))] [.int (iI (zb P)), .ref 363] (mk (wr m1 363 0 0) q w) = if P then vI (mkI n0 (m 109) (m 110) o a.toNat b) (mk (cp (wr m1 363 0 0) 376 377 48) q w) else vI 0 (mk (noX m1 1 1) q w) := by
      intro P _ hP
      rw [b_230_22, V_160 (by omega) (Or.inr rfl) (by omega) (by decide) (wr_s _ _ _ _)]
      by_cases h : P
      · rw [if_pos h, if_pos h]
        have hg := hP.mp h
        simp only [rBd_v, Option.toList_some, Option.toList_none, List.cons_append, List.nil_append, List.append_nil]
        rw [b_230_27, if_neg (by decide), V_200 (by omega)]
        simp only [rBd_v, Option.toList_some, Option.toList_none, List.cons_append, List.nil_append, List.append_nil]
        have e15 : cp (wr m1 363 0 0) 376 377 48 363 15 = n0 := by
          unfold cp
          rw [row_o _ _ _ (by decide), wr_b _ _ _ _ (by decide), h1]
          exact k1
        have e377 : ∀ j, j < 48 → cp (wr m1 363 0 0) 376 377 48 377 j = m 376 j := by
          intro j hj
          unfold cp
          rw [row_s, if_pos hj, wr_o _ _ _ _ (by decide), h2]
        obtain ⟨v, rfl⟩ : ∃ v : Nat, a = v := ⟨a.toNat, by omega⟩
        obtain ⟨c, rfl⟩ : ∃ c : Nat, b = c := ⟨b.toNat, by omega⟩
        rw [b_230_36, e15, Int.toNat_natCast]
        by_cases hk : c < n0
        · have hbs := hF.2.2.2.2.2.2.2.1
          rw [if_pos (by rw [iI_lt (by omega) (by omega)]; omega), V_217 (n := n0) (by omega) (by omega) e15 hn7 hk (fun j hj => by
            have e1 := hbs.1 j hj
            have e2 := hbs.2.1 j hj
            rw [e377 _ (by omega)]
            omega) (fun s hs => by
            rw [e377 _ (by omega), hbt s hs]
            have := bt_01 o s
            omega)]
          simp only [rBd_v, Option.toList_some, Option.toList_none, List.cons_append, List.nil_append, List.append_nil]
          rw [b_230_50, b_230_54, ← mk_x (G2 := cp (wr m1 363 0 0) 376 377 48 377) hF hfk.2.2.1 hbt (by omega) hk e377]
        · rw [if_neg (by rw [iI_lt (by omega) (by omega)]; omega), b_230_54, mk_n (by omega)]
      · rw [if_neg h, if_neg h]
        simp only [rBd_v, Option.toList_some, Option.toList_none, List.cons_append, List.nil_append, List.append_nil]
        rw [b_230_27, if_pos rfl]
        rfl
    have hE : ¬ ((0 ≤ a ∧ a ≤ 3) ∧ 0 ≤ b) → gv (d - 1) rR230 21 [some (.ref 363), some (.int (iI a)), some (.int (iI b))] [.ref 363] (mk (wr m1 363 0 0) q w) = vI 0 (mk (noX m1 1 1) q w) := by
      intro h
      rw [b_230_21, show iI 0 = iI (zb ((0 ≤ a ∧ a ≤ 3) ∧ 0 ≤ b)) by rw [zb_f h], key _ Iff.rfl, if_neg h]
    rw [e_230 (by omega) _ rfl rfl rfl, b_230_0, V_224 (by omega) ha]
    simp only [rBd_v, Option.toList_some, Option.toList_none, List.cons_append, List.nil_append, List.append_nil]
    rw [b_230_10]
    simp only [zb_0]
    by_cases h : 0 ≤ a ∧ a ≤ 3
    · rw [if_neg (not_not_intro h)]
      by_cases h3 : b < 0
      · rw [if_pos (by rw [iI_lt hb (by omega)]; omega), if_neg (by omega), hE (by omega)]
      · rw [if_neg (by rw [iI_lt hb (by omega)]; omega), show iI 1 = iI (zb ((0 ≤ a ∧ a ≤ 3) ∧ 0 ≤ b)) by rw [zb_t (by omega)], key _ Iff.rfl]
    · rw [if_pos h, if_neg (by omega), hE (by omega)]
  by_cases h : (0 ≤ a ∧ a ≤ 3) ∧ 0 ≤ b
  · rw [if_pos h] at hC
    have hX1 := hX m rfl rfl
    rw [if_pos h] at hX1
    refine Or.inl ⟨_, m, q, _, hC, hX1, ?_, RR_take (RR_0 hR)⟩
    unfold cp
    rw [row_o _ _ _ (by decide), wr_s]
  · rw [if_neg h] at hC
    have hX1 := hX (wr m 100 17 (m 100 17 + 1)) (wr_o _ _ _ _ (by decide)) (wr_o _ _ _ _ (by decide))
    rw [if_neg h] at hX1
    exact Or.inr ⟨0, 0, _, noX (wr m 100 17 (m 100 17 + 1)) 1 1, Or.inl rfl, hC, hX1, noX_0, RR_no0 hR⟩
end S
