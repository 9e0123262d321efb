/-! ===== the call seen, alike ===== -/
section S
variable {d n : Nat} {m : Nat → Nat → Int} {q : Nat → Nat → Option Nat} {w : Option (Nat → Int64)}
theorem K_seen {b : Int} (hb : i32 b) : cTH 132 231 [.int (iI b)] 1 := by
  intro m q w hR d hd
  obtain ⟨-, ⟨n0, r0, k, h0, ⟨k1, k2⟩, ⟨kF, -, -, -⟩, -, -, -, -, -, -⟩, -⟩ := id hR
  have hF : fnR n0 r0 400 (m 108) (m 109) (m 110) (m 376) := kF
  have hn7 := hF.1.2.1
  obtain ⟨o, hfk, hfl, -, -, hbt⟩ := fnR_k hF
  obtain ⟨f7, f8, f78⟩ := hF.2.2.2.2.2.1
  obtain ⟨V, hV⟩ : ∃ V : Int, V = if b < m 108 8 then mkI n0 (m 109) (m 110) o (m 108 7).toNat b else -1 := ⟨_, rfl⟩
  have hC : ev d 132 [.ref 100, .int (iI b)] (mk m q w) = if 0 ≤ b then vI V (mk m q w) else some (.inr 0, (mk (wr m 100 17 (m 100 17 + 1)) q w, (1, 6))) := by
    rw [e_132 (by omega) _ rfl rfl, b_132_0]
    by_cases h : 0 ≤ b
    · rw [if_neg (by rw [iI_lt hb (by omega)]; omega), if_pos h, b_132_10, T_116 (by omega), if_neg (by decide)]
      simp only [rBd_v, Option.toList_some, Option.toList_none, List.cons_append, List.nil_append, List.append_nil]
      rw [b_132_13, T_23 (by omega) f108 (by omega)]
      simp only [rBd_v, Option.toList_some, Option.toList_none, List.cons_append, List.nil_append, List.append_nil]
      rw [b_132_25]
      simp only [zb_0]
      by_cases h7 : m 108 7 = -1
      · rw [if_neg (not_not_intro h7), b_132_36, b_132_49, hV, if_neg (by omega)]
      · rw [if_pos h7]
        by_cases h8 : b < m 108 8
        · obtain ⟨v, hv⟩ : ∃ v : Nat, m 108 7 = v := ⟨(m 108 7).toNat, by omega⟩
          rw [if_pos (by rw [iI_lt hb (by omega)]; omega), hv, T_19 (by omega) f108 hfk hfl (by omega) h hb]
          simp only [rBd_v, Option.toList_some, Option.toList_none, List.cons_append, List.nil_append, List.append_nil, b_132_49]
          rw [hV, if_pos h8, hv, Int.toNat_natCast]
        · rw [if_neg (by rw [iI_lt hb (by omega)]; omega), b_132_36, b_132_49, hV, if_neg h8]
    · rw [if_pos (by rw [iI_lt hb (by omega)]; omega), if_neg h, b_132_10, T_116 (by omega), if_pos rfl]
      rfl
  have hX : ∀ m1 : Nat → Nat → Int, m1 363 = m 363 → m1 376 = m 376 → ev d 231 [.ref 363, .int (iI b)] (mk m1 q w) = if 0 ≤ b then vI V (mk (cp (wr m1 363 0 0) 376 377 48) q w) else vI 0 (mk (noX m1 1 1) q w) := by
    intro m1 h1 h2
    have e15 : cp (wr m1 363 0 0) 376 377 48 363 15 = n0 := by
      unfold cp
      rw [row_o _ _ _ (by decide), wr_b _ _ _ _ (by decide), h1]
      exact k1
    have e377 : ∀ j, j < 48 → cp (wr m1 363 0 0) 376 377 48 377 j = m 376 j := by
      intro j hj
      unfold cp
      rw [row_s, if_pos hj, wr_o _ _ _ _ (by decide), h2]
    rw [e_231 (by omega) _ rfl rfl, b_231_0]
    by_cases h : 0 ≤ b
    · rw [if_neg (by rw [iI_lt hb (by omega)]; omega), if_pos h, show iI 1 = iI (zb (0 ≤ b)) by rw [zb_t h], b_231_15, V_160 (by omega) (Or.inr rfl) (by omega) (by decide) (wr_s _ _ _ _), if_pos h]
      simp only [rBd_v, Option.toList_some, Option.toList_none, List.cons_append, List.nil_append, List.append_nil]
      rw [b_231_20, if_neg (by decide), V_200 (by omega)]
      simp only [rBd_v, Option.toList_some, Option.toList_none, List.cons_append, List.nil_append, List.append_nil]
      rw [b_231_29, e377 46 (by decide), e377 45 (by decide), ← f8, ← f7]
      obtain ⟨c, rfl⟩ : ∃ c : Nat, b = c := ⟨b.toNat, by omega⟩
      by_cases h8 : (c : Int) < m 108 8
      · obtain ⟨v, hv⟩ : ∃ v : Nat, m 108 7 = v := ⟨(m 108 7).toNat, by omega⟩
        have hk : c < n0 := by omega
        have hbs := hF.2.2.2.2.2.2.2.1
        rw [if_pos (by rw [iI_lt hb (by omega)]; omega), hv, V_217 (n := n0) (by omega) (by omega) e15 hn7 hk (fun j hj => by
            have e1 := hbs.1 j hj
            have e2 := hbs.2.1 j hj
            rw [e377 _ (by omega)]
            omega) (fun s hs => by
            rw [e377 _ (by omega), hbt s hs]
            have := bt_01 o s
            omega)]
        simp only [rBd_v, Option.toList_some, Option.toList_none, List.cons_append, List.nil_append, List.append_nil]
        rw [b_231_52, b_231_56, ← mk_x (G2 := cp (wr m1 363 0 0) 376 377 48 377) hF hfk.2.2.1 hbt (by omega) hk e377, hV, if_pos h8, hv, Int.toNat_natCast]
      · rw [if_neg (by rw [iI_lt hb (by omega)]; omega), b_231_56, hV, if_neg h8]
    · rw [if_pos (by rw [iI_lt hb (by omega)]; omega), if_neg h, show iI 0 = iI (zb (0 ≤ b)) by rw [zb_f h], b_231_15, V_160 (by omega) (Or.inr rfl) (by omega) (by decide) (wr_s _ _ _ _), if_neg h]
      simp only [rBd_v, Option.toList_some, Option.toList_none, List.cons_append, List.nil_append, List.append_nil]
      rw [b_231_20, if_pos rfl]
      rfl
  by_cases h : 0 ≤ b
  · rw [if_pos h] at hC
    have hX1 := hX m rfl rfl
    rw [if_pos h] at hX1
    refine Or.inl ⟨_, m, q, _, hC, hX1, ?_, RR_take (RR_0 hR)⟩
    unfold cp
    rw [row_o _ _ _ (by decide), wr_s]
  · rw [if_neg h] at hC
    have hX1 := hX (wr m 100 17 (m 100 17 + 1)) (wr_o _ _ _ _ (by decide)) (wr_o _ _ _ _ (by decide))
    rw [if_neg h] at hX1
    exact Or.inr ⟨0, 0, _, noX (wr m 100 17 (m 100 17 + 1)) 1 1, Or.inl rfl, hC, hX1, noX_0, RR_no0 hR⟩
end S
