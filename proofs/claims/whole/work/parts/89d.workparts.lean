/-! ===== the call work: what changes; the frame of the text's object ===== -/
theorem fnR_congr {n r Q : Nat} {A B C G A1 B1 C1 G1 : Nat → Int} (hA : ∀ j, j < 9 → A1 j = A j) (hB : ∀ j, j < 7 → B1 j = B j) (hC : ∀ j, j < 28 → C1 j = C j) (hG : ∀ j, j < 48 → G1 j = G j) (h : fnR n r Q A B C G) : fnR n r Q A1 B1 C1 G1 := by
  obtain ⟨⟨f0, f1, f2, f3⟩, f4, f5, f6, f7, f8, ⟨o, o1, o2, o3⟩, ⟨b1, b2, b3⟩, c1, c2⟩ := h
  unfold fnR
  rw [hA 0 (by decide), hA 1 (by decide), hA 2 (by decide), hA 3 (by decide), hA 4 (by decide), hA 5 (by decide), hA 6 (by decide), hA 7 (by decide), hA 8 (by decide), hG 42 (by decide), hG 43 (by decide), hG 44 (by decide), hG 45 (by decide), hG 46 (by decide), hG 47 (by decide)]
  refine ⟨⟨f0, f1, f2, f3⟩, f4, f5, f6, f7, f8, ⟨o, o1, o2, fun s hs => by rw [hG (35 + s) (by omega)]; exact o3 s hs⟩, ⟨fun k hk => by rw [hB k (by omega), hG (28 + k) (by omega)]; exact b1 k hk, fun k hk => by rw [hB k (by omega)]; exact b2 k hk, fun j k hj hk hjk => ?_⟩, fun i hi => by rw [hC i hi]; exact c1 i hi, fun i hi => by rw [hC i (by omega), hG i (by omega)]; exact c2 i hi⟩
  rw [hB j (by omega), hB k (by omega)] at hjk
  exact b3 j k hj hk hjk
theorem RR_gK {m m1 : Nat → Nat → Int} {q q1 : Nat → Nat → Option Nat} {n r k e z : Nat} (hR : RR m q) (h : ∀ a, a ≠ 100 → a ≠ 101 → a ≠ 363 → (a < 107 ∨ (160 < a ∧ a < 200) ∨ 358 < a) → ¬ scr a → a ≠ 376 → a ≠ 378 → a ≠ 390 → m1 a = m a) (h100 : m1 100 16 = m 100 16 ∧ m1 100 17 = m 100 17) (h3 : m1 363 24 = m 363 24 ∧ m1 363 42 = m 363 42) (hq : ∀ i j, i = 100 ∨ i = 181 → q1 i j = q i j) (hT : gT m1 z) (hK : gK n r m1 k e) (hS : gS m1) : RR m1 q1 := by
  obtain ⟨-, -, ⟨y, y', l1, l2, l3, l4, l5, lz, l6, l7⟩, ⟨p0, p1, p2, p3, p4, p5, p6, p7, p8, p9, pa, pb, ⟨z0, pc⟩, ⟨z1, pd⟩⟩, ⟨b, b', b1, b2, b3, b4, b5, bz, b6, b7, b8, b9⟩, hC, -⟩ := hR
  have hy := law_rng l3
  have hp0 := pic_three p6
  have hp1 := pic_three p7
  have hb := book_two b3
  have c : ∀ a, (a = 182 ∨ a = 183 ∨ a = 186 ∨ a = 187 ∨ (190 ≤ a ∧ a ≤ 199) ∨ (359 ≤ a ∧ a ≤ 362) ∨ a = 364 ∨ a = 365 ∨ a = 370 ∨ a = 371 ∨ a = 380 ∨ a = 381 ∨ a = 383) → m1 a = m a := fun a ha => h a (by omega) (by omega) (by omega) (by omega) (by unfold scr; omega) (by omega) (by omega) (by omega)
  refine ⟨⟨z, hT⟩, ⟨n, r, k, e, hK⟩, ⟨y, y', by rw [hq _ _ (by omega)]; exact l1, by rw [hq _ _ (by omega)]; exact l2, l3, l4, l5, lz, by rw [c y (by omega)]; exact l6, by rw [c (y + 1) (by omega), c 370 (by omega), c 371 (by omega), h3.1]; exact l7⟩, ⟨p0, p1, p2, by rw [hq _ _ (by omega)]; exact p3, by rw [hq _ _ (by omega)]; exact p4, by rw [hq _ _ (by omega)]; exact p5, p6, p7, p8, p9, pa, pb, ⟨z0, ?_⟩, ⟨z1, ?_⟩⟩, ⟨b, b', by rw [hq _ _ (by omega)]; exact b1, by rw [hq _ _ (by omega)]; exact b2, b3, b4, b5, bz, b6, by rw [c b (by omega)]; exact b7, by rw [h3.2]; exact b8, by rw [c (b + 1) (by omega), c (b + 2) (by omega), c (b + 3) (by omega), c 383 (by omega)]; exact b9⟩, ?_, hS⟩
  · unfold gP1 at *
    rw [c p0 (by omega), c (p0 + 1) (by omega), c 380 (by omega), c 381 (by omega)]
    exact pc
  · unfold gP1 at *
    rw [c p1 (by omega), c (p1 + 1) (by omega), c 380 (by omega), c 381 (by omega)]
    exact pd
  · unfold gC at *
    rw [h100.1, h100.2, c 364 (by omega)]
    exact hC
theorem k107 : iKeep 107 := (by decide +kernel : 107 ∈ keepIds)
theorem aFi_aN {T : Nat → Int} {n : Nat} {s : rd} (hs : s.1 ≤ n) : aFi T n (aN T n s) = (if s.2.1 = 0 then aFi T n s else aFi T n s) ∧ (s.2.1 = 0 → aFi T n (aN T n s) = aFi T n s) := by
  have h : s.2.1 = 0 → aFi T n (aN T n s) = aFi T n s := by
    intro h0
    unfold aN
    rw [if_pos h0]
    unfold aFi
    rw [skip_fix T hs]
  refine ⟨?_, h⟩
  rw [ite_self]
  by_cases h0 : s.2.1 = 0
  · exact h h0
  · rw [f_aN h0]
section S
variable {d n : Nat} {m : Nat → Nat → Int} {q : Nat → Nat → Option Nat} {w : Option (Nat → Int64)}
theorem T_61 (hd : 11 ≤ d) {k : Nat} (hk : k < 16) (h : m 107 2 = k) : ev d 61 [.ref 107] (mk m q w) = vV (mk (wr (bc m (112 + 3 * k) 108) 107 2 ((k + 1 : Nat) : Int)) q w) := by
  have hf := keep_bef k107 hk
  rw [e_61 (by omega) _ rfl, b_61_0 k107, h, if_pos (by rw [iI_lt (by omega) (by omega)]; omega), b_61_12 k107 (by rw [h]; omega) (by rw [h]; omega), h, Int.toNat_natCast]
  refine Eq.trans (b_61_21 k107 hf) ?_
  rw [T_22 (by omega) hf f108 (by omega)]
  simp only [rBd_v, Option.toList_some, Option.toList_none, List.cons_append, List.nil_append, List.append_nil]
  rw [b_61_28 k107, b_61_38, bc_o _ (by omega) (by omega) (by omega), h, show 107 + 5 + 3 * k = 112 + 3 * k by omega]
  rfl
theorem C_119 (hd : 40 ≤ d) {a : Int} {z k : Nat} (ha : i32 a) (hz : z ≤ 600) (h1 : m 101 1 = z) (hk : k ≤ 16) (h7 : m 107 2 = k) (hT : isT (m 102)) : ev d 119 [.ref 100, .int (iI a)] (mk m q w) =
    if 0 ≤ a ∧ a ≤ 150 ∧ a ≤ z then (if k < 16 then gv (d - 1) rR119 54 [some (.ref 100), some (.int (iI a))] [] (mk (tr (wr m 101 2 a) (0, 0, -1)) q w) else vI (-20) (mk (tr (wr (wr m 101 2 0) 101 1 0) (0, 0, -1)) q w))
    else some (.inr 0, (mk (wr m 100 17 (m 100 17 + 1)) q w, (1, 6))) := by
  rw [e_119 (by omega) _ rfl rfl, b_119_0, T_82 (by omega) ha (by omega) (by rw [h1]; omega), h1]
  simp only [rBd_v, Option.toList_some, Option.toList_none, List.cons_append, List.nil_append, List.append_nil, b_119_12]
  rw [T_116 (by omega)]
  by_cases h : 0 ≤ a ∧ a ≤ 150 ∧ a ≤ z
  · rw [if_pos h, zb_t h, if_neg (by decide)]
    simp only [rBd_v, Option.toList_some, Option.toList_none, List.cons_append, List.nil_append, List.append_nil]
    rw [b_119_15, h7]
    by_cases hk6 : k < 16
    · rw [if_pos hk6, if_pos (by rw [iI_lt (by omega) (by omega)]; omega), T_83 (by omega) ha (by rw [h1]; omega) (by rw [h1]; omega)]
      simp only [rBd_v, Option.toList_some, Option.toList_none, List.cons_append, List.nil_append, List.append_nil]
    · rw [if_neg hk6, if_neg (by rw [iI_lt (by omega) (by omega)]; omega), T_83 (by omega) (by omega) (by rw [h1]; omega) (by rw [h1]; omega)]
      simp only [rBd_v, Option.toList_some, Option.toList_none, List.cons_append, List.nil_append, List.append_nil]
      have e0 : aFi (m 102) 0 (0, 0, -1) = (0, 0, -1) := rfl
      have hO : onT (wr m 101 2 0) (m 102) 0 := ⟨wr_o _ _ _ _ (by decide), (wr_s _ _ _ _).trans rfl, by omega, hT⟩
      have hs0 : gd 0 (0, 0, -1) := ⟨Nat.le_refl _, by show i32 0; omega⟩
      rw [b_119_35, T_85 (by omega) hO hs0, e0]
      simp only [rBd_v, Option.toList_some, Option.toList_none, List.cons_append, List.nil_append, List.append_nil, b_119_42]
  · rw [if_neg h, zb_f h, if_pos rfl]
    rfl
theorem C_102 (hd : 40 ≤ d) {T : Nat → Int} {n ns : Nat} {K : Nat → Option Nat} {M1 : Nat → Nat → Int} {a : Option Value} (h8 : m 108 0 = ns) (h : gv (d - 2) rR101 3 [some (.ref 103), some (.ref 101), some (.int (iI (ns : Int))), some (.int (iI ((0 : Nat) : Int))), some (.int (iI ((0 : Nat) : Int)))] [] (mk (tr (ww m (m 105) (m 106) 0) (0, 0, -1)) (row q 104 (q 104)) w) = vV (mk M1 (row q 104 K) w)) : gv d rR119 54 [some (.ref 100), a] [] (mk (tr m (0, 0, -1)) q w) = gv d rR119 75 [some (.ref 100), a] [] (mk M1 (row q 104 K) w) := by
  have e0 : wr m 103 3 0 = ww m (m 105) (m 106) 0 := by
    unfold ww wr
    rw [row_self, row_self]
    rfl
  have eq : row q 104 (q 104) = q := row_self _ _
  rw [b_119_54, tr_o (by decide), h8, e_102 (by omega) _ rfl rfl rfl, b_102_0, tr_wo (by decide), e0, e_101 (by omega) _ rfl rfl rfl rfl, b_101_0, show d - 1 - 1 = d - 2 by omega]
  rw [eq] at h
  rw [show iI 0 = iI ((0 : Nat) : Int) from rfl, h]
  simp only [rBd_v, Option.toList_some, Option.toList_none, List.cons_append, List.nil_append, List.append_nil, b_102_12]
end S
