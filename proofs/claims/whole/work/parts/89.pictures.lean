/-! ===== the calls picture and book: what changes ===== -/
section Q
variable {m m1 : Nat → Nat → Int} {q q1 : Nat → Nat → Option Nat}
theorem RR_gP {p0 p1 : Nat} (hR : RR m q) (h : ∀ a, a ≠ 380 → a ≠ 381 → m1 a = m a) (hq : ∀ i j, i ≠ 181 → ¬ (i = 100 ∧ j = 11) → q1 i j = q i j) (hP : gP m1 q1 p0 p1) : RR m1 q1 := by
  obtain ⟨⟨z, hT⟩, ⟨n, r, k, e, ⟨k1, k2⟩, k3, k4, k5, k6, k7, k8, k9⟩, ⟨y, y', l1, l2, l3, l4, l5, lz, l6, l7⟩, -, ⟨b, b', b1, b2, b3, b4, b5, bz, b6, b7, b8, b9⟩, hC, hS⟩ := hR
  have hy := law_rng l3
  have hb := book_two b3
  have c : ∀ a, (a ≤ 379 ∨ 382 ≤ a) → m1 a = m a := fun a ha => h a (by omega) (by omega)
  refine ⟨⟨z, ?_⟩, ⟨n, r, k, e, ⟨by rw [c 363 (by omega)]; exact k1, by rw [c 363 (by omega)]; exact k2⟩, ?_, by rw [c 363 (by omega)]; exact k4, by rw [c 100 (by omega), c 363 (by omega)]; exact k5, k6, by rw [c 100 (by omega)]; exact k7, by rw [c 363 (by omega)]; exact k8, fun i hi => ?_⟩, ⟨y, y', by rw [hq _ _ (by omega) (by omega)]; exact l1, by rw [hq _ _ (by omega) (by omega)]; exact l2, l3, l4, l5, lz, by rw [c y (by omega)]; exact l6, by rw [c (y + 1) (by omega), c 370 (by omega), c 371 (by omega), c 363 (by omega)]; exact l7⟩, ⟨p0, p1, hP⟩, ⟨b, b', by rw [hq _ _ (by omega) (by omega)]; exact b1, by rw [hq _ _ (by omega) (by omega)]; exact b2, b3, b4, b5, bz, b6, by rw [c b (by omega)]; exact b7, by rw [c 363 (by omega)]; exact b8, by rw [c (b + 1) (by omega), c (b + 2) (by omega), c (b + 3) (by omega), c 383 (by omega)]; exact b9⟩, ?_, ?_⟩
  · unfold gT at *
    rw [c 102 (by omega), c 365 (by omega), c 101 (by omega), c 363 (by omega)]
    exact hT
  · exact kpR_q (fun a a1 a2 => c a (by omega)) (c 376 (by omega)) (c 378 (by omega)) k3
  · obtain ⟨e9, e1, e2⟩ := k9 i hi
    rw [c 390 (by omega)]
    exact ⟨e9, kpR_q (fun a a1 a2 => c a (by omega)) rfl rfl e1, e2⟩
  · unfold gC at *
    rw [c 100 (by omega), c 364 (by omega)]
    exact hC
  · unfold gS fB at *
    rw [c (161 + 2) (by omega), c 161 (by omega)]
    exact hS
theorem RR_gB {b : Nat} (hR : RR m q) (h : ∀ a, a ≠ 383 → a ≠ 363 → m1 a = m a) (h3 : ∀ j, j ≠ 42 → m1 363 j = m 363 j) (hq : ∀ i j, ¬ (i = 100 ∧ (j = 12 ∨ j = 13)) → q1 i j = q i j) (hB : gB m1 q1 b) : RR m1 q1 := by
  obtain ⟨⟨z, hT⟩, ⟨n, r, k, e, ⟨k1, k2⟩, k3, k4, k5, k6, k7, k8, k9⟩, ⟨y, y', l1, l2, l3, l4, l5, lz, l6, l7⟩, ⟨p0, p1, p2, p3, p4, p5, p6, p7, p8, p9, pa, pb, ⟨z0, pc⟩, ⟨z1, pd⟩⟩, -, hC, hS⟩ := hR
  have hy := law_rng l3
  have hp0 := pic_three p6
  have hp1 := pic_three p7
  have c : ∀ a, (a ≤ 362 ∨ (364 ≤ a ∧ a ≤ 382) ∨ 384 ≤ a) → m1 a = m a := fun a ha => h a (by omega) (by omega)
  refine ⟨⟨z, ?_⟩, ⟨n, r, k, e, ⟨(h3 15 (by decide)).trans k1, (h3 16 (by decide)).trans k2⟩, ?_, (h3 29 (by decide)).trans k4, by rw [c 100 (by omega), h3 30 (by decide)]; exact k5, k6, by rw [c 100 (by omega)]; exact k7, (h3 52 (by decide)).trans k8, fun i hi => ?_⟩, ⟨y, y', by rw [hq _ _ (by omega)]; exact l1, by rw [hq _ _ (by omega)]; exact l2, l3, l4, l5, lz, by rw [c y (by omega)]; exact l6, by rw [c (y + 1) (by omega), c 370 (by omega), c 371 (by omega), h3 24 (by decide)]; exact l7⟩, ⟨p0, p1, p2, by rw [hq _ _ (by omega)]; exact p3, by rw [hq _ _ (by omega)]; exact p4, by rw [hq _ _ (by omega)]; exact p5, p6, p7, p8, p9, pa, pb, ⟨z0, ?_⟩, ⟨z1, ?_⟩⟩, ⟨b, hB⟩, ?_, ?_⟩
  · unfold gT at *
    rw [c 102 (by omega), c 365 (by omega), c 101 (by omega), h3 2 (by omega), h3 8 (by omega)]
    exact hT
  · exact kpR_q (fun a a1 a2 => c a (by omega)) (c 376 (by omega)) (c 378 (by omega)) k3
  · obtain ⟨e9, e1, e2⟩ := k9 i hi
    rw [c 390 (by omega)]
    exact ⟨e9, kpR_q (fun a a1 a2 => c a (by omega)) rfl rfl e1, e2⟩
  · unfold gP1 at *
    rw [c p0 (by omega), c (p0 + 1) (by omega), c 380 (by omega), c 381 (by omega)]
    exact pc
  · unfold gP1 at *
    rw [c p1 (by omega), c (p1 + 1) (by omega), c 380 (by omega), c 381 (by omega)]
    exact pd
  · unfold gC at *
    rw [c 100 (by omega), c 364 (by omega)]
    exact hC
  · unfold gS fB at *
    rw [c (161 + 2) (by omega), c 161 (by omega)]
    exact hS
end Q
section S
variable {d n : Nat} {m : Nat → Nat → Int} {q : Nat → Nat → Option Nat} {w : Option (Nat → Int64)}
theorem V_161 (hd : 1 ≤ d) {a b c : Int} (ha : i32 a) (hb : i32 b) (hc : i32 c) : ev d 161 [.int (iI a), .int (iI b), .int (iI c)] (mk m q w) = vI (zb (b ≤ a ∧ a ≤ c)) (mk m q w) := by
  rw [e_161 hd _ rfl rfl rfl]
  simp only [b_161_0, b_161_14, b_161_15 (Or.inl rfl), b_161_15 (Or.inr rfl), iI_lt ha hb, iI_lt hc ha]
  unfold zb
  repeat' split
  all_goals first | rfl | (exfalso; omega)
theorem V_224 (hd : 1 ≤ d) {a : Int} (ha : i32 a) : ev d 224 [.int (iI a)] (mk m q w) = vI (zb (0 ≤ a ∧ a ≤ 3)) (mk m q w) := by
  rw [e_224 hd _ rfl]
  simp only [b_224_0, b_224_13, b_224_14 (Or.inl rfl), b_224_14 (Or.inr rfl), iI_lt ha (by omega : i32 0), iI_lt ha (by omega : i32 4)]
  unfold zb
  repeat' split
  all_goals first | rfl | (exfalso; omega)
theorem T_128 (hd : 2 ≤ d) {a : Int} (ha : i32 a) : ev d 128 [.int (iI a)] (mk m q w) = vI (zb (0 ≤ a ∧ a ≤ 3)) (mk m q w) := by
  rw [e_128 (by omega) _ rfl, b_128_0, T_6 (by omega) ha (by omega) (by omega)]
  simp only [rBd_v, Option.toList_some, Option.toList_none, List.cons_append, List.nil_append, List.append_nil]
  rw [b_128_6 (zb_01 _)]
theorem X_218o (hd : 3 ≤ d) {a c : Int} {z : Nat} (ha : i32 a) (hc : i32 c) (hz : z ≤ 600) (h2 : m 363 2 = z) : ev d 218 [.ref 363, .int (iI a), .int (iI c)] (mk m q w) =
    if 0 ≤ a ∧ a ≤ z ∧ a ≤ 60 ∧ 0 ≤ c ∧ c ≤ 1 then gv (d - 1) rR218 55 [some (.ref 363), some (.int (iI a)), some (.int (iI c)), some (.int (iI ((0 : Nat) : Int))), none, none] [] (mk (mr (bgX m a) (0, -1, m 363 6)) q w) else vI 0 (mk (noX m 1 1) q w) := by
  have h20 : (wr m 363 0 0) 363 2 = z := (wr_b _ _ _ _ (by decide)).trans h2
  have key : ∀ (P : Prop) [Decidable P], gv (d - 1) rR218 38 [some (.ref 363), some (.int (iI a)), some (.int (iI c)), none, none, none] [.int (iI (zb P)), .ref 363] (mk (wr m 363 0 0) q w) = if P then gv (d - 1) rR218 55 [some (.ref 363), some (.int (iI a)), some (.int (iI c)), some (.int (iI ((0 : Nat) : Int))), none, none] [] (mk (mr (bgX m a) (0, -1, m 363 6)) q w) else vI 0 (mk (noX m 1 1) q w) := by
    intro P _
    rw [b_218_38, V_160 (by omega) (Or.inr rfl) (by omega) (by decide) (wr_s _ _ _ _)]
    by_cases h : P
    · rw [if_pos h, if_pos h]
      simp only [rBd_v, Option.toList_some, Option.toList_none, List.cons_append, List.nil_append, List.append_nil]
      rw [b_218_43, if_neg (by decide), V_178b (by omega)]
      simp only [rBd_v, Option.toList_some, Option.toList_none, List.cons_append, List.nil_append, List.append_nil]
      rw [b_218_53]
      rfl
    · rw [if_neg h, if_neg h]
      simp only [rBd_v, Option.toList_some, Option.toList_none, List.cons_append, List.nil_append, List.append_nil]
      rw [b_218_43, if_pos rfl]
      rfl
  rw [e_218 (by omega) _ rfl rfl rfl, b_218_0, h20]
  have hE : ¬ (0 ≤ a ∧ a ≤ z ∧ a ≤ 60 ∧ 0 ≤ c ∧ c ≤ 1) → gv (d - 1) rR218 37 [some (.ref 363), some (.int (iI a)), some (.int (iI c)), none, none, none] [.ref 363] (mk (wr m 363 0 0) q w) = if 0 ≤ a ∧ a ≤ z ∧ a ≤ 60 ∧ 0 ≤ c ∧ c ≤ 1 then gv (d - 1) rR218 55 [some (.ref 363), some (.int (iI a)), some (.int (iI c)), some (.int (iI ((0 : Nat) : Int))), none, none] [] (mk (mr (bgX m a) (0, -1, m 363 6)) q w) else vI 0 (mk (noX m 1 1) q w) := by
    intro h
    rw [b_218_37, show iI 0 = iI (zb (0 ≤ a ∧ a ≤ z ∧ a ≤ 60 ∧ 0 ≤ c ∧ c ≤ 1)) by rw [zb_f h], key]
  by_cases h1 : a < 0
  · rw [if_pos (by rw [iI_lt ha (by omega)]; omega), hE (by omega)]
  · rw [if_neg (by rw [iI_lt ha (by omega)]; omega)]
    by_cases h3 : z < a
    · rw [if_pos (by rw [iI_lt (by omega) ha]; omega), hE (by omega)]
    · rw [if_neg (by rw [iI_lt (by omega) ha]; omega)]
      by_cases h4 : 60 < a
      · rw [if_pos (by rw [iI_lt (by omega) ha]; omega), hE (by omega)]
      · rw [if_neg (by rw [iI_lt (by omega) ha]; omega), V_161 (by omega) hc (by omega) (by omega)]
        simp only [rBd_v, Option.toList_some, Option.toList_none, List.cons_append, List.nil_append, List.append_nil]
        rw [b_218_30]
        simp only [zb_0]
        by_cases h5 : 0 ≤ c ∧ c ≤ 1
        · rw [if_neg (not_not_intro h5), show iI 1 = iI (zb (0 ≤ a ∧ a ≤ z ∧ a ≤ 60 ∧ 0 ≤ c ∧ c ≤ 1)) by rw [zb_t (by omega)], key]
        · rw [if_pos h5, hE (by omega)]
theorem L_162 {c z : Nat} (hc : c < 2) (hz : z ≤ 7) {v4 : Int} {u1 : Option Value} : ∀ (g i : Nat) (m : Nat → Nat → Int), i + g = z → gv d rR218 162 [some (.ref 363), u1, some (.int (iI c)), some (.int (iI z)), some (.int (iI v4)), some (.int (iI i))] [] (mk m q w) = vI v4 (mk (row m 380 (fun j => if 7 * c + i ≤ j ∧ j < 7 * c + z then m 379 (j - 7 * c) else m 380 j)) q w) := by
  intro g
  induction g with
  | zero =>
    intro i m hi
    rw [b_218_162, if_neg (by rw [iI_lt (by omega) (by omega)]; omega), show (fun j : Nat => if 7 * c + i ≤ j ∧ j < 7 * c + z then m 379 (j - 7 * c) else m 380 j) = m 380 from funext fun j => if_neg (by omega), row_self]
  | succ g ih =>
    intro i m hi
    rw [b_218_162, if_pos (by rw [iI_lt (by omega) (by omega)]; omega), b_218_168 (by omega) (by omega) (by omega) (by omega), show (i : Int) + 1 = ((i + 1 : Nat) : Int) from rfl, ih (i + 1) _ (by omega), show (7 * (c : Int) + (i : Int)).toNat = 7 * c + i by omega, Int.toNat_natCast, wr_o _ _ _ _ (show 379 ≠ 380 by decide)]
    unfold wr
    rw [row_row]
    congr 6
    funext j
    by_cases hj : j = 7 * c + i
    · subst hj
      rw [if_neg (by omega), row_s, row_s, if_pos (by omega), show 7 * c + i - 7 * c = i by omega]
    · rw [row_s, row_o _ _ _ hj]
      by_cases h1 : 7 * c + (i + 1) ≤ j ∧ j < 7 * c + z
      · rw [if_pos h1, if_pos (by omega)]
      · rw [if_neg h1, if_neg (by omega)]
theorem X_218e (hd : 4 ≤ d) {n : Nat} {xs : rd} {M : Nat → Nat → Int} {u1 u4 u5 : Option Value} {c z : Nat} (hc : c < 2) (hz0 : xs.2.1 = -1 → z ≤ 7) (hs : gx n xs) : ∃ v m', gv d rR218 134 [some (.ref 363), u1, some (.int (iI c)), some (.int (iI z)), u4, u5] [] (mk (mr M xs) q w) = vI v (mk m' q w) ∧
    (xs.2.1 ≠ -1 → v = xs.2.2 - 10 ∧ m' = mr (wr M 363 8 xs.2.1) xs) ∧
    (xs.2.1 = -1 → v = z ∧ (∀ e, e ≠ 363 → e ≠ 380 → e ≠ 381 → m' e = M e) ∧ (∀ j, j ≠ 4 → j ≠ 5 → j ≠ 6 → j ≠ 8 → m' 363 j = M 363 j) ∧ m' 363 8 = -1 ∧ (m' 381 c = z ∧ (∀ j, j ≠ c → m' 381 j = M 381 j)) ∧ (∀ i, i < z → m' 380 (7 * c + i) = M 379 i) ∧ ∀ j, ¬ (7 * c ≤ j ∧ j < 7 * c + z) → m' 380 j = M 380 j) := by
  rw [b_218_134, V_179 (by omega) hs]
  simp only [rBd_v, Option.toList_some, Option.toList_none, List.cons_append, List.nil_append, List.append_nil, b_218_139]
  rw [mr_5]
  simp only [iI_eq hs.2 (by omega : i32 (-1))]
  by_cases h : xs.2.1 = -1
  · have hz := hz0 h
    rw [if_pos h, if_pos h, b_218_152 (by omega) (by omega), show iI 0 = iI ((0 : Nat) : Int) from rfl, L_162 hc hz z 0 _ (by omega), Int.toNat_natCast]
    refine ⟨z, _, rfl, fun y => absurd h y, fun _ => ⟨rfl, ?_, ?_, ?_, ⟨?_, ?_⟩, ?_, ?_⟩⟩
    · intro e e1 e2 e3
      rw [row_o _ _ _ e2, wr_o _ _ _ _ e3, mr_o _ _ e1, wr_o _ _ _ _ e1]
    · intro j j4 j5 j6 j8
      rw [row_o _ _ _ (by decide), wr_o _ _ _ _ (by decide), mr_b _ _ j4 j5 j6, wr_b _ _ _ _ j8]
    · rw [row_o _ _ _ (by decide), wr_o _ _ _ _ (by decide), mr_b _ _ (by decide) (by decide) (by decide), wr_s, h]
    · rw [row_o _ _ _ (by decide), wr_s]
    · intro j hj
      rw [row_o _ _ _ (by decide), wr_b _ _ _ _ hj, mr_o _ _ (by decide), wr_o _ _ _ _ (by decide)]
    · intro i hi
      rw [row_s, if_pos (by omega), wr_o _ _ _ _ (by decide), mr_o _ _ (by decide), wr_o _ _ _ _ (by decide), show 7 * c + i - 7 * c = i by omega]
    · intro j hj
      rw [row_s, if_neg (by omega), wr_o _ _ _ _ (by decide), mr_o _ _ (by decide), wr_o _ _ _ _ (by decide)]
  · rw [if_neg h, if_neg h]
    exact ⟨xs.2.2 - 10, mr (wr M 363 8 xs.2.1) xs, rfl, fun _ => ⟨rfl, rfl⟩, fun y => absurd y h⟩
end S
