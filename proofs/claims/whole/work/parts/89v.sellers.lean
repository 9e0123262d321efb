/-! ===== the call sellers, alike ===== -/
def gn (v y i j : Int) : Int := if i = 0 then (if j = 0 then v else 0) else (if j = 0 then y else zDiv y 2)
abbrev rs (v y i j : Int) : Prop := gn v y (1 - i) j ≤ gn v y i j ∧ gn v y (1 - j) i ≤ gn v y j i
theorem gn_r {v y i j : Int} (hv : 0 ≤ v ∧ v ≤ 99) (hy : 0 ≤ y ∧ y ≤ 99) : 0 ≤ gn v y i j ∧ gn v y i j ≤ 99 := by
  have h2 : ∀ n : Nat, n < 100 → 0 ≤ zDiv (n : Int) 2 ∧ zDiv (n : Int) 2 ≤ 99 := by decide +kernel
  have h3 := h2 y.toNat (by omega)
  rw [Int.toNat_of_nonneg hy.1] at h3
  unfold gn
  split <;> split <;> omega
section S
variable {d n : Nat} {m : Nat → Nat → Int} {q : Nat → Nat → Option Nat} {w : Option (Nat → Int64)} {a b : Int}
theorem T_150 (hd : 1 ≤ d) {i j : Int} (hi : i = 0 ∨ i = 1) (hj : j = 0 ∨ j = 1) : ev d 150 [.int (iI a), .int (iI b), .int (iI i), .int (iI j)] (mk m q w) = vI (gn a b i j) (mk m q w) := by
  rw [e_150 hd _ rfl rfl rfl rfl, b_150_0]
  simp only [b_150_13, b_150_25]
  unfold gn
  rcases hi with rfl | rfl
  · rcases hj with rfl | rfl
    · rw [if_pos rfl, if_pos rfl, if_pos rfl, if_pos rfl]
    · rw [if_pos rfl, if_neg (by decide), if_pos rfl, if_neg (by decide)]
  · rcases hj with rfl | rfl
    · rw [if_neg (by decide), if_pos rfl, if_neg (by decide), if_pos rfl]
    · rw [if_neg (by decide), if_neg (by decide), if_neg (by decide), if_neg (by decide)]
theorem V_260 (hd : 1 ≤ d) {i j : Int} (hi : i = 0 ∨ i = 1) (hj : j = 0 ∨ j = 1) : ev d 260 [.int (iI i), .int (iI j), .int (iI a), .int (iI b)] (mk m q w) = vI (gn a b i j) (mk m q w) := by
  rw [e_260 hd _ rfl rfl rfl rfl, b_260_0]
  simp only [b_260_28]
  unfold gn
  rcases hi with rfl | rfl
  · rcases hj with rfl | rfl
    · rw [if_pos rfl, if_pos rfl, if_pos rfl, if_pos rfl]
    · rw [if_neg (by decide), if_pos rfl, if_pos rfl, if_neg (by decide)]
  · rcases hj with rfl | rfl
    · rw [if_neg (by decide), if_neg (by decide), if_neg (by decide), if_pos rfl]
    · rw [if_pos rfl, if_neg (by decide), if_neg (by decide), if_neg (by decide)]
theorem T_151 (hd : 2 ≤ d) (ha : 0 ≤ a ∧ a ≤ 99) (hb : 0 ≤ b ∧ b ≤ 99) {i j : Int} (hi : i = 0 ∨ i = 1) (hj : j = 0 ∨ j = 1) : ev d 151 [.int (iI a), .int (iI b), .int (iI i), .int (iI j)] (mk m q w) = vI (zb (rs a b i j)) (mk m q w) := by
  have r1 := gn_r (i := i) (j := j) ha hb
  have r2 := gn_r (i := 1 - i) (j := j) ha hb
  have r3 := gn_r (i := j) (j := i) ha hb
  have r4 := gn_r (i := 1 - j) (j := i) ha hb
  rw [e_151 (by omega) _ rfl rfl rfl rfl, b_151_0, T_150 (by omega) hi hj]
  simp only [rBd_v, Option.toList_some, Option.toList_none, List.cons_append, List.nil_append, List.append_nil]
  rw [b_151_7, T_150 (by omega) (by omega) hj]
  simp only [rBd_v, Option.toList_some, Option.toList_none, List.cons_append, List.nil_append, List.append_nil]
  rw [b_151_16]
  by_cases c : gn a b (1 - i) j ≤ gn a b i j
  · rw [if_neg (by rw [iI_lt (by omega) (by omega)]; omega), T_150 (by omega) hj hi]
    simp only [rBd_v, Option.toList_some, Option.toList_none, List.cons_append, List.nil_append, List.append_nil]
    rw [b_151_26, T_150 (by omega) (by omega) hi]
    simp only [rBd_v, Option.toList_some, Option.toList_none, List.cons_append, List.nil_append, List.append_nil]
    rw [b_151_35]
    by_cases c2 : gn a b (1 - j) i ≤ gn a b j i
    · rw [if_neg (by rw [iI_lt (by omega) (by omega)]; omega), b_151_43 (Or.inr rfl), zb_t ⟨c, c2⟩]
    · rw [if_pos (by rw [iI_lt (by omega) (by omega)]; omega), b_151_42, b_151_43 (Or.inl rfl), zb_f (fun z => c2 z.2)]
  · rw [if_pos (by rw [iI_lt (by omega) (by omega)]; omega), b_151_42, b_151_43 (Or.inl rfl), zb_f (fun z => c z.1)]
abbrev sIn (a b : Int) (k : Nat) (M F T : Int) : Prop := (M = 0 ∧ F = -1 ∧ T = 0) ∨ (0 < M ∧ M ≤ k ∧ ∃ i j : Nat, i < 2 ∧ j < 2 ∧ F = 10 * i + j ∧ T = gn a b i j + gn a b j i)
theorem sd_ok : ∀ k : Nat, k < 4 → zDiv (k : Int) 2 = ((k / 2 : Nat) : Int) ∧ zRem (k : Int) 2 = ((k % 2 : Nat) : Int) := by decide +kernel
theorem sd_f : ∀ i : Nat, i < 2 → ∀ j : Nat, j < 2 → zDiv (10 * (i : Int) + j) 10 = i ∧ zRem (10 * (i : Int) + j) 10 = j := by decide +kernel
theorem J_sell {d2 : Nat} {m2 : Nat → Nat → Int} {q2 : Nat → Nat → Option Nat} {w2 : Option (Nat → Int64)} {u0 v0 : Option Value} (hd : 3 ≤ d) (hd2 : 3 ≤ d2) (ha : 0 ≤ a ∧ a ≤ 99) (hb : 0 ≤ b ∧ b ≤ 99) {x : Int} (hx : 0 ≤ x ∧ x ≤ 2) : ∀ (g k : Nat) (M F T : Int) (u8 u9 v7 v8 : Option Value), k + g = 4 → sIn a b k M F T → ∃ V : Int,
    gv d rR152 50 [u0, some (.int (iI a)), some (.int (iI b)), some (.int (iI x)), some (.int (iI M)), some (.int (iI F)), some (.int (iI T)), some (.int (iI (k : Int))), u8, u9] [] (mk m q w) = vI V (mk m q w) ∧
    gv d2 rR261 59 [v0, some (.int (iI a)), some (.int (iI b)), some (.int (iI x)), some (.int (iI M)), some (.int (iI F)), some (.int (iI (k : Int))), v7, v8] [] (mk m2 q2 w2) = vI V (mk m2 q2 w2) := by
  intro g
  induction g with
  | zero =>
    intro k M F T u8 u9 v7 v8 hk hI
    obtain rfl : k = 4 := by omega
    rw [b_152_50, if_neg (show ¬ iI ((4 : Nat) : Int) < iI 4 by decide), b_261_59, if_neg (show ¬ iI ((4 : Nat) : Int) < iI 4 by decide)]
    rcases (show x = 0 ∨ x = 1 ∨ x = 2 by omega) with rfl | rfl | rfl
    · refine ⟨M, ?_, ?_⟩
      · rw [if_pos rfl, b_152_149]
      · rw [if_pos rfl, b_261_216]
    · refine ⟨F, ?_, ?_⟩
      · rw [if_neg (by decide), if_pos rfl, b_152_149]
      · rw [if_neg (by decide), if_pos rfl, b_261_216]
    · refine ⟨T, ?_, ?_⟩
      · rw [if_neg (by decide), if_neg (by decide), b_152_149]
      · rw [if_neg (by decide), if_neg (by decide)]
        rcases hI with ⟨h1, h2, h3⟩ | ⟨h1, h2, i, j, hi, hj, h3, h4⟩
        · rw [h2, if_pos rfl, b_261_216, h3]
        · have e := sd_f i hi j hj
          rw [h3, if_neg (by rw [iI_eq (by omega) (by omega)]; omega), e.1, e.2, V_260 (by omega) (by omega) (by omega)]
          simp only [rBd_v, Option.toList_some, Option.toList_none, List.cons_append, List.nil_append, List.append_nil]
          rw [b_261_200, e.1, e.2, V_260 (by omega) (by omega) (by omega)]
          simp only [rBd_v, Option.toList_some, Option.toList_none, List.cons_append, List.nil_append, List.append_nil]
          rw [b_261_215, b_261_216, h4]
  | succ g ih =>
    intro k M F T u8 u9 v7 v8 hk hI
    have hs := sd_ok k (by omega)
    obtain ⟨i, hi⟩ : ∃ i, i = k / 2 := ⟨_, rfl⟩
    obtain ⟨j, hj⟩ : ∃ j, j = k % 2 := ⟨_, rfl⟩
    rw [← hi, ← hj] at hs
    have i2 : i < 2 := by omega
    have j2 : j < 2 := by omega
    have ii : (i : Int) = 0 ∨ (i : Int) = 1 := by omega
    have jj : (j : Int) = 0 ∨ (j : Int) = 1 := by omega
    have r1 := gn_r (i := (i : Int)) (j := (j : Int)) ha hb
    have r2 := gn_r (i := 1 - (i : Int)) (j := (j : Int)) ha hb
    have r3 := gn_r (i := (j : Int)) (j := (i : Int)) ha hb
    have r4 := gn_r (i := 1 - (j : Int)) (j := (i : Int)) ha hb
    have hM : i32 M := by
      rcases hI with ⟨h, -, -⟩ | ⟨h1, h2, -⟩ <;> omega
    have hF : i32 F := by
      rcases hI with h | ⟨h1, h2, i, j, hi, hj, h3, h4⟩ <;> omega
    rw [b_152_50, if_pos (by rw [iI_lt (by omega) (by omega)]; omega), hs.1, hs.2, T_151 (by omega) ha hb ii jj]
    rw [b_261_59, if_pos (by rw [iI_lt (by omega) (by omega)]; omega), hs.1, hs.2, V_260 (by omega) (by omega) jj]
    simp only [rBd_v, Option.toList_some, Option.toList_none, List.cons_append, List.nil_append, List.append_nil]
    rw [b_152_77, b_261_88, V_260 (by omega) ii jj]
    simp only [rBd_v, Option.toList_some, Option.toList_none, List.cons_append, List.nil_append, List.append_nil, zb_0]
    rw [b_261_97]
    have hskip : ¬ rs a b i j → ∃ V : Int, gv d rR152 122 [u0, some (.int (iI a)), some (.int (iI b)), some (.int (iI x)), some (.int (iI M)), some (.int (iI F)), some (.int (iI T)), some (.int (iI (k : Int))), some (.int (iI (i : Int))), some (.int (iI (j : Int)))] [] (mk m q w) = vI V (mk m q w) ∧ gv d2 rR261 150 [v0, some (.int (iI a)), some (.int (iI b)), some (.int (iI x)), some (.int (iI M)), some (.int (iI F)), some (.int (iI (k : Int))), some (.int (iI (i : Int))), some (.int (iI (j : Int)))] [] (mk m2 q2 w2) = vI V (mk m2 q2 w2) := by
      intro _
      rw [b_152_122, b_261_150, show (k : Int) + 1 = ((k + 1 : Nat) : Int) from rfl]
      refine ih (k + 1) M F T _ _ _ _ (by omega) ?_
      rcases hI with h | ⟨h1, h2, h3⟩
      · exact Or.inl h
      · exact Or.inr ⟨h1, by omega, h3⟩
    by_cases c1 : gn a b (1 - i) j ≤ gn a b i j
    · rw [if_neg (show ¬ (iI (gn a b (i : Int) (j : Int)) < iI (gn a b (1 - (i : Int)) (j : Int))) by rw [iI_lt (by omega) (by omega)]; omega), V_260 (by omega) (by omega) ii]
      simp only [rBd_v, Option.toList_some, Option.toList_none, List.cons_append, List.nil_append, List.append_nil]
      rw [b_261_111, V_260 (by omega) jj ii]
      simp only [rBd_v, Option.toList_some, Option.toList_none, List.cons_append, List.nil_append, List.append_nil]
      rw [b_261_120]
      by_cases c2 : gn a b (1 - j) i ≤ gn a b j i
      · have c : rs a b i j := ⟨c1, c2⟩
        rw [if_neg (show ¬ (iI (gn a b (j : Int) (i : Int)) < iI (gn a b (1 - (j : Int)) (i : Int))) by rw [iI_lt (by omega) (by omega)]; omega), if_neg (not_not_intro c)]
        simp only [iI_eq hM (show i32 0 by omega), iI_eq hF (show i32 (-1) by omega)]
        rcases hI with ⟨h1, h2, h3⟩ | ⟨h1, h2, i', j', hi', hj', h3, h4⟩
        · rw [if_pos h1, if_pos h2, T_150 (by omega) ii jj]
          simp only [rBd_v, Option.toList_some, Option.toList_none, List.cons_append, List.nil_append, List.append_nil]
          rw [b_152_107, T_150 (by omega) jj ii]
          simp only [rBd_v, Option.toList_some, Option.toList_none, List.cons_append, List.nil_append, List.append_nil]
          rw [b_152_116, b_152_119, b_152_122, b_261_148, b_261_150, show (k : Int) + 1 = ((k + 1 : Nat) : Int) from rfl]
          exact ih (k + 1) _ _ _ _ _ _ _ (by omega) (Or.inr ⟨by omega, by omega, i, j, i2, j2, rfl, rfl⟩)
        · rw [if_neg (by omega), if_neg (by omega), b_152_119, b_152_122, b_261_148, b_261_150, show (k : Int) + 1 = ((k + 1 : Nat) : Int) from rfl]
          exact ih (k + 1) _ _ _ _ _ _ _ (by omega) (Or.inr ⟨by omega, by omega, i', j', hi', hj', h3, h4⟩)
      · rw [if_pos (show iI (gn a b (j : Int) (i : Int)) < iI (gn a b (1 - (j : Int)) (i : Int)) by rw [iI_lt (by omega) (by omega)]; omega), if_pos (fun z => c2 z.2)]
        exact hskip (fun z => c2 z.2)
    · rw [if_pos (show iI (gn a b (i : Int) (j : Int)) < iI (gn a b (1 - (i : Int)) (j : Int)) by rw [iI_lt (by omega) (by omega)]; omega), if_pos (fun z => c1 z.1)]
      exact hskip (fun z => c1 z.1)
theorem K_sellers {a b c : Int} (ha : i32 a) (hb : i32 b) (hc : i32 c) : cTH 152 261 [.int (iI a), .int (iI b), .int (iI c)] 1 := by
  intro m q w hR d hd
  have hE : gv (d - 1) rR152 34 [some (.ref 100), some (.int (iI a)), some (.int (iI b)), some (.int (iI c)), none, none, none, none, none, none] [.ref 100] (mk m q w) = some (.inr 0, (mk (wr m 100 17 (m 100 17 + 1)) q w, (1, 6))) := by
    rw [b_152_34, b_152_35, T_116 (by omega), if_pos rfl]
    rfl
  have key : ∀ (m1 : Nat → Nat → Int) (P : Prop) [Decidable P], gv (d - 1) rR261 40 [some (.ref 363), some (.int (iI a)), some (.int (iI b)), some (.int (iI c)), none, none, none, none, none] [.int (iI (zb P)), .ref 363] (mk (wr m1 363 0 0) q w) = if P then gv (d - 1) rR261 59 [some (.ref 363), some (.int (iI a)), some (.int (iI b)), some (.int (iI c)), some (.int (iI 0)), some (.int (iI (-1))), some (.int (iI 0)), none, none] [] (mk (wr m1 363 0 0) q w) else vI 0 (mk (noX m1 1 1) q w) := by
    intro m1 P _
    rw [b_261_40, V_160 (by omega) (Or.inr rfl) (by omega) (by decide) (wr_s _ _ _ _)]
    by_cases h : P
    · rw [if_pos h, if_pos h]
      simp only [rBd_v, Option.toList_some, Option.toList_none, List.cons_append, List.nil_append, List.append_nil]
      rw [b_261_45, if_neg (by decide)]
    · rw [if_neg h, if_neg h]
      simp only [rBd_v, Option.toList_some, Option.toList_none, List.cons_append, List.nil_append, List.append_nil]
      rw [b_261_45, if_pos rfl]
      rfl
  have hXE : ∀ m1 : Nat → Nat → Int, gv (d - 1) rR261 39 [some (.ref 363), some (.int (iI a)), some (.int (iI b)), some (.int (iI c)), none, none, none, none, none] [.ref 363] (mk (wr m1 363 0 0) q w) = vI 0 (mk (noX m1 1 1) q w) := by
    intro m1
    rw [b_261_39, show iI 0 = iI (zb False) from rfl, key, if_neg not_false]
  have hC : ev d 152 [.ref 100, .int (iI a), .int (iI b), .int (iI c)] (mk m q w) = if (0 ≤ a ∧ a ≤ 99) ∧ (0 ≤ b ∧ b ≤ 99) ∧ (0 ≤ c ∧ c ≤ 2) then gv (d - 1) rR152 50 [some (.ref 100), some (.int (iI a)), some (.int (iI b)), some (.int (iI c)), some (.int (iI 0)), some (.int (iI (-1))), some (.int (iI 0)), some (.int (iI 0)), none, none] [] (mk m q w) else some (.inr 0, (mk (wr m 100 17 (m 100 17 + 1)) q w, (1, 6))) := by
    rw [e_152 (by omega) _ rfl rfl rfl rfl, b_152_0, T_6 (by omega) ha (by omega) (by omega)]
    simp only [rBd_v, Option.toList_some, Option.toList_none, List.cons_append, List.nil_append, List.append_nil]
    rw [b_152_8]
    simp only [zb_0]
    by_cases h1 : 0 ≤ a ∧ a ≤ 99
    · rw [if_neg (not_not_intro h1), T_6 (by omega) hb (by omega) (by omega)]
      simp only [rBd_v, Option.toList_some, Option.toList_none, List.cons_append, List.nil_append, List.append_nil]
      rw [b_152_18]
      simp only [zb_0]
      by_cases h2 : 0 ≤ b ∧ b ≤ 99
      · rw [if_neg (not_not_intro h2), T_6 (by omega) hc (by omega) (by omega)]
        simp only [rBd_v, Option.toList_some, Option.toList_none, List.cons_append, List.nil_append, List.append_nil]
        rw [b_152_27]
        simp only [zb_0]
        by_cases h3 : 0 ≤ c ∧ c ≤ 2
        · rw [if_neg (not_not_intro h3), if_pos ⟨h1, h2, h3⟩, b_152_35, T_116 (by omega), if_neg (by decide)]
          simp only [rBd_v, Option.toList_some, Option.toList_none, List.cons_append, List.nil_append, List.append_nil]
          rw [b_152_38]
        · rw [if_pos h3, if_neg (fun z => h3 z.2.2), hE]
      · rw [if_pos h2, if_neg (fun z => h2 z.2.1), hE]
    · rw [if_pos h1, if_neg (fun z => h1 z.1), hE]
  have hX : ∀ m1 : Nat → Nat → Int, ev d 261 [.ref 363, .int (iI a), .int (iI b), .int (iI c)] (mk m1 q w) = if (0 ≤ a ∧ a ≤ 99) ∧ (0 ≤ b ∧ b ≤ 99) ∧ (0 ≤ c ∧ c ≤ 2) then gv (d - 1) rR261 59 [some (.ref 363), some (.int (iI a)), some (.int (iI b)), some (.int (iI c)), some (.int (iI 0)), some (.int (iI (-1))), some (.int (iI 0)), none, none] [] (mk (wr m1 363 0 0) q w) else vI 0 (mk (noX m1 1 1) q w) := by
    intro m1
    rw [e_261 (by omega) _ rfl rfl rfl rfl, b_261_0, V_161 (by omega) ha (by omega) (by omega)]
    simp only [rBd_v, Option.toList_some, Option.toList_none, List.cons_append, List.nil_append, List.append_nil]
    rw [b_261_13]
    simp only [zb_0]
    by_cases h1 : 0 ≤ a ∧ a ≤ 99
    · rw [if_neg (not_not_intro h1), V_161 (by omega) hb (by omega) (by omega)]
      simp only [rBd_v, Option.toList_some, Option.toList_none, List.cons_append, List.nil_append, List.append_nil]
      rw [b_261_23]
      simp only [zb_0]
      by_cases h2 : 0 ≤ b ∧ b ≤ 99
      · rw [if_neg (not_not_intro h2), V_161 (by omega) hc (by omega) (by omega)]
        simp only [rBd_v, Option.toList_some, Option.toList_none, List.cons_append, List.nil_append, List.append_nil]
        rw [b_261_32]
        simp only [zb_0]
        by_cases h3 : 0 ≤ c ∧ c ≤ 2
        · rw [if_neg (not_not_intro h3), if_pos ⟨h1, h2, h3⟩, show iI 1 = iI (zb True) from rfl, key, if_pos trivial]
        · rw [if_pos h3, if_neg (fun z => h3 z.2.2), hXE]
      · rw [if_pos h2, if_neg (fun z => h2 z.2.1), hXE]
    · rw [if_pos h1, if_neg (fun z => h1 z.1), hXE]
  by_cases h : (0 ≤ a ∧ a ≤ 99) ∧ (0 ≤ b ∧ b ≤ 99) ∧ (0 ≤ c ∧ c ≤ 2)
  · rw [if_pos h] at hC
    have hX1 := hX m
    rw [if_pos h] at hX1
    obtain ⟨V, e1, e2⟩ := J_sell (d := d - 1) (d2 := d - 1) (m := m) (q := q) (w := w) (m2 := wr m 363 0 0) (q2 := q) (w2 := w) (u0 := some (.ref 100)) (v0 := some (.ref 363)) (by omega) (by omega) h.1 h.2.1 h.2.2 4 0 0 (-1) 0 none none none none (by omega) (Or.inl ⟨rfl, rfl, rfl⟩)
    exact q_in (hC.trans e1) (hX1.trans e2) (wr_s _ _ _ _) (RR_0 hR)
  · rw [if_neg h] at hC
    have hX1 := hX (wr m 100 17 (m 100 17 + 1))
    rw [if_neg h] at hX1
    exact q_no hR hC hX1
end S
