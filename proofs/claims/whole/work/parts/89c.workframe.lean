/-! ===== the call work: the reference's frame ===== -/
section S
variable {d n : Nat} {m : Nat → Nat → Int} {q : Nat → Nat → Option Nat} {w : Option (Nat → Int64)}
theorem X_215o (hd : 3 ≤ d) {a : Int} {z : Nat} (ha : i32 a) (hz : z ≤ 600) (h2 : m 363 2 = z) : ev d 215 [.ref 363, .int (iI a)] (mk m q w) =
    if 0 ≤ a ∧ a ≤ z ∧ a ≤ 150 then gv (d - 1) rR215 45 [some (.ref 363), some (.int (iI a)), none, none] [] (mk (mr (bgX m a) (0, -1, m 363 6)) q w) else vI 0 (mk (noX m 1 1) q w) := by
  have h20 : (wr m 363 0 0) 363 2 = z := (wr_b _ _ _ _ (by decide)).trans h2
  have key : ∀ (P : Prop) [Decidable P], gv (d - 1) rR215 30 [some (.ref 363), some (.int (iI a)), none, none] [.int (iI (zb P)), .ref 363] (mk (wr m 363 0 0) q w) = if P then gv (d - 1) rR215 45 [some (.ref 363), some (.int (iI a)), none, none] [] (mk (mr (bgX m a) (0, -1, m 363 6)) q w) else vI 0 (mk (noX m 1 1) q w) := by
    intro P _
    rw [b_215_30, V_160 (by omega) (Or.inr rfl) (by omega) (by decide) (wr_s _ _ _ _)]
    by_cases h : P
    · rw [if_pos h, if_pos h]
      simp only [rBd_v, Option.toList_some, Option.toList_none, List.cons_append, List.nil_append, List.append_nil]
      rw [b_215_35, if_neg (by decide), V_178b (by omega)]
      simp only [rBd_v, Option.toList_some, Option.toList_none, List.cons_append, List.nil_append, List.append_nil]
    · rw [if_neg h, if_neg h]
      simp only [rBd_v, Option.toList_some, Option.toList_none, List.cons_append, List.nil_append, List.append_nil]
      rw [b_215_35, if_pos rfl]
      rfl
  have hE : ¬ (0 ≤ a ∧ a ≤ z ∧ a ≤ 150) → gv (d - 1) rR215 29 [some (.ref 363), some (.int (iI a)), none, none] [.ref 363] (mk (wr m 363 0 0) q w) = if 0 ≤ a ∧ a ≤ z ∧ a ≤ 150 then gv (d - 1) rR215 45 [some (.ref 363), some (.int (iI a)), none, none] [] (mk (mr (bgX m a) (0, -1, m 363 6)) q w) else vI 0 (mk (noX m 1 1) q w) := by
    intro h
    rw [b_215_29, show iI 0 = iI (zb (0 ≤ a ∧ a ≤ z ∧ a ≤ 150)) by rw [zb_f h], key]
  rw [e_215 (by omega) _ rfl rfl, b_215_0, h20]
  by_cases h1 : a < 0
  · rw [if_pos (by rw [iI_lt ha (by omega)]; omega), hE (by omega)]
  · rw [if_neg (by rw [iI_lt ha (by omega)]; omega)]
    by_cases h3 : z < a
    · rw [if_pos (by rw [iI_lt (by omega) ha]; omega), hE (by omega)]
    · rw [if_neg (by rw [iI_lt (by omega) ha]; omega)]
      by_cases h4 : 150 < a
      · rw [if_pos (by rw [iI_lt (by omega) ha]; omega), hE (by omega)]
      · rw [if_neg (by rw [iI_lt (by omega) ha]; omega), show iI 1 = iI (zb (0 ≤ a ∧ a ≤ z ∧ a ≤ 150)) by rw [zb_t (by omega)], key]
theorem bg_wx {a : Int} : wr (bgX m a) 363 28 0 = wx (bgX m a) (m 374) (4 * 0) 0 := by
  funext x y
  unfold wx bgX wr row
  by_cases h1 : x = 363
  · subst h1
    by_cases h2 : y = 7
    · simp [h2]
    · by_cases h3 : y = 28
      · simp [h3]
      · simp [h2, h3]
  · by_cases h2 : x = 374
    · simp [h2]
    · simp [h1, h2]
theorem X_68 (hd : 13 ≤ d) {T : Nat → Int} {n : Nat} {x1 : rd} {M : Nat → Nat → Int} {u1 u2 u3 : Option Value} (hT : onX M T n) (hs : gx n x1) (hl : x1.2.1 = -1 → ¬ aF T n (skip T n x1.1) 97 122) : gv d rR215 68 [some (.ref 363), u1, u2, u3] [] (mk (mr M x1) q w) = gv d rR215 89 [some (.ref 363), u1, u2, u3] [] (mk (mr M (xFi T n x1)) q w) := by
  have hsk := skip_le T hs.1
  have hn := hT.2.2.1
  have hF : ∀ x2 : rd, gx n x2 → x2.2.1 ≠ -1 → gv d rR215 68 [some (.ref 363), u1, u2, u3] [] (mk (mr M x2) q w) = gv d rR215 89 [some (.ref 363), u1, u2, u3] [] (mk (mr M x2) q w) := by
    intro x2 h1 h2
    rw [b_215_68, V_167 (by omega) h1]
    simp only [rBd_v, Option.toList_some, Option.toList_none, List.cons_append, List.nil_append, List.append_nil, b_215_72, zb_0]
    rw [if_pos h2]
  unfold xFi
  by_cases h0 : x1.2.1 = -1
  · rw [if_pos h0, b_215_68, V_167 (by omega) hs]
    simp only [rBd_v, Option.toList_some, Option.toList_none, List.cons_append, List.nil_append, List.append_nil, b_215_72, zb_0]
    rw [if_neg (not_not_intro h0), V_177 (by omega) hT hs]
    simp only [rBd_v, Option.toList_some, Option.toList_none, List.cons_append, List.nil_append, List.append_nil, b_215_79, zb_0]
    by_cases h1 : skip T n x1.1 < n
    · have hl2 : ¬ aF T n (skip T n (skip T n x1.1)) 97 122 := by
        rw [skip_fix T hs.1]
        exact hl h0
      rw [if_neg (not_not_intro h1), if_pos h1, X_199n (x := (skip T n x1.1, x1.2)) (by omega) hT ⟨hsk.2, hs.2⟩ hn h0 hl2]
      simp only [rBd_v, Option.toList_some, Option.toList_none, List.cons_append, List.nil_append, List.append_nil, b_215_86]
      rw [skip_fix T hs.1]
      exact hF _ ⟨hsk.2, by show i32 ((skip T n x1.1 : Nat) : Int); omega⟩ (by show ((skip T n x1.1 : Nat) : Int) ≠ -1; omega)
    · rw [if_pos h1, if_neg h1]
  · rw [if_neg h0, hF x1 hs h0]
theorem L_123 {k : Nat} (hk : k < 16) {u1 u2 : Option Value} : ∀ (g i : Nat) (m : Nat → Nat → Int), i + g = 48 → m 363 29 = k → gv d rR215 123 [some (.ref 363), u1, u2, some (.int (iI (i : Int)))] [] (mk m q w) = gv d rR215 123 [some (.ref 363), u1, u2, some (.int (iI ((48 : Nat) : Int)))] [] (mk (row m 378 (fun j => if 48 * k + i ≤ j ∧ j < 48 * k + 48 then m 376 (j - 48 * k) else m 378 j)) q w) := by
  intro g
  induction g with
  | zero =>
    intro i m hi hm
    obtain rfl : i = 48 := by omega
    rw [show (fun j : Nat => if 48 * k + 48 ≤ j ∧ j < 48 * k + 48 then m 376 (j - 48 * k) else m 378 j) = m 378 from funext fun j => if_neg (by omega), row_self]
  | succ g ih =>
    intro i m hi hm
    have hm' : ∀ (e : Nat) (v : Int), (wr m 378 e v) 363 29 = k := fun e v => by rw [wr_o _ _ _ _ (by decide)]; exact hm
    rw [b_215_123, if_pos (by rw [iI_lt (by omega) (by omega)]; omega), b_215_129 (by omega) (by omega) (by rw [hm]; omega) (by rw [hm]; omega), hm, show (i : Int) + 1 = ((i + 1 : Nat) : Int) from rfl, ih (i + 1) _ (by omega) (hm' _ _), show (48 * (k : Int) + (i : Int)).toNat = 48 * k + i by omega, Int.toNat_natCast, wr_o _ _ _ _ (show 376 ≠ 378 by decide)]
    unfold wr
    rw [row_row]
    congr 6
    funext j
    by_cases hj : j = 48 * k + i
    · subst hj
      rw [if_neg (by omega), row_s, row_s, if_pos (by omega), show 48 * k + i - 48 * k = i by omega]
    · rw [row_s, row_o _ _ _ hj]
      by_cases h1 : 48 * k + (i + 1) ≤ j ∧ j < 48 * k + 48
      · rw [if_pos h1, if_pos (by omega)]
      · rw [if_neg h1, if_neg (by omega)]
theorem X_215f (hd : 4 ≤ d) {n : Nat} {xs : rd} {M : Nat → Nat → Int} {u1 u2 u3 : Option Value} (hs : gx n xs) (h : xs.2.1 ≠ -1) : gv d rR215 89 [some (.ref 363), u1, u2, u3] [] (mk (mr M xs) q w) = vI (xs.2.2 - 10) (mk (mr (wr M 363 8 xs.2.1) xs) q w) := by
  rw [b_215_89, V_179 (by omega) hs]
  simp only [rBd_v, Option.toList_some, Option.toList_none, List.cons_append, List.nil_append, List.append_nil, b_215_94]
  rw [mr_5]
  simp only [iI_eq hs.2 (by omega : i32 (-1))]
  rw [if_neg h, if_neg h]
theorem X_215m (hd : 4 ≤ d) {n : Nat} {xs : rd} {M : Nat → Nat → Int} {u1 u2 u3 : Option Value} {k k' : Nat} (hk : k < 16) (hk' : k' ≤ 200) (hs : gx n xs) (h : xs.2.1 = -1) (h28 : M 363 28 = k') (h29 : M 363 29 = k) : ∃ M' u2' u3', gv d rR215 89 [some (.ref 363), u1, u2, u3] [] (mk (mr M xs) q w) = rBd (ev d 214 [.ref 363, .int (iI 0), .int (iI (k' : Int))] (mk M' q w)) (fun v M'' => gv d rR215 193 [some (.ref 363), u1, u2', u3'] (v.toList ++ []) M'') ∧
    (∀ e, e ≠ 363 → e ≠ 375 → e ≠ 377 → e ≠ 378 → M' e = M e) ∧ (∀ j, j ≠ 4 → j ≠ 5 → j ≠ 6 → j ≠ 8 → j ≠ 29 → j ≠ 31 → j ≠ 32 → j ≠ 33 → M' 363 j = M 363 j) ∧ (M' 363 8 = -1 ∧ M' 363 29 = ((k + 1 : Nat) : Int) ∧ M' 363 31 = 0 ∧ M' 363 32 = 0 ∧ M' 363 33 = 0) ∧ (M' 375 = fun i => if i < k' then M 374 i else M 375 i) ∧ (M' 377 = fun j => if j < 48 then M 376 j else M 377 j) ∧ (∀ j, j < 48 → M' 378 (48 * k + j) = M 376 j) ∧ (∀ j, j < 48 * k → M' 378 j = M 378 j) := by
  have c1 := fun (m : Nat → Nat → Int) => V_163 (m := m) (q := q) (w := w) (n := k') (show 1 ≤ d by omega) s_374 (by decide) s_375 (by decide) (by decide) hk' hk'
  have e28 : mr (wr M 363 8 xs.2.1) xs 363 28 = k' := by
    rw [mr_b _ _ (by decide) (by decide) (by decide), wr_b _ _ _ _ (by decide)]
    exact h28
  have e29 : ∀ f : Nat → Int, row (mr (wr M 363 8 xs.2.1) xs) 375 f 363 29 = k := by
    intro f
    rw [row_o _ _ _ (by decide), mr_b _ _ (by decide) (by decide) (by decide), wr_b _ _ _ _ (by decide)]
    exact h29
  rw [b_215_89, V_179 (by omega) hs]
  simp only [rBd_v, Option.toList_some, Option.toList_none, List.cons_append, List.nil_append, List.append_nil, b_215_94]
  rw [mr_5]
  simp only [iI_eq hs.2 (by omega : i32 (-1))]
  rw [if_pos h, if_pos h, e28, c1]
  simp only [rBd_v, Option.toList_some, Option.toList_none, List.cons_append, List.nil_append, List.append_nil]
  unfold cp
  rw [b_215_121, show iI 0 = iI ((0 : Nat) : Int) from rfl, L_123 hk 48 0 _ rfl (e29 _), b_215_123, if_neg (by decide), V_200 (by omega)]
  simp only [rBd_v, Option.toList_some, Option.toList_none, List.cons_append, List.nil_append, List.append_nil, b_215_169]
  have z28 : ∀ (m9 : Nat → Nat → Int), m9 363 28 = k' → wr (wr (wr m9 363 31 0) 363 32 0) 363 33 0 363 28 = k' := by
    intro m9 h9
    rw [wr_b _ _ _ _ (by decide), wr_b _ _ _ _ (by decide), wr_b _ _ _ _ (by decide)]
    exact h9
  rw [z28 _ (by
    unfold cp
    rw [row_o _ _ _ (by decide), wr_b _ _ _ _ (by decide), row_o _ _ _ (by decide), row_o _ _ _ (by decide)]
    exact e28)]
  refine ⟨_, _, _, rfl, ?_, ?_, ⟨?_, ?_, ?_, ?_, ?_⟩, ?_, ?_, ?_, ?_⟩
  · intro e e1 e2 e3 e4
    unfold cp
    simp only [wr_o _ _ _ _ e1, row_o _ _ _ e2, row_o _ _ _ e3, row_o _ _ _ e4, mr_o _ _ e1]
  · intro j j4 j5 j6 j8 j29 j31 j32 j33
    unfold cp
    rw [wr_b _ _ _ _ j33, wr_b _ _ _ _ j32, wr_b _ _ _ _ j31, row_o _ _ _ (by decide), wr_b _ _ _ _ j29, row_o _ _ _ (by decide), row_o _ _ _ (by decide), mr_b _ _ j4 j5 j6, wr_b _ _ _ _ j8]
  · unfold cp
    rw [wr_b _ _ _ _ (by decide), wr_b _ _ _ _ (by decide), wr_b _ _ _ _ (by decide), row_o _ _ _ (by decide), wr_b _ _ _ _ (by decide), row_o _ _ _ (by decide), row_o _ _ _ (by decide), mr_b _ _ (by decide) (by decide) (by decide), wr_s, h]
  · unfold cp
    rw [wr_b _ _ _ _ (by decide), wr_b _ _ _ _ (by decide), wr_b _ _ _ _ (by decide), row_o _ _ _ (by decide), wr_s, row_o _ _ _ (by decide), e29]
    rfl
  · rw [wr_b _ _ _ _ (by decide), wr_b _ _ _ _ (by decide), wr_s]
  · rw [wr_b _ _ _ _ (by decide), wr_s]
  · rw [wr_s]
  · unfold cp
    rw [wr_o _ _ _ _ (by decide), wr_o _ _ _ _ (by decide), wr_o _ _ _ _ (by decide), row_o _ _ _ (by decide), wr_o _ _ _ _ (by decide), row_o _ _ _ (by decide), row_s]
    simp only [mr_o (y := 374) _ _ (by decide), mr_o (y := 375) _ _ (by decide), wr_o _ _ _ _ (show 374 ≠ 363 by decide), wr_o _ _ _ _ (show 375 ≠ 363 by decide)]
  · unfold cp
    rw [wr_o _ _ _ _ (by decide), wr_o _ _ _ _ (by decide), wr_o _ _ _ _ (by decide), row_s]
    simp only [mr_o (y := 376) _ _ (by decide), mr_o (y := 377) _ _ (by decide), wr_o _ _ _ _ (show 376 ≠ 363 by decide), wr_o _ _ _ _ (show 377 ≠ 363 by decide), row_o _ _ _ (show 376 ≠ 378 by decide), row_o _ _ _ (show 377 ≠ 378 by decide), row_o _ _ _ (show 376 ≠ 375 by decide), row_o _ _ _ (show 377 ≠ 375 by decide)]
  · intro j hj
    unfold cp
    rw [wr_o _ _ _ _ (by decide), wr_o _ _ _ _ (by decide), wr_o _ _ _ _ (by decide), row_o _ _ _ (by decide), wr_o _ _ _ _ (by decide), row_s, if_pos (by omega), show 48 * k + j - 48 * k = j by omega, row_o _ _ _ (by decide), mr_o _ _ (by decide), wr_o _ _ _ _ (by decide)]
  · intro j hj
    unfold cp
    rw [wr_o _ _ _ _ (by decide), wr_o _ _ _ _ (by decide), wr_o _ _ _ _ (by decide), row_o _ _ _ (by decide), wr_o _ _ _ _ (by decide), row_s, if_neg (by omega), row_o _ _ _ (by decide), mr_o _ _ (by decide), wr_o _ _ _ _ (by decide)]
theorem X_193 (hd : 2 ≤ d) {u1 u2 u3 : Option Value} : ∃ m', gv d rR215 193 [some (.ref 363), u1, u2, u3] [] (mk m q w) = vI (m 363 32) (mk m' q w) ∧ (∀ e, e ≠ 363 → e ≠ 376 → m' e = m e) ∧ (∀ j, j ≠ 30 → m' 363 j = m 363 j) ∧ m' 363 30 = m 363 33 ∧ ∀ j, j < 48 → m' 376 j = m 377 j := by
  have c1 := V_163 (m := m) (q := q) (w := w) (n := 48) (show 1 ≤ d by omega) s_377 (by decide) s_376 (by decide) (by decide) (by decide) (by decide)
  rw [b_215_193, show iI 48 = iI ((48 : Nat) : Int) from rfl, c1]
  simp only [rBd_v, Option.toList_some, Option.toList_none, List.cons_append, List.nil_append, List.append_nil, b_215_207]
  unfold cp
  rw [wr_b _ _ _ _ (show 32 ≠ 30 by decide), row_o _ _ _ (by decide)]
  refine ⟨_, rfl, ?_, ?_, ?_, ?_⟩
  · intro e e1 e2
    rw [wr_o _ _ _ _ e1, row_o _ _ _ e2]
  · intro j hj
    rw [wr_b _ _ _ _ hj, row_o _ _ _ (by decide)]
  · rw [wr_s]
  · intro j hj
    rw [wr_o _ _ _ _ (by decide), row_s, if_pos hj]
end S
