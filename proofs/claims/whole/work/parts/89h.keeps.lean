/-! ===== the calls image and restore: rows are kept and taken back ===== -/
theorem keep_far {x y : Nat} (hx : iKeep x) (hy : iKeep y) (h : x ≠ y) : x + 53 ≤ y ∨ y + 53 ≤ x := (by decide +kernel : ∀ x ∈ keepIds, ∀ y ∈ keepIds, x ≠ y → x + 53 ≤ y ∨ y + 53 ≤ x) x hx y hy h
theorem keep_im {i : Nat} (h : i < 3) : iKeep (200 + 53 * i) := (by unfold iKeep; decide +kernel : ∀ i, i < 3 → iKeep (200 + 53 * i)) i h
section S
variable {d n : Nat} {m : Nat → Nat → Int} {q : Nat → Nat → Option Nat} {w : Option (Nat → Int64)} {x p : Nat}
theorem L_60 (hd : 10 ≤ d) (hx : iKeep x) (hp : iKeep p) (hfar : x + 53 ≤ p ∨ p + 53 ≤ x) {k : Nat} (hk : k ≤ 16) : ∀ (g i : Nat) (m : Nat → Nat → Int), i + g = k → m x 2 = k → ∃ m', gv d rR60 21 [some (.ref x), some (.ref p), some (.int (iI (i : Int)))] [] (mk m q w) = vV (mk m' q w) ∧ (∀ e, (e < x + 5 + 3 * i ∨ x + 52 < e) → m' e = m e) ∧
    ∀ l, i ≤ l → l < k → (∀ j, j < 9 → m' (x + 5 + 3 * l) j = m (p + 5 + 3 * l) j) ∧ (∀ j, j < 7 → m' (x + 6 + 3 * l) j = m (p + 6 + 3 * l) j) ∧ (∀ j, j < 28 → m' (x + 7 + 3 * l) j = m (p + 7 + 3 * l) j) := by
  intro g
  induction g with
  | zero =>
    intro i m hi hm
    refine ⟨m, ?_, fun _ _ => rfl, fun l h1 h2 => by omega⟩
    rw [b_60_21 hp hx, hm, if_neg (by rw [iI_lt (by omega) (by omega)]; omega), b_60_59]
  | succ g ih =>
    intro i m hi hm
    have f1 := keep_bef hx (show i < 16 by omega)
    have f2 := keep_bef hp (show i < 16 by omega)
    have hb : ∀ e, e ≠ x + 5 + 3 * i → e ≠ x + 6 + 3 * i → e ≠ x + 7 + 3 * i → bc m (x + 5 + 3 * i) (p + 5 + 3 * i) e = m e := fun e h1 h2 h3 => bc_o m h1 (by omega) (by omega)
    obtain ⟨m', h1, h2, h3⟩ := ih (i + 1) (bc m (x + 5 + 3 * i) (p + 5 + 3 * i)) (by omega) (by rw [hb x (by omega) (by omega) (by omega)]; exact hm)
    refine ⟨m', ?_, fun e he => ?_, fun l l1 l2 => ?_⟩
    · rw [b_60_21 hp hx, hm, if_pos (by rw [iI_lt (by omega) (by omega)]; omega), if_pos (by rw [iI_lt (by omega) (by omega)]; omega), b_60_38 hp hx (by omega) (by omega), Int.toNat_natCast]
      refine Eq.trans (b_60_44 hp hx f1 (by omega) (by omega)) ?_
      rw [Int.toNat_natCast]
      refine Eq.trans (b_60_50 hp hx f1 f2) ?_
      rw [T_22 hd f1 f2 (by omega)]
      simp only [rBd_v, Option.toList_some, Option.toList_none, List.cons_append, List.nil_append, List.append_nil]
      rw [b_60_53 hp hx, show (i : Int) + 1 = ((i + 1 : Nat) : Int) from rfl]
      exact h1
    · rw [h2 e (by omega), hb e (by omega) (by omega) (by omega)]
    · by_cases hl : l = i
      · subst hl
        refine ⟨fun j hj => ?_, fun j hj => ?_, fun j hj => ?_⟩
        · rw [h2 _ (by omega), bc_0 _ hj]
        · rw [h2 _ (by omega), show x + 6 + 3 * l = x + 5 + 3 * l + 1 by omega, bc_1 _ hj, show p + 5 + 3 * l + 1 = p + 6 + 3 * l by omega]
        · rw [h2 _ (by omega), show x + 7 + 3 * l = x + 5 + 3 * l + 2 by omega, bc_2 _ hj, show p + 5 + 3 * l + 2 = p + 7 + 3 * l by omega]
      · obtain ⟨v1, v2, v3⟩ := h3 l (by omega) l2
        refine ⟨fun j hj => ?_, fun j hj => ?_, fun j hj => ?_⟩
        · rw [v1 j hj, hb _ (by omega) (by omega) (by omega)]
        · rw [v2 j hj, hb _ (by omega) (by omega) (by omega)]
        · rw [v3 j hj, hb _ (by omega) (by omega) (by omega)]
theorem T_60 (hd : 11 ≤ d) (hx : iKeep x) (hp : iKeep p) (h : x ≠ p) {k : Nat} (hk : k ≤ 16) (h2 : m p 2 = k) : ∃ m', ev d 60 [.ref x, .ref p] (mk m q w) = vV (mk m' q w) ∧ (∀ e, (e < x ∨ x + 52 < e) → m' e = m e) ∧ m' x 2 = k ∧ ((∀ j, j < 9 → m' (x + 1) j = m (p + 1) j) ∧ (∀ j, j < 7 → m' (x + 2) j = m (p + 2) j) ∧ (∀ j, j < 28 → m' (x + 3) j = m (p + 3) j)) ∧
    ∀ l, l < k → (∀ j, j < 9 → m' (x + 5 + 3 * l) j = m (p + 5 + 3 * l) j) ∧ (∀ j, j < 7 → m' (x + 6 + 3 * l) j = m (p + 6 + 3 * l) j) ∧ (∀ j, j < 28 → m' (x + 7 + 3 * l) j = m (p + 7 + 3 * l) j) := by
  have hfar := keep_far hx hp h
  have hb : ∀ e, e ≠ x + 1 → e ≠ x + 2 → e ≠ x + 3 → bc m (x + 1) (p + 1) e = m e := fun e h1 h2 h3 => bc_o m h1 (by omega) (by omega)
  have hp2 : bc m (x + 1) (p + 1) p 2 = k := by
    rw [hb p (by omega) (by omega) (by omega)]
    exact h2
  obtain ⟨m', v1, v2, v3⟩ := L_60 (q := q) (w := w) (d := d - 1) (by omega) hx hp hfar hk k 0 (wr (bc m (x + 1) (p + 1)) x 2 k) (by omega) (wr_s _ _ _ _)
  have hw : ∀ e, e ≠ x → e ≠ x + 1 → e ≠ x + 2 → e ≠ x + 3 → wr (bc m (x + 1) (p + 1)) x 2 (k : Int) e = m e := fun e h1 h2 h3 h4 => by rw [wr_o _ _ _ _ h1, hb e h2 h3 h4]
  refine ⟨m', ?_, fun e he => ?_, ?_, ⟨fun j hj => ?_, fun j hj => ?_, fun j hj => ?_⟩, fun l hl => ?_⟩
  · rw [e_60 (by omega) _ rfl rfl, b_60_0 hp hx, T_22 (by omega) (keep_fan hx) (keep_fan hp) (by omega)]
    simp only [rBd_v, Option.toList_some, Option.toList_none, List.cons_append, List.nil_append, List.append_nil]
    rw [b_60_11 hp hx, hp2]
    exact v1
  · rw [v2 e (by omega), hw e (by omega) (by omega) (by omega) (by omega)]
  · rw [v2 x (by omega), wr_s]
  · rw [v2 (x + 1) (by omega), wr_o _ _ _ _ (by omega), bc_0 _ hj]
  · rw [v2 (x + 2) (by omega), wr_o _ _ _ _ (by omega), show x + 2 = x + 1 + 1 from rfl, bc_1 _ hj]
  · rw [v2 (x + 3) (by omega), wr_o _ _ _ _ (by omega), show x + 3 = x + 1 + 2 from rfl, bc_2 _ hj]
  · obtain ⟨u1, u2, u3⟩ := v3 l (Nat.zero_le _) hl
    refine ⟨fun j hj => ?_, fun j hj => ?_, fun j hj => ?_⟩
    · rw [u1 j hj, hw _ (by omega) (by omega) (by omega) (by omega)]
    · rw [u2 j hj, hw _ (by omega) (by omega) (by omega) (by omega)]
    · rw [u3 j hj, hw _ (by omega) (by omega) (by omega) (by omega)]
variable {np bp kp : Nat}
theorem L_268a (hp : rShp p = some (aS 0 np bp kp)) (hnp : np ≤ 100000) (h390 : p ≠ 390) {o sz : Nat} (hsz : sz ≤ np) (ho : o + sz ≤ 2451) : ∀ (g i : Nat) (m : Nat → Nat → Int), i + g = sz → gv d rR268 3 [some (.ref 363), some (.int (iI (o : Int))), some (.ref p), some (.int (iI (sz : Int))), some (.int (iI 1)), some (.int (iI (i : Int)))] [] (mk m q w) = vI ((o : Int) + sz) (mk (row m 390 (fun j => if o + i ≤ j ∧ j < o + sz then m p (j - o) else m 390 j)) q w) := by
  intro g
  induction g with
  | zero =>
    intro i m hi
    rw [b_268_3 hp hnp, if_neg (by rw [iI_lt (by omega) (by omega)]; omega), show (fun j : Nat => if o + i ≤ j ∧ j < o + sz then m p (j - o) else m 390 j) = m 390 from funext fun j => if_neg (by omega), row_self]
  | succ g ih =>
    intro i m hi
    rw [b_268_3 hp hnp, if_pos (by rw [iI_lt (by omega) (by omega)]; omega), if_neg (by decide), b_268_14 hp hnp (by omega) (by omega) (by omega) (by omega), b_268_43 hp hnp, show (i : Int) + 1 = ((i + 1 : Nat) : Int) from rfl, ih (i + 1) _ (by omega), show ((o : Int) + (i : Int)).toNat = o + i by omega, Int.toNat_natCast, wr_o _ _ _ _ h390]
    unfold wr
    rw [row_row]
    congr 6
    funext j
    by_cases hj : j = o + i
    · subst hj
      rw [if_neg (by omega), row_s, row_s, if_pos (by omega), show o + i - o = i by omega]
    · rw [row_s, row_o _ _ _ hj]
      by_cases h1 : o + (i + 1) ≤ j ∧ j < o + sz
      · rw [if_pos h1, if_pos (by omega)]
      · rw [if_neg h1, if_neg (by omega)]
theorem L_268b (hp : rShp p = some (aS 0 np bp kp)) (hnp : np ≤ 100000) (h390 : p ≠ 390) {o sz : Nat} (hsz : sz ≤ np) (ho : o + sz ≤ 2451) : ∀ (g i : Nat) (m : Nat → Nat → Int), i + g = sz → gv d rR268 3 [some (.ref 363), some (.int (iI (o : Int))), some (.ref p), some (.int (iI (sz : Int))), some (.int (iI 0)), some (.int (iI (i : Int)))] [] (mk m q w) = vI ((o : Int) + sz) (mk (row m p (fun j => if i ≤ j ∧ j < sz then m 390 (o + j) else m p j)) q w) := by
  intro g
  induction g with
  | zero =>
    intro i m hi
    rw [b_268_3 hp hnp, if_neg (by rw [iI_lt (by omega) (by omega)]; omega), show (fun j : Nat => if i ≤ j ∧ j < sz then m 390 (o + j) else m p j) = m p from funext fun j => if_neg (by omega), row_self]
  | succ g ih =>
    intro i m hi
    rw [b_268_3 hp hnp, if_pos (by rw [iI_lt (by omega) (by omega)]; omega), if_pos rfl, b_268_30 hp hnp (by omega) (by omega) (by omega) (by omega), b_268_43 hp hnp, show (i : Int) + 1 = ((i + 1 : Nat) : Int) from rfl, ih (i + 1) _ (by omega), show ((o : Int) + (i : Int)).toNat = o + i by omega, Int.toNat_natCast, wr_o _ _ _ _ (Ne.symm h390)]
    unfold wr
    rw [row_row]
    congr 6
    funext j
    by_cases hj : j = i
    · subst hj
      rw [if_neg (by omega), row_s, row_s, if_pos (by omega)]
    · rw [row_s, row_o _ _ _ hj]
      by_cases h1 : i + 1 ≤ j ∧ j < sz
      · rw [if_pos h1, if_pos (by omega)]
      · rw [if_neg h1, if_neg (by omega)]
end S
