/-! ===== ways: how sticks may lie, by both ===== -/
theorem zs1 : ∀ n : Nat, n < 8 → zShl 1 (n : Int) = ((2 ^ n : Nat) : Int) := by decide +kernel
theorem or_set : ∀ o : Nat, o < 128 → ∀ k : Nat, k < 7 → bt o k = 0 → zOr (o : Int) (zShl 1 (k : Int)) = ((o + 2 ^ k : Nat) : Int) := by decide +kernel
theorem an_clr : ∀ o : Nat, o < 128 → ∀ k : Nat, k < 7 → bt o k = 1 → zAnd (o : Int) (zXor (zShl 1 (k : Int)) (-1)) = ((o - 2 ^ k : Nat) : Int) := by decide +kernel
theorem and4 : ∀ a : Nat, a < 4 → ∀ b : Nat, b < 4 → zAnd (a : Int) (b : Int) = ((a &&& b : Nat) : Int) := by decide +kernel
theorem pw_lt : ∀ n : Nat, n < 8 → 2 ^ n ≤ 128 ∧ 0 < 2 ^ n := by decide +kernel
theorem set_c : ∀ n : Nat, n < 8 → ∀ x : Nat, x < 128 → x < 2 ^ n → pc (2 ^ n - 1 - x) = n - pc x ∧ pc x ≤ n := by decide +kernel
theorem set_b : ∀ n : Nat, n < 8 → ∀ x : Nat, x < 128 → x < 2 ^ n → ∀ s : Nat, s < 7 → s < n → bt (2 ^ n - 1 - x) s = 1 - bt x s := by decide +kernel
theorem set_i : ∀ n : Nat, n < 8 → ∀ x : Nat, x < 128 → x < 2 ^ n → ∀ s : Nat, s < n → (bt x s = 1 ∨ x + 2 ^ s < 2 ^ n) := by decide +kernel
theorem set_d : ∀ x : Nat, x < 128 → ∀ s : Nat, s < 7 → bt x s = 1 → 2 ^ s ≤ x ∧ pc (x - 2 ^ s) + 1 = pc x := by decide +kernel
theorem and_bt : ∀ a : Nat, a < 4 → ∀ b : Nat, b < 4 → (a &&& b) < 4 ∧ ∀ i : Nat, i < 2 → (bt (a &&& b) i = 1 ↔ bt a i = 1 ∧ bt b i = 1) := by decide +kernel
theorem and_3 : ∀ a : Nat, a < 4 → (3 &&& a) = a ∧ (a &&& 3) = a := by decide +kernel
theorem ft_lt {C : Nat → Int} {s h : Nat} {z : Int} : ft C s h z < 4 := by
  unfold ft
  by_cases c0 : z = 16
  · rw [if_pos c0]
    decide
  · rw [if_neg c0]
    by_cases c1 : C (4 * s + h) = z
    · rw [if_pos c1]
      by_cases c2 : C (4 * s + (3 - h)) = z
      · rw [if_pos c2]
        decide
      · rw [if_neg c2]
        decide
    · rw [if_neg c1]
      by_cases c2 : C (4 * s + (3 - h)) = z
      · rw [if_pos c2]
        decide
      · rw [if_neg c2]
        decide
theorem ft_bt {C : Nat → Int} {s h : Nat} {z : Int} : (bt (ft C s h z) 0 = 1 ↔ z = 16 ∨ z = C (4 * s + h)) ∧ (bt (ft C s h z) 1 = 1 ↔ z = 16 ∨ z = C (4 * s + (3 - h))) := by
  unfold ft
  by_cases c0 : z = 16
  · rw [if_pos c0]
    exact ⟨⟨fun _ => Or.inl c0, fun _ => by decide⟩, ⟨fun _ => Or.inl c0, fun _ => by decide⟩⟩
  · rw [if_neg c0]
    by_cases c1 : C (4 * s + h) = z
    · rw [if_pos c1]
      by_cases c2 : C (4 * s + (3 - h)) = z
      · rw [if_pos c2]
        exact ⟨⟨fun _ => Or.inr c1.symm, fun _ => by decide⟩, ⟨fun _ => Or.inr c2.symm, fun _ => by decide⟩⟩
      · rw [if_neg c2]
        exact ⟨⟨fun _ => Or.inr c1.symm, fun _ => by decide⟩, ⟨fun y => absurd y (by decide), fun y => y.elim (fun y => absurd y c0) (fun y => absurd y.symm c2)⟩⟩
    · rw [if_neg c1]
      by_cases c2 : C (4 * s + (3 - h)) = z
      · rw [if_pos c2]
        exact ⟨⟨fun y => absurd y (by decide), fun y => y.elim (fun y => absurd y c0) (fun y => absurd y.symm c1)⟩, ⟨fun _ => Or.inr c2.symm, fun _ => by decide⟩⟩
      · rw [if_neg c2]
        exact ⟨⟨fun y => absurd y (by decide), fun y => y.elim (fun y => absurd y c0) (fun y => absurd y.symm c1)⟩, ⟨fun y => absurd y (by decide), fun y => y.elim (fun y => absurd y c0) (fun y => absurd y.symm c2)⟩⟩
theorem ft_congr {C D : Nat → Int} {s h : Nat} {z : Int} (h1 : C (4 * s + h) = D (4 * s + h)) (h2 : C (4 * s + (3 - h)) = D (4 * s + (3 - h))) : ft C s h z = ft D s h z := by
  unfold ft
  rw [h1, h2]
/-- how a stick may lie at a place by one view and picture -/
def alw (C : Nat → Int) (n z : Nat) (P : Nat → Int) (v p s : Nat) : Nat := ft C s v (wa z P (pl n v p))
section S
variable {d n : Nat} {m : Nat → Nat → Int} {q : Nat → Nat → Option Nat} {w : Option (Nat → Int64)} {z p : Nat}
theorem L_90i (hd : 5 ≤ d) (hp : iPic p) (hn : m 164 1 = n) (hn7 : n ≤ 7) (hz : m p 1 = z) (hz7 : z ≤ 7) (hP : ∀ i, i < z → 0 ≤ m (p + 1) i ∧ m (p + 1) i ≤ 16) (hC : ∀ i, i < 28 → i32 (m 167 i)) {v k t : Nat} (hv : v < 4) (hk : k < z) (ht : t < n) : ∀ (g s : Nat) (m1 : Nat → Nat → Int) (u6 : Option Value), s + g = n → (∀ a, a ≠ 168 → m1 a = m a) → ∃ (u5 u6' : Option Value) (A : Nat → Int),
    gv d rR90 37 [some (.ref 164), some (.int (iI v)), some (.ref p), some (.int (iI (k : Int))), some (.int (iI (t : Int))), some (.int (iI (s : Int))), u6] [] (mk m1 q w) = gv d rR90 15 [some (.ref 164), some (.int (iI v)), some (.ref p), some (.int (iI ((k + 1 : Nat) : Int))), some (.int (iI (t : Int))), u5, u6'] [] (mk (row m1 168 A) q w) ∧
    ∀ j, A j = if 7 * t + s ≤ j ∧ j < 7 * t + n then zAnd (m1 168 j) (ft (m 167) (j - 7 * t) v (wa z (m (p + 1)) k)) else m1 168 j := by
  have hpr := pic_three hp
  intro g
  induction g with
  | zero =>
    intro s m1 u6 hg hm
    refine ⟨some (.int (iI (s : Int))), u6, m1 168, ?_, fun j => ?_⟩
    · rw [b_90_37 hp, hm 164 (by decide), hn, if_neg (by rw [iI_lt (by omega) (by omega)]; omega), row_self]
      rfl
    · rw [if_neg (by omega)]
  | succ g ih =>
    intro s m1 u6 hg hm
    have hs : s < n := by omega
    have e1 : (7 * (t : Int) + s).toNat = 7 * t + s := by omega
    have hw : 0 ≤ wa z (m (p + 1)) k ∧ wa z (m (p + 1)) k ≤ 16 := by
      unfold wa
      split
      · exact hP _ (by omega)
      · omega
    obtain ⟨u5, u6', A, h1, h2⟩ := ih (s + 1) (wr m1 168 (7 * t + s) (zAnd (m1 168 (7 * t + s)) (ft (m 167) s v (wa z (m (p + 1)) k)))) (some (.int (iI (7 * (t : Int) + s)))) (by omega) (fun a ha => by rw [wr_o _ _ _ _ ha, hm a ha])
    refine ⟨u5, u6', A, ?_, fun j => ?_⟩
    · have hT := T_75 (d := d) (m := m1) (q := q) (w := w) (p := p) (z := z) (by omega) hp (by rw [hm p (by omega)]; exact hz) hz7 (k := (k : Int)) (by omega) (by omega)
      rw [hm (p + 1) (by omega)] at hT
      have hF := T_89 (d := d) (m := m1) (q := q) (w := w) (by omega) (s := s) (h := v) (by omega) hv (z := wa z (m (p + 1)) k) (by omega) (by rw [hm 167 (by decide)]; exact hC)
      rw [hm 167 (by decide)] at hF
      rw [b_90_37 hp, hm 164 (by decide), hn, if_pos (by rw [iI_lt (by omega) (by omega)]; omega), T_6 (by omega) (by omega) (by omega) (by omega)]
      simp only [rBd_v, Option.toList_some, Option.toList_none, List.cons_append, List.nil_append, List.append_nil]
      rw [b_90_69 hp]
      simp only [zb_0]
      rw [if_neg (by omega), b_90_72 hp (by omega) (by omega), hT]
      simp only [rBd_v, Option.toList_some, Option.toList_none, List.cons_append, List.nil_append, List.append_nil]
      rw [b_90_89 hp, hF]
      simp only [rBd_v, Option.toList_some, Option.toList_none, List.cons_append, List.nil_append, List.append_nil]
      rw [b_90_92 hp (by omega) (by omega), b_90_94 hp, e1, show (s : Int) + 1 = ((s + 1 : Nat) : Int) from rfl, h1]
      unfold wr
      rw [row_row]
    · rw [h2 j]
      by_cases hj : j = 7 * t + s
      · subst hj
        rw [if_neg (by omega), if_pos (by omega), wr_s, show 7 * t + s - 7 * t = s by omega]
      · rw [wr_b _ _ _ _ hj]
        by_cases h3 : 7 * t + (s + 1) ≤ j ∧ j < 7 * t + n
        · rw [if_pos h3, if_pos (by omega)]
        · rw [if_neg h3, if_neg (by omega)]
theorem L_90 (hd : 6 ≤ d) (hp : iPic p) (hn : m 164 1 = n) (h165 : m 165 0 = n) (hn7 : n ≤ 7) (hz : m p 1 = z) (hzn : z ≤ n) (hP : ∀ i, i < z → 0 ≤ m (p + 1) i ∧ m (p + 1) i ≤ 16) (hC : ∀ i, i < 28 → i32 (m 167 i)) {v : Nat} (hv : v < 4) : ∀ (g k : Nat) (m1 : Nat → Nat → Int) (u4 u5 u6 : Option Value), k + g = z → (∀ a, a ≠ 168 → m1 a = m a) → ∃ (A : Nat → Int),
    gv d rR90 15 [some (.ref 164), some (.int (iI v)), some (.ref p), some (.int (iI (k : Int))), u4, u5, u6] [] (mk m1 q w) = vI 1 (mk (row m1 168 A) q w) ∧
    ∀ t s, t < n → s < n → A (7 * t + s) = if (k : Int) ≤ pl n v t ∧ pl n v t < z then zAnd (m1 168 (7 * t + s)) (ft (m 167) s v (wa z (m (p + 1)) (pl n v t))) else m1 168 (7 * t + s) := by
  have hpr := pic_three hp
  intro g
  induction g with
  | zero =>
    intro k m1 u4 u5 u6 hg hm
    refine ⟨m1 168, ?_, fun t s _ _ => ?_⟩
    · rw [b_90_15 hp, hm p (by omega), hz, if_neg (by rw [iI_lt (by omega) (by omega)]; omega), row_self]
    · rw [if_neg (by omega)]
  | succ g ih =>
    intro k m1 u4 u5 u6 hg hm
    have hkn : k < n := by omega
    have hpl := pl_in (v := v) hkn
    have hpp := pl_pl (v := v) hkn
    obtain ⟨t0, ht0⟩ : ∃ t0, t0 = (pl n v k).toNat := ⟨_, rfl⟩
    rw [← ht0] at hpp
    obtain ⟨u5', u6', A1, h1, h2⟩ := L_90i (m := m) (q := q) (w := w) (d := d) (by omega) hp hn hn7 hz (by omega) hP hC hv (k := k) (t := t0) (by omega) (by omega) n 0 m1 u6 (by omega) hm
    obtain ⟨A, h3, h4⟩ := ih (k + 1) (row m1 168 A1) (some (.int (iI (t0 : Int)))) u5' u6' (by omega) (fun a ha => by rw [row_o _ _ _ ha, hm a ha])
    refine ⟨A, ?_, fun t s ht hs => ?_⟩
    · rw [b_90_15 hp, hm p (by omega), hz, if_pos (by rw [iI_lt (by omega) (by omega)]; omega), T_12 (by omega) (show iFan 165 from fan_165) (by omega), hm 165 (by decide), h165, show (if (v : Int) < 2 then (k : Int) else (n : Int) - 1 - k) = (t0 : Int) by
        rw [ht0, Int.toNat_of_nonneg hpl.1]
        unfold pl
        by_cases c : v < 2
        · rw [if_pos (by omega), if_pos c]
        · rw [if_neg (by omega), if_neg c]]
      simp only [rBd_v, Option.toList_some, Option.toList_none, List.cons_append, List.nil_append, List.append_nil]
      rw [b_90_32 hp, show iI 0 = iI ((0 : Nat) : Int) from rfl, h1, h3, row_row]
    · rw [h4 t s ht hs, row_s, h2]
      have hpt := pl_in (v := v) ht
      have hppt := pl_pl (v := v) ht
      by_cases c : pl n v t = k
      · have hk : k = (pl n v t).toNat := by omega
        have htt : t = t0 := by
          have e : pl n v ((pl n v t).toNat : Int) = pl n v k := by rw [← hk]
          omega
        rw [if_neg (by omega), if_pos (by omega), if_pos (by omega), c, show 7 * t + s - 7 * t0 = s by omega]
      · have htt : t ≠ t0 := by
          intro e
          rw [e] at c
          omega
        have e2 : ¬ (7 * t0 + 0 ≤ 7 * t + s ∧ 7 * t + s < 7 * t0 + n) := by omega
        rw [if_neg e2]
        by_cases c2 : (k : Int) ≤ pl n v t ∧ pl n v t < z
        · rw [if_pos c2, if_pos (by omega)]
        · rw [if_neg c2, if_neg (by omega)]
theorem T_90 (hd : 7 ≤ d) (hp : iPic p) (hn : m 164 1 = n) (h165 : m 165 0 = n) (hn7 : n ≤ 7) (hz : m p 1 = z) (hz7 : z ≤ 7) (hP : ∀ i, i < z → 0 ≤ m (p + 1) i ∧ m (p + 1) i ≤ 16) (hC : ∀ i, i < 28 → i32 (m 167 i)) {v : Nat} (hv : v < 4) {al : Nat → Nat → Nat} (hal : ∀ t s, t < n → s < n → m 168 (7 * t + s) = al t s ∧ al t s < 4) : ∃ A : Nat → Int,
    ev d 90 [.ref 164, .int (iI v), .ref p] (mk m q w) = (if z ≤ n then vI 1 (mk (row m 168 A) q w) else vI 0 (mk m q w)) ∧
    (z ≤ n → ∀ t s, t < n → s < n → A (7 * t + s) = ((al t s &&& alw (m 167) n z (m (p + 1)) v t s : Nat) : Int)) := by
  by_cases c : z ≤ n
  · obtain ⟨A, h1, h2⟩ := L_90 (m := m) (q := q) (w := w) (d := d - 1) (by omega) hp hn h165 hn7 hz c hP hC hv z 0 m none none none (by omega) (fun _ _ => rfl)
    refine ⟨A, ?_, fun _ t s ht hs => ?_⟩
    · rw [e_90 (by omega) _ rfl rfl rfl, b_90_0 hp, hn, hz, if_neg (by rw [iI_lt (by omega) (by omega)]; omega), if_pos c]
      exact h1
    · obtain ⟨e1, e2⟩ := hal t s ht hs
      rw [h2 t s ht hs, e1]
      have hpt := pl_in (v := v) ht
      unfold alw
      by_cases c2 : pl n v t < z
      · rw [if_pos (by omega), and4 _ e2 _ ft_lt]
      · rw [if_neg (by omega)]
        have e3 : ft (m 167) s v (wa z (m (p + 1)) (pl n v t)) = 3 := by
          unfold ft wa
          rw [if_neg c2, if_pos rfl]
        rw [e3, (and_3 _ e2).2]
  · refine ⟨m 168, ?_, fun h => absurd h c⟩
    rw [e_90 (by omega) _ rfl rfl rfl, b_90_0 hp, hn, hz, if_pos (by rw [iI_lt (by omega) (by omega)]; omega), if_neg c]
theorem T_91 (hd : 2 ≤ d) {t s : Nat} (ht : t < 7) (hs : s < 7) : ev d 91 [.ref 164, .int (iI t), .int (iI s)] (mk m q w) = vI (m 168 (7 * t + s)) (mk m q w) := by
  rw [e_91 (by omega) _ rfl rfl rfl, b_91_0, T_6 (by omega) (by omega) (by omega) (by omega)]
  simp only [rBd_v, Option.toList_some, Option.toList_none, List.cons_append, List.nil_append, List.append_nil]
  rw [b_91_19]
  simp only [zb_0]
  rw [if_neg (by omega), b_91_22 (by omega) (by omega), b_91_32, show (7 * (t : Int) + s).toNat = 7 * t + s by omega]
/-- begun: the fan's copy, and every stick lies as it likes -/
def bgW (m : Nat → Nat → Int) (n : Nat) : Nat → Nat → Int := row (wr (bc m 165 108) 164 1 n) 168 (fun j => if j < 49 then 3 else m 168 j)
theorem T_88 (hd : 12 ≤ d) (hn : m 108 0 = n) : ev d 88 [.ref 164, .ref 108] (mk m q w) = vV (mk (bgW m n) q w) := by
  rw [e_88 (by omega) _ rfl rfl, b_88_0 f108, T_22 (by omega) fan_165 f108 (by decide)]
  simp only [rBd_v, Option.toList_some, Option.toList_none, List.cons_append, List.nil_append, List.append_nil]
  rw [b_88_8 f108, T_56 (by omega) (show rShp 168 = some (aS 0 49 0 0) by decide +kernel) (by decide)]
  simp only [rBd_v, Option.toList_some, Option.toList_none, List.cons_append, List.nil_append, List.append_nil]
  rw [b_88_24]
  unfold bgW
  rw [bc_o m (by decide) (by decide) (by decide), hn, wr_o _ _ _ _ (by decide), bc_o m (by decide) (by decide) (by decide)]
end S
