/-! ===== what queries share; the call told, alike ===== -/
section Q
variable {m m1 m2 : Nat → Nat → Int} {q : Nat → Nat → Option Nat}
/-- a quiet change at a query -/
def qs (m m1 : Nat → Nat → Int) : Prop := (∀ a, ¬ scr a → a ≠ 363 → m1 a = m a) ∧ ∀ j, j = 2 ∨ j = 8 ∨ j = 15 ∨ j = 16 ∨ j = 24 ∨ j = 29 ∨ j = 30 ∨ j = 42 ∨ j = 52 → m1 363 j = m 363 j
theorem qs_refl : qs m m := ⟨fun _ _ _ => rfl, fun _ _ => rfl⟩
theorem qs_trans (h : qs m m1) (h2 : qs m1 m2) : qs m m2 := ⟨fun a a1 a2 => (h2.1 a a1 a2).trans (h.1 a a1 a2), fun j hj => (h2.2 j hj).trans (h.2 j hj)⟩
theorem gS_o (h1 : m1 161 = m 161) (h3 : m1 163 = m 163) (hs : gS m) : gS m1 := by
  unfold gS fB at *
  rw [show 161 + 2 = 163 from rfl, h3, h1]
  exact hs
theorem RR_s (h : qs m m1) (hs : gS m1) (hR : RR m q) : RR m1 q := RR_q ⟨⟨fun a a1 _ a3 => h.1 a a1 a3, fun j hj => h.2 j (by omega)⟩, ⟨by rw [h.1 101 (by unfold scr; omega) (by decide)], by rw [h.1 101 (by unfold scr; omega) (by decide)]⟩, h.2 2 (by omega), h.2 8 (by omega)⟩ hs hR
/-- the reference has taken its row -/
def tk (m : Nat → Nat → Int) : Nat → Nat → Int := cp (wr m 363 0 0) 376 377 48
theorem tk_0 : tk m 363 0 = 0 := by
  unfold tk cp
  rw [row_o _ _ _ (by decide), wr_s]
theorem tk_b {j : Nat} (h : j ≠ 0) : tk m 363 j = m 363 j := by
  unfold tk cp
  rw [row_o _ _ _ (by decide), wr_b _ _ _ _ h]
theorem tk_o {a : Nat} (h : a ≠ 363) (h2 : a ≠ 377) : tk m a = m a := by
  unfold tk cp
  rw [row_o _ _ _ h2, wr_o _ _ _ _ h]
theorem tk_r {j : Nat} (h : j < 48) : tk m 377 j = m 376 j := by
  unfold tk cp
  rw [row_s, if_pos h, wr_o _ _ _ _ (by decide)]
theorem tk_qs : qs m (tk m) := ⟨fun a h1 h2 => tk_o h2 (by unfold scr at h1; omega), fun j hj => tk_b (by omega)⟩
theorem tk_RR (hR : RR m q) : RR (tk m) q := RR_s tk_qs (gS_o (tk_o (by decide) (by decide)) (tk_o (by decide) (by decide)) hR.2.2.2.2.2.2) hR
theorem RR_fan (hR : RR m q) : ∃ n r o : Nat, fnR n r 400 (m 108) (m 109) (m 110) (m 376) ∧ m 363 15 = n ∧ m 363 16 = r ∧ n ≤ 7 ∧ fk (m 108) n o ∧ fl (m 109) n ∧ (∀ i, i < 28 → i32 (m 110 i)) ∧ o < 2 ^ n ∧ ∀ s, s < 7 → m 376 (35 + s) = bt o s := by
  obtain ⟨-, ⟨n0, r0, k, h0, ⟨k1, k2⟩, ⟨kF, -, -, -⟩, -⟩, -⟩ := id hR
  have hF : fnR n0 r0 400 (m 108) (m 109) (m 110) (m 376) := kF
  obtain ⟨o, hfk, hfl, h3, h4, hbt⟩ := fnR_k hF
  exact ⟨n0, r0, o, hF, k1, k2, hF.1.2.1, hfk, hfl, h3, h4, hbt⟩
end Q
section E
variable {jc jr d c : Nat} {as : List Value} {m m1 m2 : Nat → Nat → Int} {q : Nat → Nat → Option Nat} {w : Option (Nat → Int64)} {V : Int}
abbrev sAl (jc jr : Nat) (as : List Value) (c d : Nat) (m : Nat → Nat → Int) (q : Nat → Nat → Option Nat) (w : Option (Nat → Int64)) : Prop :=
  (∃ (v : Int) (m1 : Nat → Nat → Int) (q1 : Nat → Nat → Option Nat) (m2 : Nat → Nat → Int), ev d jc (.ref 100 :: as) (mk m q w) = vI v (mk m1 q1 w) ∧ ev d jr (.ref 363 :: as) (mk m1 q1 w) = vI v (mk m2 q1 w) ∧ m2 363 0 = 0 ∧ RR m2 q1) ∨
  (∃ (e : Nat) (v : Int) (m1 m2 : Nat → Nat → Int), (e = 0 ∨ (e = 1 ∧ c = 2)) ∧ ev d jc (.ref 100 :: as) (mk m q w) = some (.inr e, (mk m1 q w, (1, 6))) ∧ ev d jr (.ref 363 :: as) (mk m1 q w) = vI v (mk m2 q w) ∧ m2 363 0 = (if e = 0 then c else 1 : Nat) ∧ RR m2 q)
theorem q_in (hC : ev d jc (.ref 100 :: as) (mk m q w) = vI V (mk m1 q w)) (hX : ev d jr (.ref 363 :: as) (mk m1 q w) = vI V (mk m2 q w)) (h0 : m2 363 0 = 0) (hR : RR m2 q) : sAl jc jr as c d m q w := Or.inl ⟨_, _, _, _, hC, hX, h0, hR⟩
theorem q_no (hR : RR m q) (hC : ev d jc (.ref 100 :: as) (mk m q w) = some (.inr 0, (mk (wr m 100 17 (m 100 17 + 1)) q w, (1, 6)))) (hX : ev d jr (.ref 363 :: as) (mk (wr m 100 17 (m 100 17 + 1)) q w) = vI 0 (mk (noX (wr m 100 17 (m 100 17 + 1)) c 1) q w)) : sAl jc jr as c d m q w := Or.inr ⟨0, 0, _, _, Or.inl rfl, hC, hX, noX_0, RR_no0 hR⟩
theorem q_ns (hR : RR m q) (hc : c = 2) (hC : ev d jc (.ref 100 :: as) (mk m q w) = some (.inr 1, (mk (wr m 100 16 (m 100 16 + 1)) q w, (1, 6)))) (hX : ev d jr (.ref 363 :: as) (mk (wr m 100 16 (m 100 16 + 1)) q w) = vI 0 (mk (noX (wr m 100 16 (m 100 16 + 1)) 1 0) q w)) : sAl jc jr as c d m q w := Or.inr ⟨1, 0, _, _, Or.inr ⟨rfl, hc⟩, hC, hX, noX_0, RR_no1 hR⟩
end E
/-! told -/
def tbo (f : Nat → Int) : Nat → Nat → Int → Int
  | 0, _, a => a
  | g + 1, k, a => tbo f g (k + 1) (zOr a (zShl (f k) k))
theorem tbo_ok : ∀ n, n < 8 → ∀ o, o < 128 → o < 2 ^ n → tbo (fun k => (bt o k : Int)) n 0 0 = (o : Int) := by decide +kernel
theorem tbo_congr {f h : Nat → Int} : ∀ (g k : Nat) (a : Int), (∀ j, k ≤ j → j < k + g → f j = h j) → tbo f g k a = tbo h g k a := by
  intro g
  induction g with
  | zero => intro k a _; rfl
  | succ g ih =>
    intro k a hh
    unfold tbo
    rw [hh k (by omega) (by omega), ih (k + 1) _ (fun j h1 h2 => hh j (by omega) (by omega))]
section S
variable {d n : Nat} {m : Nat → Nat → Int} {q : Nat → Nat → Option Nat} {w : Option (Nat → Int64)}
theorem L_221 {n : Nat} (hn7 : n ≤ 7) (h15 : m 363 15 = n) : ∀ (g k : Nat) (a : Int), k + g = n → gv d rR221 4 [some (.ref 363), some (.int (iI a)), some (.int (iI (k : Int)))] [] (mk m q w) = vI (tbo (fun k => m 377 (35 + k)) g k a) (mk m q w) := by
  intro g
  induction g with
  | zero =>
    intro k a hg
    rw [b_221_4, h15, if_neg (by rw [iI_lt (by omega) (by omega)]; omega)]
    rfl
  | succ g ih =>
    intro k a hg
    rw [b_221_4, h15, if_pos (by rw [iI_lt (by omega) (by omega)]; omega), b_221_12 (by omega) (by omega), show (k : Int) + 1 = ((k + 1 : Nat) : Int) from rfl, ih (k + 1) _ (by omega), show (35 + (k : Int)).toNat = 35 + k by omega]
    rfl
theorem V_221 (hd : 1 ≤ d) {n o : Nat} (hn7 : n ≤ 7) (h15 : m 363 15 = n) (ho : o < 2 ^ n) (hb : ∀ s, s < 7 → m 377 (35 + s) = bt o s) : ev d 221 [.ref 363] (mk m q w) = vI o (mk m q w) := by
  rw [e_221 hd _ rfl, b_221_0]
  refine Eq.trans (L_221 hn7 h15 n 0 0 (by omega)) ?_
  rw [tbo_congr (h := fun k => (bt o k : Int)) n 0 0 (fun j _ h => hb j (by omega)), tbo_ok n (by omega) o (pow_lt hn7 ho) ho]
theorem K_told {a : Int} (ha : i32 a) : cTH 124 222 [.int (iI a)] 1 := by
  intro m q w hR d hd
  obtain ⟨n, r, o, hF, k15, k16, hn7, hfk, hfl, hCi, ho, hbt⟩ := RR_fan hR
  obtain ⟨-, ⟨n0, r0, k, h0, -, -, -, k30, -⟩, -, ⟨p0, p1, p2, p3, p4, p5, p6, p7, p8, -, -, -, ⟨z0, pc⟩, ⟨z1, pd⟩⟩, ⟨b, b', b1, b2, b3, b4, b5, bz, b6, b7, b8, b9⟩, -⟩ := id hR
  obtain ⟨V, hV⟩ : ∃ V : Int, V = if a = 0 then (n : Int) else if a = 1 then (r : Int) else if a = 2 then m 376 42 else if a = 3 then m 376 43 else if a = 4 then m 376 47 else if a = 5 then m 376 44 else if a = 6 then (o : Int) else if a = 7 then m 376 45 else if a = 8 then m 376 46 else if a = 9 then (bz : Int) else if a = 10 then m 363 30 else if a = 11 then (z0 : Int) else (z1 : Int) := ⟨_, rfl⟩
  have hC : ev d 124 [.ref 100, .int (iI a)] (mk m q w) = if 0 ≤ a ∧ a ≤ 12 then vI V (mk m q w) else some (.inr 0, (mk (wr m 100 17 (m 100 17 + 1)) q w, (1, 6))) := by
    rw [e_124 (by omega) _ rfl rfl, b_124_0, T_6 (by omega) ha (by omega) (by omega)]
    simp only [rBd_v, Option.toList_some, Option.toList_none, List.cons_append, List.nil_append, List.append_nil]
    rw [b_124_8, T_116 (by omega)]
    by_cases h : 0 ≤ a ∧ a ≤ 12
    · rw [zb_t h, if_pos h, if_neg (by decide)]
      simp only [rBd_v, Option.toList_some, Option.toList_none, List.cons_append, List.nil_append, List.append_nil]
      rw [b_124_11, hV]
      clear hV
      rcases (show a = 0 ∨ a = 1 ∨ a = 2 ∨ a = 3 ∨ a = 4 ∨ a = 5 ∨ a = 6 ∨ a = 7 ∨ a = 8 ∨ a = 9 ∨ a = 10 ∨ a = 11 ∨ a = 12 by omega) with rfl | rfl | rfl | rfl | rfl | rfl | rfl | rfl | rfl | rfl | rfl | rfl | rfl
      · rw [b_124_20_0, b_124_84, hF.1.1]
        rfl
      · rw [b_124_20_1, b_124_89, hF.1.2.2.1]
        rfl
      · rw [b_124_20_2, b_124_94, hF.2.1.1]
        rfl
      · rw [b_124_20_3, b_124_99, hF.2.2.1.1]
        rfl
      · rw [b_124_20_4, b_124_104, hF.2.2.2.1.1]
        rfl
      · rw [b_124_20_5, b_124_109, hF.2.2.2.2.1]
        rfl
      · rw [b_124_20_6, b_124_114, hfk.2.2.1]
        rfl
      · rw [b_124_20_7, b_124_119, hF.2.2.2.2.2.1.1]
        rfl
      · rw [b_124_20_8, b_124_124, hF.2.2.2.2.2.1.2.1]
        rfl
      · rw [b_124_20_9, b_124_129, b1]
        refine Eq.trans (b_124_133 b3) ?_
        rw [b7]
        rfl
      · rw [b_124_20_10, b_124_137, k30]
        rfl
      · rw [b_124_20_11, b_124_142, p3]
        refine Eq.trans (b_124_148 p6) ?_
        rw [pc.2.1]
        rfl
      · rw [b_124_20_d (by decide) (by decide), b_124_152, p4]
        refine Eq.trans (b_124_158 p7) ?_
        rw [pd.2.1]
        rfl
    · rw [zb_f h, if_neg h, if_pos rfl]
      rfl
  have hX : ∀ m1 : Nat → Nat → Int, (∀ e, 363 ≤ e → m1 e = m e) → ev d 222 [.ref 363, .int (iI a)] (mk m1 q w) = if 0 ≤ a ∧ a ≤ 12 then vI V (mk (tk m1) q w) else vI 0 (mk (noX m1 1 1) q w) := by
    intro m1 h1
    rw [e_222 (by omega) _ rfl rfl, b_222_0, V_161 (by omega) ha (by omega) (by omega)]
    simp only [rBd_v, Option.toList_some, Option.toList_none, List.cons_append, List.nil_append, List.append_nil]
    rw [b_222_13, V_160 (by omega) (Or.inr rfl) (by omega) (by decide) (wr_s _ _ _ _)]
    by_cases h : 0 ≤ a ∧ a ≤ 12
    · rw [if_pos h, if_pos h]
      simp only [rBd_v, Option.toList_some, Option.toList_none, List.cons_append, List.nil_append, List.append_nil]
      rw [b_222_18, if_neg (by decide), V_200 (by omega)]
      simp only [rBd_v, Option.toList_some, Option.toList_none, List.cons_append, List.nil_append, List.append_nil]
      rw [show cp (wr m1 363 0 0) 376 377 48 = tk m1 from rfl, b_222_27]
      have e363 : ∀ j, j ≠ 0 → tk m1 363 j = m 363 j := fun j hj => by rw [tk_b hj, h1 363 (by decide)]
      have e377 : ∀ j, j < 48 → tk m1 377 j = m 376 j := fun j hj => by rw [tk_r hj, h1 376 (by decide)]
      have e381 : tk m1 381 = m 381 := by rw [tk_o (by decide) (by decide), h1 381 (by decide)]
      have h21 := V_221 (d := d - 1) (m := tk m1) (q := q) (w := w) (by omega) hn7 ((e363 15 (by decide)).trans k15) ho (fun s hs => (e377 _ (by omega)).trans (hbt s hs))
      rw [hV]
      clear hV
      rcases (show a = 0 ∨ a = 1 ∨ a = 2 ∨ a = 3 ∨ a = 4 ∨ a = 5 ∨ a = 6 ∨ a = 7 ∨ a = 8 ∨ a = 9 ∨ a = 10 ∨ a = 11 ∨ a = 12 by omega) with rfl | rfl | rfl | rfl | rfl | rfl | rfl | rfl | rfl | rfl | rfl | rfl | rfl
      · rw [if_pos (by decide), if_pos (by decide), b_222_62, e363 15 (by decide), k15]
        rfl
      · rw [if_pos (by decide), if_neg (by decide), if_pos (by decide), b_222_62, e363 16 (by decide), k16]
        rfl
      · rw [if_pos (by decide), if_neg (by decide), if_neg (by decide), b_222_62, e377 42 (by decide)]
        rfl
      · rw [if_neg (by decide), if_pos (by decide), if_pos (by decide), b_222_95 (by decide) (by decide), show Int.toNat 43 = 43 from rfl, e377 43 (by decide)]
        rfl
      · rw [if_neg (by decide), if_pos (by decide), if_neg (by decide), if_pos (by decide), b_222_95 (by decide) (by decide), show Int.toNat 47 = 47 from rfl, e377 47 (by decide)]
        rfl
      · rw [if_neg (by decide), if_pos (by decide), if_neg (by decide), if_neg (by decide), b_222_95 (by decide) (by decide), show Int.toNat 44 = 44 from rfl, e377 44 (by decide)]
        rfl
      · rw [if_neg (by decide), if_neg (by decide), if_pos (by decide), if_pos (by decide), h21]
        simp only [rBd_v, Option.toList_some, Option.toList_none, List.cons_append, List.nil_append, List.append_nil]
        rw [b_222_113, b_222_134]
        rfl
      · rw [if_neg (by decide), if_neg (by decide), if_pos (by decide), if_neg (by decide), if_pos (by decide), b_222_133 (by decide) (by decide), show Int.toNat 45 = 45 from rfl, e377 45 (by decide), b_222_134]
        rfl
      · rw [if_neg (by decide), if_neg (by decide), if_pos (by decide), if_neg (by decide), if_neg (by decide), b_222_133 (by decide) (by decide), show Int.toNat 46 = 46 from rfl, e377 46 (by decide), b_222_134]
        rfl
      · rw [if_neg (by decide), if_neg (by decide), if_neg (by decide), if_pos (by decide), b_222_170, e363 42 (by decide), b8]
        rfl
      · rw [if_neg (by decide), if_neg (by decide), if_neg (by decide), if_neg (by decide), if_pos (by decide), b_222_170, e363 30 (by decide)]
        rfl
      · rw [if_neg (by decide), if_neg (by decide), if_neg (by decide), if_neg (by decide), if_neg (by decide), b_222_161 (by decide) (by decide), b_222_170, e381, show Int.toNat (11 - 11) = 0 from rfl, pc.2.2.1]
        rfl
      · rw [if_neg (by decide), if_neg (by decide), if_neg (by decide), if_neg (by decide), if_neg (by decide), b_222_161 (by decide) (by decide), b_222_170, e381, show Int.toNat (12 - 11) = 1 from rfl, pd.2.2.1]
        rfl
    · rw [if_neg h, if_neg h]
      simp only [rBd_v, Option.toList_some, Option.toList_none, List.cons_append, List.nil_append, List.append_nil]
      rw [b_222_18, if_pos rfl]
      rfl
  by_cases h : 0 ≤ a ∧ a ≤ 12
  · rw [if_pos h] at hC
    have hX1 := hX m (fun _ _ => rfl)
    rw [if_pos h] at hX1
    exact q_in hC hX1 tk_0 (tk_RR hR)
  · rw [if_neg h] at hC
    have hX1 := hX (wr m 100 17 (m 100 17 + 1)) (fun e he => wr_o _ _ _ _ (by omega))
    rw [if_neg h] at hX1
    exact q_no hR hC hX1
end S
