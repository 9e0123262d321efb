/-! ===== at, refused in one way alone; a deeper run ===== -/
/-- refused by a NoSuchElementException alone -/
def cTN (jc jr : Nat) (as : List Value) : Prop := ∀ (m : Nat → Nat → Int) (q : Nat → Nat → Option Nat) (w : Option (Nat → Int64)), RR m q → ∀ (d : Nat), 200 ≤ d →
  (∃ (v : Int) (m1 : Nat → Nat → Int) (q1 : Nat → Nat → Option Nat) (m2 : Nat → Nat → Int), ev d jc (.ref 100 :: as) (mk m q w) = vI v (mk m1 q1 w) ∧ ev d jr (.ref 363 :: as) (mk m1 q1 w) = vI v (mk m2 q1 w) ∧ m2 363 0 = 0 ∧ RR m2 q1) ∨
  (∃ (v : Int) (m1 m2 : Nat → Nat → Int), ev d jc (.ref 100 :: as) (mk m q w) = some (.inr 1, (mk m1 q w, (1, 6))) ∧ ev d jr (.ref 363 :: as) (mk m1 q w) = vI v (mk m2 q w) ∧ m2 363 0 = ((1 : Nat) : Int) ∧ RR m2 q)
section S
variable {d n : Nat} {m : Nat → Nat → Int} {q : Nat → Nat → Option Nat} {w : Option (Nat → Int64)}
theorem K_at2 {p : Int} (hp : i32 p) : cTN 127 227 [.int (iI p)] := by
  intro m q w hR d hd
  obtain ⟨-, ⟨n0, r0, k, h0, ⟨k1, k2⟩, ⟨kF, -, -, -⟩, -, -, -, -, -, -⟩, -⟩ := id hR
  have hn7 := kF.1.2.1
  have h8 : m 108 0 = n0 := kF.1.1
  have hC : ev d 127 [.ref 100, .int (iI p)] (mk m q w) = if 0 ≤ p ∧ p < n0 then vI (m 109 p.toNat) (mk m q w) else some (.inr 1, (mk (wr m 100 16 (m 100 16 + 1)) q w, (1, 6))) := by
    rw [e_127 (by omega) _ rfl rfl, b_127_0, T_13 (by omega) f108 hp (by rw [h8]; omega), h8]
    simp only [rBd_v, Option.toList_some, Option.toList_none, List.cons_append, List.nil_append, List.append_nil, b_127_12]
    rw [T_125 (by omega)]
    by_cases h : 0 ≤ p ∧ p < n0
    · rw [if_pos h, zb_t h, if_neg (by decide)]
      simp only [rBd_v, Option.toList_some, Option.toList_none, List.cons_append, List.nil_append, List.append_nil]
      rw [b_127_15 (by omega) (by omega)]
    · rw [if_neg h, zb_f h, if_pos rfl]
      rfl
  have hX : ∀ m1 : Nat → Nat → Int, m1 363 15 = n0 → ev d 227 [.ref 363, .int (iI p)] (mk m1 q w) = if 0 ≤ p ∧ p < n0 then vI (m1 376 (28 + p).toNat) (mk (wr m1 363 0 0) q w) else vI 0 (mk (noX m1 1 0) q w) := by
    intro m1 h1
    rw [e_227 (by omega) _ rfl rfl, b_227_0, V_223 (by omega) hp hn7 h1]
    by_cases h : 0 ≤ p ∧ p < n0
    · rw [if_pos h, if_pos h]
      simp only [rBd_v, Option.toList_some, Option.toList_none, List.cons_append, List.nil_append, List.append_nil]
      rw [b_227_10, if_neg (by decide), b_227_15 (by omega) (by omega), wr_o _ _ _ _ (by decide)]
    · rw [if_neg h, if_neg h]
      simp only [rBd_v, Option.toList_some, Option.toList_none, List.cons_append, List.nil_append, List.append_nil]
      rw [b_227_10, if_pos rfl]
  by_cases h : 0 ≤ p ∧ p < n0
  · rw [if_pos h] at hC
    have hX1 := hX m k1
    rw [if_pos h] at hX1
    have e := kF.2.2.2.2.2.2.2.1.1 p.toNat (by omega)
    refine Or.inl ⟨_, m, q, _, hC, ?_, wr_s _ _ _ _, RR_0 hR⟩
    rw [hX1, show (28 + p).toNat = 28 + p.toNat by omega, ← e]
  · rw [if_neg h] at hC
    have hX1 := hX (wr m 100 16 (m 100 16 + 1)) (by rw [wr_o _ _ _ _ (by decide)]; exact k1)
    rw [if_neg h] at hX1
    exact Or.inr ⟨0, _, noX (wr m 100 16 (m 100 16 + 1)) 1 0, hC, hX1, noX_0, RR_no1 hR⟩
end S
/-! the row of longs -/
def shW (j : Nat) : Bool := match rShp j with
  | some (0, (1, _) :: _) => decide (j = 391)
  | _ => true
theorem shW_ok : ∀ j, j < 392 → shW j = true := by decide +kernel
theorem rCq_w {m : Nat → Nat → Int} {q : Nat → Nat → Option Nat} {w w2 : Nat → Int64} {j : Nat} (h : j ≠ 391) : rCq m q w j = rCq m q w2 j := by
  cases hs : rShp j with
  | none =>
    unfold rCq
    rw [hs]
  | some s =>
    have h1 := shW_ok j (rShp_lt hs)
    unfold shW at h1
    rw [hs] at h1
    unfold rCq
    rw [hs]
    obtain ⟨k, F⟩ := s
    match k, F with
    | 0, [] => rfl
    | 0, [x] => rfl
    | 0, [(t, n), (b, k)] =>
      show some (Sum.inl (t, (n, if t = 0 then _ else if t = 1 then _ else _))) = some (Sum.inl (t, (n, if t = 0 then _ else if t = 1 then _ else _)))
      by_cases ht : t = 1
      · subst ht
        exact absurd (of_decide_eq_true h1) h
      · rw [if_neg ht, if_neg ht]
    | 0, x :: y :: z :: r => rfl
    | 1, [] => rfl
    | 1, x :: r => rfl
    | k + 2, F => rfl
theorem at_w (m : Nat → Nat → Int) (q : Nat → Nat → Option Nat) (w : Nat → Int64) : (mk m q (some w)).2 391 = some (.inl (1, (1, .inr (.inl w)))) := by
  show rCq m q w 391 = _
  unfold rCq
  rw [sh391]
  rfl
theorem mk_w (m : Nat → Nat → Int) (q : Nat → Nat → Option Nat) (w w2 : Nat → Int64) : rSet (mk m q (some w)) 391 (.inl (1, (1, .inr (.inl w2)))) = mk m q (some w2) := by
  have h9 : (mk m q (some w2)).2 391 = some (.inl (1, (1, .inr (.inl w2)))) := at_w m q w2
  show (392, fun j => if j = 391 then some (Sum.inl (1, (1, Sum.inr (Sum.inl w2)))) else rCq m q w j) = (392, rCq m q w2)
  congr 1
  funext j
  by_cases h : j = 391
  · rw [if_pos h, h]
    exact h9.symm
  · rw [if_neg h]
    exact rCq_w h
section H
variable {d pc ln : Nat} {r : rRow} {L : rLoc} {st : List Value} {M : rMem} {m : Nat → Nat → Int} {qq : Nat → Nat → Option Nat} {ab : Nat × Nat}
theorem k_i2l {x : Int32} (hf : rFind (rTi r) pc = some (.i2l, (ln, ab))) : gv d r pc L (.int x :: st) M = gv d r (pc + 1) L (.long x.toInt64 :: st) M := gv_s (one_p hf rfl rfl)
theorem k_lcon {n : Fin 2} (hf : rFind (rTi r) pc = some (.lconst n, (ln, ab))) : gv d r pc L st M = gv d r (pc + 1) L (.long (Int64.ofNat n.val) :: st) M := gv_s (one_p hf rfl rfl)
theorem k_last {w : Nat → Int64} {v : Int64} (hf : rFind (rTi r) pc = some (.lastore, (ln, ab))) : gv d r pc L (.long v :: .int (iI 0) :: .ref 391 :: st) (mk m qq (some w)) = gv d r (pc + 1) L st (mk m qq (some (vp_updL w 0 v))) := gv_s (one_p hf rfl (by
  show rLast (pc + 1) L (.long v :: .int (iI 0) :: .ref 391 :: st) (mk m qq (some w)) = _
  unfold rLast
  dsimp only
  rw [at_w]
  dsimp only
  rw [if_pos ⟨rfl, iI_in (by decide) (by decide) (by decide)⟩, iI_nat (by decide) (by decide), show (0 : Int).toNat = 0 from rfl, mk_w]))
theorem k_ivx {b i : Nat} {q : rRow} {As rest : List Value} {x h : Nat} {M' : rMem} {dk dn : Nat} {v : Int32} (hf : rFind (rTi r) pc = some (.invokevirtual i, (ln, (0, b)))) (hq : rMs[b]? = some q) (hA : rArg 0 q st M = some (As, rest)) (he : ev d b As M = some (.inr x, (M', (dk, dn)))) {y : Nat × Nat × Nat × Nat} {ys : List (Nat × Nat × Nat × Nat)} (hh : rHh r = y :: ys) (h1 : rHnd (y :: ys) pc x = some h) (h2 : rCatch r h = some v) : gv d r pc L st M = some (.inl (some (.int v)), (M', (dk, dn))) := gv_r (by
  have h3 : rOne (ev d) (d + 1) r pc L st M = rInv (ev d) (d + 1) r 0 b pc L st M := by
    unfold rOne
    rw [hf]
  rw [h3]
  unfold rInv
  rw [if_neg (by omega), hq]
  dsimp only
  rw [hA]
  dsimp only
  rw [he]
  dsimp only
  unfold rHdl
  rw [hh]
  dsimp only
  rw [h1]
  dsimp only
  rw [h2])
theorem k_ivr {b i : Nat} {q : rRow} {As rest : List Value} {M' : rMem} {v : Int} (hf : rFind (rTi r) pc = some (.invokevirtual i, (ln, (0, b)))) (hq : rMs[b]? = some q) (hA : rArg 0 q st M = some (As, rest)) (he : ev d b As M = vI v M') : gv d r pc L st M = gv d r (pc + 3) L (.int (iI v) :: rest) M' := gv_s (by
  have h3 : rOne (ev d) (d + 1) r pc L st M = rInv (ev d) (d + 1) r 0 b pc L st M := by
    unfold rOne
    rw [hf]
  rw [h3]
  unfold rInv
  rw [if_neg (by omega), hq]
  dsimp only
  rw [hA]
  dsimp only
  rw [he]
  rfl)
end H
