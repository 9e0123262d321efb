/-! ===== the law ahead of its loop ===== -/
theorem okR_ok {o : Option rRes} {n : Nat} (h : okR o n = true) : ∃ k c, o = some (.inl none, (aft o, (k, c))) ∧ (aft o).1 = n ∧ k ≤ 1000 ∧ c ≤ 100000 := by
  rcases o with _ | ⟨⟨_ | v⟩ | x, M, k, c⟩
  · cases h
  · have h : (Nat.beq M.1 n && (Nat.ble k 1000 && Nat.ble c 100000)) = true := h
    rw [Bool.and_eq_true, Bool.and_eq_true] at h
    exact ⟨k, c, rfl, Nat.eq_of_beq_eq_true h.1, Nat.le_of_ble_eq_true h.2.1, Nat.le_of_ble_eq_true h.2.2⟩
  · cases h
  · cases h
theorem mk_new (m : Nat → Nat → Int) (q : Nat → Nat → Option Nat) : rAdd (mk m q none) (.inl (1, (1, .inr (.inl (fun _ => 0))))) = mk m q (some (fun _ => 0)) := by
  show ((391 + 1, fun j => if j = 391 then some (Sum.inl (1, (1, Sum.inr (Sum.inl (fun _ => 0))))) else (if j = 391 then none else rCq m q (fun _ => 0) j)) : rMem) = (392, rCq m q (fun _ => 0))
  congr 1
  funext j
  by_cases h : j = 391
  · subst h
    rw [if_pos rfl]
    exact (at_lng m q (fun _ => 0)).symm
  · rw [if_neg h, if_neg h]
theorem rArg_nw {x : Nat} {q : rRow} {M : rMem} (h : rNa q = 1) : rArg 2 q [.ref x, .ref x] M = some ([.ref x], [.ref x]) := by
  have hn : ¬ (([.ref x, .ref x] : List Value).length < 1 ∨ 8 < ((([.ref x, .ref x] : List Value).drop 1).map (fun v => v.category)).sum) := show ¬ ((2 : Nat) < 1 ∨ (8 : Nat) < 1) by decide
  unfold rArg
  rw [h, if_neg hn]
  rfl
section G
variable {d n : Nat} {xs : Nat → Int} {G : lG} {pc ln : Nat} {st : List Value} {M : rMem} {K N : Nat} {L : rLoc} {ab : Nat × Nat}
theorem l_new {ci a b : Nat} (hG : lCl d n xs G) (hf : rFind (rTi rLaw) pc = some (.new ci, (ln, (a, b)))) (ha : a < 12) (k : G (pc + 3) L (.ref M.1 :: st) (rAdd M (.inr (a, rDf a))) K N) : G pc L st M (K + 1) (N + (rDf a).length) := by
  refine hG.1 _ _ _ _ _ _ _ _ 1 (rDf a).length K N ?_ k
  unfold rOne
  rw [hf]
  show (if 200 ≤ a then rThr (d + 1) rLaw a pc st M else (rStp (.new ci) a b pc L st M).map Sum.inl) = _
  rw [if_neg (by omega)]
  show (rNew a (pc + 3) L st M).map Sum.inl = _
  unfold rNew
  rw [if_pos ha]
  rfl
theorem l_callv {I : Instr} {a b dk dn : Nat} {qr : rRow} {As rest : List Value} {M' : rMem} (hG : lCl d n xs G) (hf : rFind (rTi rLaw) pc = some (I, (ln, (a, b)))) (hI : (match I with | .invokevirtual _ | .invokestatic _ | .invokespecial _ => true | _ => false) = true) (ha : a < 10) (hq : rMs[b]? = some qr) (hA : rArg a qr st M = some (As, rest)) (he : ev d b As M = some (.inl none, (M', (dk, dn)))) (k : G (pc + 3) L rest M' K N) : G pc L st M (K + dk) (N + dn) := by
  refine hG.1 _ _ _ _ _ _ _ _ dk dn K N ?_ k
  have h : rOne (ev d) (d + 1) rLaw pc L st M = rInv (ev d) (d + 1) rLaw a b pc L st M := by
    unfold rOne
    rw [hf]
    cases I <;> first | rfl | (exfalso; cases hI; done)
  rw [h]
  unfold rInv
  rw [if_neg (by omega), hq]
  dsimp only
  rw [hA]
  dsimp only
  rw [he]
  rfl
theorem l_dup {x : Nat} (hG : lCl d n xs G) (hf : rFind (rTi rLaw) pc = some (.dup, (ln, ab))) (k : G (pc + 1) L (.ref x :: .ref x :: st) M K N) : G pc L (.ref x :: st) M K N := l_s hG (one_p hf rfl (by
  show (if (Value.ref x).category = 1 then some ((pc + 1, (L, (.ref x :: .ref x :: st, M))), (0, 0)) else none) = _
  rw [if_pos (show (Value.ref x).category = 1 from rfl)])) k
theorem l_nwl {m : Nat → Nat → Int} {q : Nat → Nat → Option Nat} (hG : lCl d n xs G) (hf : rFind (rTi rLaw) pc = some (.newarray .long, (ln, (1, 0)))) (k : G (pc + 2) L (.ref 391 :: st) (mk m q (some (fun _ => 0))) K N) : G pc L (.int (iI 1) :: st) (mk m q none) (K + 1) (N + 1) := by
  refine hG.1 _ _ _ _ _ _ _ _ 1 1 K N (one_p hf rfl ?_) k
  show rNwa 1 (pc + 2) L (.int (iI 1) :: st) (mk m q none) = _
  unfold rNwa
  dsimp only
  have h1 : (iI 1).toNatClampNeg = 1 := by decide +kernel
  rw [h1, if_neg (by decide +kernel), if_neg (by decide), if_pos rfl, mk_new]
  rfl
theorem c_start (hG : lCl 2047 n xs G) (hsh : ∀ (pc : Nat) (L : rLoc) (st : List Value) (K N : Nat), G pc L st (mk m0 q0 none) K N → G pc L st (aft r2) K N) (k : G 23 (lLp 0 none none) [] (mk m0 q0 (some (fun _ => 0))) K N) : G 0 [some (.ref 99), none, none, none, none, none, none] [] ((100, fun _ => none) : rMem) (K + 2003) (N + 200072) := by
  obtain ⟨k1, c1, e1, h1, b1, b1'⟩ := okR_ok r1_ok
  obtain ⟨k2, c2, e2, h2, b2, b2'⟩ := okR_ok r2_ok
  have v1 : ev 2047 114 [.ref 100] M1 = some (.inl none, (aft r1, (k1, c1))) := ev_up (d := 20) (by decide) (ev_iff.mpr ⟨3000, e1⟩)
  have v2 : ev 2047 165 [.ref 363] M3 = some (.inl none, (aft r2, (k2, c2))) := ev_up (d := 20) (by decide) (ev_iff.mpr ⟨3000, e2⟩)
  have l1 : (rDf 10).length = 18 := by decide +kernel
  have l2 : (rDf 11).length = 53 := by decide +kernel
  refine hG.2.2.2 _ _ _ _ (K + 1 + k2 + 1 + k1 + 1) (N + 1 + c2 + (rDf 11).length + c1 + (rDf 10).length) _ _ (by omega) (by omega) ?_
  refine l_new hG (z_0 rfl) (by decide) ?_
  show G 3 _ [.ref 100] M1 _ _
  refine l_dup hG (z_0 rfl) ?_
  refine l_callv hG (z_0 rfl) rfl (by decide) q_114 (rArg_nw rfl) v1 ?_
  refine l_s (L' := [some (.ref 99), some (.ref 100), none, none, none, none, none]) hG (one_p (z_0 rfl) rfl rfl) ?_
  refine l_new hG (z_0 rfl) (by decide) ?_
  rw [h1]
  show G 11 _ [.ref 363] M3 _ _
  refine l_dup hG (z_0 rfl) ?_
  refine l_callv hG (z_0 rfl) rfl (by decide) q_165 (rArg_nw rfl) v2 ?_
  refine l_s (L' := [some (.ref 99), some (.ref 100), some (.ref 363), none, none, none, none]) hG (one_p (z_0 rfl) rfl rfl) ?_
  refine hsh _ _ _ _ _ ?_
  refine l_con (z := 1) hG (z_0 rfl) ?_
  refine l_nwl hG (z_0 rfl) ?_
  refine l_s (L' := [some (.ref 99), some (.ref 100), some (.ref 363), some (.ref 391), none, none, none]) hG (one_p (z_0 rfl) rfl rfl) ?_
  refine l_con (z := 0) hG (z_0 rfl) ?_
  refine l_s (L' := [some (.ref 99), some (.ref 100), some (.ref 363), some (.ref 391), some (.int (iI 0)), none, none]) hG (one_p (z_0 rfl) rfl rfl) ?_
  exact k
end G
