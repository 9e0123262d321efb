/-! ===== the law's body, over any judgement that its rows keep ===== -/
abbrev lG : Type := Nat → rLoc → List Value → rMem → Nat → Nat → Prop
def lCl (d n : Nat) (xs : Nat → Int) (G : lG) : Prop :=
  (∀ pc L st M pc' L' st' M' dk dn K N, rOne (ev d) (d + 1) rLaw pc L st M = some (.inl ((pc', (L', (st', M'))), (dk, dn))) → G pc' L' st' M' K N → G pc L st M (K + dk) (N + dn)) ∧
  (∀ pc L z rest M K N ab, rFind (rTi rLaw) pc = some (.iaload, (1, ab)) → 0 ≤ z → z < (n : Int) → G (pc + 1) L (.int (iI (xs z.toNat)) :: rest) M K N → G pc L (.int (iI z) :: .ref 99 :: rest) M K N) ∧
  (∀ pc L rest M K N ab, rFind (rTi rLaw) pc = some (.arraylength, (1, ab)) → G (pc + 1) L (.int (iI n) :: rest) M K N → G pc L (.ref 99 :: rest) M K N) ∧
  (∀ pc L st M K N K' N', K ≤ K' → N ≤ N' → G pc L st M K N → G pc L st M K' N')
abbrev lLp (i : Int) (u5 u6 : Option Value) : rLoc := [some (.ref 99), some (.ref 100), some (.ref 363), some (.ref 391), some (.int (iI i)), u5, u6]
section G
variable {d n : Nat} {xs : Nat → Int} {G : lG} {pc ln : Nat} {st : List Value} {M : rMem} {K N : Nat} {i : Int} {u5 u6 : Option Value} {ab : Nat × Nat} {L : rLoc} {m : Nat → Nat → Int} {q : Nat → Nat → Option Nat} {w : Nat → Int64}
theorem l_s {pc' : Nat} {L' : rLoc} {st' : List Value} {M' : rMem} (hG : lCl d n xs G) (h : rOne (ev d) (d + 1) rLaw pc L st M = some (.inl ((pc', (L', (st', M'))), (0, 0)))) (k : G pc' L' st' M' K N) : G pc L st M K N := hG.1 _ _ _ _ _ _ _ _ 0 0 K N h k
theorem l_a0 (hG : lCl d n xs G) (hf : rFind (rTi rLaw) pc = some (.aload_n 0, (ln, ab))) (k : G (pc + 1) (lLp i u5 u6) (.ref 99 :: st) M K N) : G pc (lLp i u5 u6) st M K N := l_s hG (one_p hf rfl rfl) k
theorem l_a1 (hG : lCl d n xs G) (hf : rFind (rTi rLaw) pc = some (.aload_n 1, (ln, ab))) (k : G (pc + 1) (lLp i u5 u6) (.ref 100 :: st) M K N) : G pc (lLp i u5 u6) st M K N := l_s hG (one_p hf rfl rfl) k
theorem l_a2 (hG : lCl d n xs G) (hf : rFind (rTi rLaw) pc = some (.aload_n 2, (ln, ab))) (k : G (pc + 1) (lLp i u5 u6) (.ref 363 :: st) M K N) : G pc (lLp i u5 u6) st M K N := l_s hG (one_p hf rfl rfl) k
theorem l_a3 (hG : lCl d n xs G) (hf : rFind (rTi rLaw) pc = some (.aload_n 3, (ln, ab))) (k : G (pc + 1) (lLp i u5 u6) (.ref 391 :: st) M K N) : G pc (lLp i u5 u6) st M K N := l_s hG (one_p hf rfl rfl) k
theorem l_i4 (hG : lCl d n xs G) (hf : rFind (rTi rLaw) pc = some (.iload 4, (ln, ab))) (k : G (pc + 2) (lLp i u5 u6) (.int (iI i) :: st) M K N) : G pc (lLp i u5 u6) st M K N := l_s hG (one_p hf rfl rfl) k
theorem l_i5 {x : Int32} (hG : lCl d n xs G) (hf : rFind (rTi rLaw) pc = some (.iload 5, (ln, ab))) (k : G (pc + 2) (lLp i (some (.int x)) u6) (.int x :: st) M K N) : G pc (lLp i (some (.int x)) u6) st M K N := l_s hG (one_p hf rfl rfl) k
theorem l_i6 {x : Int32} (hG : lCl d n xs G) (hf : rFind (rTi rLaw) pc = some (.iload 6, (ln, ab))) (k : G (pc + 2) (lLp i u5 (some (.int x))) (.int x :: st) M K N) : G pc (lLp i u5 (some (.int x))) st M K N := l_s hG (one_p hf rfl rfl) k
theorem l_s5 {x : Int32} (hG : lCl d n xs G) (hf : rFind (rTi rLaw) pc = some (.istore 5, (ln, ab))) (k : G (pc + 2) (lLp i (some (.int x)) u6) st M K N) : G pc (lLp i u5 u6) (.int x :: st) M K N := l_s hG (one_p hf rfl rfl) k
theorem l_s6 {x : Int32} (hG : lCl d n xs G) (hf : rFind (rTi rLaw) pc = some (.istore 6, (ln, ab))) (k : G (pc + 2) (lLp i u5 (some (.int x))) st M K N) : G pc (lLp i u5 u6) (.int x :: st) M K N := l_s hG (one_p hf rfl rfl) k
theorem l_con {z : Int} (hG : lCl d n xs G) (hf : rFind (rTi rLaw) pc = some (.iconst z, (ln, ab))) (k : G (pc + 1) L (.int (iI z) :: st) M K N) : G pc L st M K N := l_s hG (one_p hf rfl rfl) k
theorem l_bip {z : Int} (hG : lCl d n xs G) (hf : rFind (rTi rLaw) pc = some (.bipush z, (ln, ab))) (hz : -128 ≤ z ∧ z ≤ 127) (k : G (pc + 2) L (.int (iI z) :: st) M K N) : G pc L st M K N := l_s hG (one_p hf rfl (by
  show some ((pc + 2, (L, (.int (Int8.ofInt z).toInt32 :: st, M))), (0, 0)) = _
  rw [byt z hz])) k
theorem l_add {x y : Int} (hG : lCl d n xs G) (hf : rFind (rTi rLaw) pc = some (.iadd, (ln, ab))) (k : G (pc + 1) L (.int (iI (x + y)) :: st) M K N) : G pc L (.int (iI y) :: .int (iI x) :: st) M K N := l_s hG (one_p hf rfl (by
  show some ((pc + 1, (L, (.int (iI x + iI y) :: st, M))), (0, 0)) = _
  rw [iI_add])) k
theorem l_sub {x y : Int} (hG : lCl d n xs G) (hf : rFind (rTi rLaw) pc = some (.isub, (ln, ab))) (k : G (pc + 1) L (.int (iI (x - y)) :: st) M K N) : G pc L (.int (iI y) :: .int (iI x) :: st) M K N := l_s hG (one_p hf rfl (by
  show some ((pc + 1, (L, (.int (iI x - iI y) :: st, M))), (0, 0)) = _
  rw [iI_sub])) k
theorem l_and {x y : Int} (hG : lCl d n xs G) (hf : rFind (rTi rLaw) pc = some (.iand, (ln, ab))) (k : G (pc + 1) L (.int (iI (zAnd x y)) :: st) M K N) : G pc L (.int (iI y) :: .int (iI x) :: st) M K N := l_s hG (one_p hf rfl (by
  unfold zAnd
  rw [iI_toInt]
  rfl)) k
theorem l_go {off : Int} {t : Nat} (hG : lCl d n xs G) (hf : rFind (rTi rLaw) pc = some (.goto off, (ln, ab))) (ht : rJ pc off = some t) (k : G t L st M K N) : G pc L st M K N := l_s hG (one_p hf rfl (by
  show rTo (rJ pc off) L st M = _
  rw [ht]
  rfl)) k
theorem l_i2l {x : Int32} (hG : lCl d n xs G) (hf : rFind (rTi rLaw) pc = some (.i2l, (ln, ab))) (k : G (pc + 1) L (.long x.toInt64 :: st) M K N) : G pc L (.int x :: st) M K N := l_s hG (one_p hf rfl rfl) k
theorem l_lcon {z : Fin 2} (hG : lCl d n xs G) (hf : rFind (rTi rLaw) pc = some (.lconst z, (ln, ab))) (k : G (pc + 1) L (.long (Int64.ofNat z.val) :: st) M K N) : G pc L st M K N := l_s hG (one_p hf rfl rfl) k
theorem l_lcm {x : Int64} (hG : lCl d n xs G) (hf : rFind (rTi rLaw) pc = some (.lcmp, (ln, ab))) (k : G (pc + 1) L (.int (iI 0) :: st) M K N) : G pc L (.long x :: .long x :: st) M K N := l_s hG (one_p hf rfl (by
  show some ((pc + 1, (L, (.int (lg_cmp x x) :: st, M))), (0, 0)) = _
  rw [show lg_cmp x x = iI 0 by
    unfold lg_cmp
    rw [if_neg Int64.lt_irrefl, if_pos rfl]
    rfl])) k
theorem l_lald (hG : lCl d n xs G) (hf : rFind (rTi rLaw) pc = some (.laload, (ln, ab))) (k : G (pc + 1) L (.long (w 0) :: st) (mk m q (some w)) K N) : G pc L (.int (iI 0) :: .ref 391 :: st) (mk m q (some w)) K N := l_s hG (one_p hf rfl (by
  show rLald (pc + 1) L (.int (iI 0) :: .ref 391 :: st) (mk m q (some w)) = _
  unfold rLald
  dsimp only
  rw [at_w]
  dsimp only
  rw [if_pos ⟨rfl, iI_in (by decide) (by decide) (by decide)⟩, iI_nat (by decide) (by decide), show (0 : Int).toNat = 0 from rfl])) k
theorem l_eqt {x y off : Int} {t : Nat} (hG : lCl d n xs G) (hf : rFind (rTi rLaw) pc = some (.if_icmp .eq off, (ln, ab))) (ht : rJ pc off = some t) (h : x = y) (k : G t L st M K N) : G pc L (.int (iI y) :: .int (iI x) :: st) M K N := l_s hG (one_p hf rfl (by
  show (if rCmp .eq (iI x) (iI y) = true then rTo (rJ pc off) L st M else _) = _
  rw [if_pos (by unfold rCmp; rw [h]; exact decide_eq_true rfl), rTo_s ht])) k
theorem l_gtt {x y off : Int} {t : Nat} (hG : lCl d n xs G) (hf : rFind (rTi rLaw) pc = some (.if_icmp .gt off, (ln, ab))) (ht : rJ pc off = some t) (h : iI y < iI x) (k : G t L st M K N) : G pc L (.int (iI y) :: .int (iI x) :: st) M K N := l_s hG (one_p hf rfl (by
  show (if rCmp .gt (iI x) (iI y) = true then rTo (rJ pc off) L st M else _) = _
  rw [if_pos (by unfold rCmp; exact decide_eq_true h), rTo_s ht])) k
theorem l_gtf {x y off : Int} (hG : lCl d n xs G) (hf : rFind (rTi rLaw) pc = some (.if_icmp .gt off, (ln, ab))) (h : ¬ iI y < iI x) (k : G (pc + 3) L st M K N) : G pc L (.int (iI y) :: .int (iI x) :: st) M K N := l_s hG (one_p hf rfl (by
  show (if rCmp .gt (iI x) (iI y) = true then rTo (rJ pc off) L st M else _) = _
  rw [if_neg (by unfold rCmp; rw [decide_eq_true_iff]; exact h)])) k
theorem l_z_t {x off : Int} {t : Nat} (hG : lCl d n xs G) (hf : rFind (rTi rLaw) pc = some (.ifCond .eq off, (ln, ab))) (ht : rJ pc off = some t) (h : iI x = iI 0) (k : G t L st M K N) : G pc L (.int (iI x) :: st) M K N := l_s hG (one_p hf rfl (by
  show (if rCmp .eq (iI x) 0 = true then rTo (rJ pc off) L st M else _) = _
  rw [if_pos (by unfold rCmp; rw [h]; rfl), rTo_s ht])) k
theorem l_z_f {x off : Int} (hG : lCl d n xs G) (hf : rFind (rTi rLaw) pc = some (.ifCond .eq off, (ln, ab))) (h : iI x ≠ iI 0) (k : G (pc + 3) L st M K N) : G pc L (.int (iI x) :: st) M K N := l_s hG (one_p hf rfl (by
  show (if rCmp .eq (iI x) 0 = true then rTo (rJ pc off) L st M else _) = _
  rw [if_neg (by unfold rCmp; rw [decide_eq_true_iff]; exact h)])) k
theorem l_nz_t {x off : Int} {t : Nat} (hG : lCl d n xs G) (hf : rFind (rTi rLaw) pc = some (.ifCond .ne off, (ln, ab))) (ht : rJ pc off = some t) (h : iI x ≠ iI 0) (k : G t L st M K N) : G pc L (.int (iI x) :: st) M K N := l_s hG (one_p hf rfl (by
  show (if rCmp .ne (iI x) 0 = true then rTo (rJ pc off) L st M else _) = _
  rw [if_pos (by unfold rCmp; rw [Bool.not_eq_true', decide_eq_false_iff_not]; exact h), rTo_s ht])) k
theorem l_nz_f {x off : Int} (hG : lCl d n xs G) (hf : rFind (rTi rLaw) pc = some (.ifCond .ne off, (ln, ab))) (h : iI x = iI 0) (k : G (pc + 3) L st M K N) : G pc L (.int (iI x) :: st) M K N := l_s hG (one_p hf rfl (by
  show (if rCmp .ne (iI x) 0 = true then rTo (rJ pc off) L st M else _) = _
  rw [if_neg (by unfold rCmp; rw [h]; decide)])) k
theorem l_tsw {df lo hi : Int} {offs : Array Int} {t : Nat} {z : Int} (hG : lCl d n xs G) (hf : rFind (rTi rLaw) pc = some (.tableswitch df lo hi offs, (ln, ab))) (hz : i32 z) (h1 : lo ≤ z ∧ z ≤ hi) {off : Int} (ho : offs[(z - lo).toNat]? = some off) (ht : rJ pc off = some t) (k : G t L st M K N) : G pc L (.int (iI z) :: st) M K N := l_s hG (one_p hf rfl (by
  unfold rStp
  dsimp only
  unfold rTsw
  dsimp only
  rw [toInt_iI hz, if_neg (by omega), ho]
  exact rTo_s ht)) k
theorem l_tsd {df lo hi : Int} {offs : Array Int} {t : Nat} {z : Int} (hG : lCl d n xs G) (hf : rFind (rTi rLaw) pc = some (.tableswitch df lo hi offs, (ln, ab))) (hz : i32 z) (h1 : z < lo ∨ hi < z) (ht : rJ pc df = some t) (k : G t L st M K N) : G pc L (.int (iI z) :: st) M K N := l_s hG (one_p hf rfl (by
  unfold rStp
  dsimp only
  unfold rTsw
  dsimp only
  rw [toInt_iI hz, if_pos (by omega)]
  exact rTo_s ht)) k
theorem l_call {I : Instr} {a b dk dn : Nat} {qr : rRow} {As rest : List Value} {x : Value} {M' : rMem} (hG : lCl d n xs G) (hf : rFind (rTi rLaw) pc = some (I, (ln, (a, b)))) (hI : (match I with | .invokevirtual _ | .invokestatic _ | .invokespecial _ => true | _ => false) = true) (ha : a < 10) (hq : rMs[b]? = some qr) (hA : rArg a qr st M = some (As, rest)) (he : ev d b As M = some (.inl (some x), (M', (dk, dn)))) (k : G (pc + 3) L (x :: rest) M' K N) : G pc L st M (K + dk) (N + dn) := by
  refine hG.1 _ _ _ _ _ _ _ _ dk dn K N ?_ k
  have h : rOne (ev d) (d + 1) rLaw pc L st M = rInv (ev d) (d + 1) rLaw a b pc L st M := by
    unfold rOne
    rw [hf]
    cases I <;> first | rfl | (exfalso; cases hI; done)
  rw [h]
  unfold rInv
  rw [if_neg (by omega), hq]
  dsimp only
  rw [hA]
  dsimp only
  rw [he]
  rfl
theorem l_ar {c : Int} (hG : lCl d n xs G) (h0 : rFind (rTi rLaw) pc = some (.aload_n 0, (1, (0, 0)))) (h1 : rFind (rTi rLaw) (pc + 1) = some (.iload 4, (2, (0, 0)))) (h2 : rFind (rTi rLaw) (pc + 3) = some (.iconst c, (1, (0, 0)))) (h3 : rFind (rTi rLaw) (pc + 4) = some (.iadd, (1, (0, 0)))) (h4 : rFind (rTi rLaw) (pc + 5) = some (.iaload, (1, (0, 0)))) (hc : 0 ≤ i + c ∧ i + c < n) (k : G (pc + 6) (lLp i u5 u6) (.int (iI (xs (i + c).toNat)) :: st) M K N) : G pc (lLp i u5 u6) st M K N :=
  l_a0 hG h0 (l_i4 hG h1 (l_con hG h2 (l_add hG h3 (hG.2.1 _ _ _ _ _ _ _ _ h4 hc.1 hc.2 k))))
theorem l_ab {c : Int} (hG : lCl d n xs G) (h0 : rFind (rTi rLaw) pc = some (.aload_n 0, (1, (0, 0)))) (h1 : rFind (rTi rLaw) (pc + 1) = some (.iload 4, (2, (0, 0)))) (h2 : rFind (rTi rLaw) (pc + 3) = some (.bipush c, (2, (0, 0)))) (h3 : rFind (rTi rLaw) (pc + 5) = some (.iadd, (1, (0, 0)))) (h4 : rFind (rTi rLaw) (pc + 6) = some (.iaload, (1, (0, 0)))) (hb : -128 ≤ c ∧ c ≤ 127) (hc : 0 ≤ i + c ∧ i + c < n) (k : G (pc + 7) (lLp i u5 u6) (.int (iI (xs (i + c).toNat)) :: st) M K N) : G pc (lLp i u5 u6) st M K N :=
  l_a0 hG h0 (l_i4 hG h1 (l_bip hG h2 hb (l_add hG h3 (hG.2.1 _ _ _ _ _ _ _ _ h4 hc.1 hc.2 k))))
theorem thr_159 (hd : 1 ≤ d) : ev d 159 [.ref 363] (mk m q (some w)) = vI (m 363 0) (mk m q (some w)) := by
  rw [e_159 hd _ rfl, b_159_0]
theorem z63 (x : Int) : 0 ≤ zAnd x 63 ∧ zAnd x 63 ≤ 63 := by
  have h : (iI x &&& iI 63).toBitVec.toNat ≤ 63 := by
    rw [Int32.toBitVec_and, BitVec.toNat_and]
    exact Nat.and_le_right
  have h2 : (iI x &&& iI 63).toInt = (((iI x &&& iI 63).toBitVec.toNat : Nat) : Int) := BitVec.toInt_eq_toNat_of_lt (by omega)
  unfold zAnd
  omega
end G
