/-! ===== one instruction: frames over memories by functions ===== -/
theorem rSh_00 (o : Option rRes) : o.map (rSh 0 0) = o := by
  cases o with
  | none => rfl
  | some r => rfl
theorem gv_s {d pc pc' : Nat} {r : rRow} {L L' : rLoc} {st st' : List Value} {M M' : rMem} (h : rOne (ev d) (d + 1) r pc L st M = some (.inl ((pc', (L', (st', M'))), (0, 0)))) : gv d r pc L st M = gv d r pc' L' st' M' := by
  rw [gv_eq, h]
  exact rSh_00 _
theorem gv_r {d pc : Nat} {r : rRow} {L : rLoc} {st : List Value} {M : rMem} {res : rRes} (h : rOne (ev d) (d + 1) r pc L st M = some (.inr res)) : gv d r pc L st M = some res := by
  rw [gv_eq, h]
  rfl
/-- what comes behind a call -/
def rBd (o : Option rRes) (k : Option Value → rMem → Option rRes) : Option rRes := match o with
  | none => none
  | some (.inl v, (M', (dk, dn))) => (k v M').map (rSh dk dn)
  | some (.inr x, (M', (dk, dn))) => some (.inr x, (M', (dk, dn)))
theorem rBd_v (v : Option Value) (M : rMem) (k : Option Value → rMem → Option rRes) : rBd (some (.inl v, (M, (0, 0)))) k = k v M := rSh_00 _
theorem rBd_c (v : Option Value) (M : rMem) (a b : Nat) (k : Option Value → rMem → Option rRes) : rBd (some (.inl v, (M, (a, b)))) k = (k v M).map (rSh a b) := rfl
theorem rBd_x (x : Nat) (M : rMem) (a b : Nat) (k : Option Value → rMem → Option rRes) : rBd (some (.inr x, (M, (a, b)))) k = some (.inr x, (M, (a, b))) := rfl
theorem rSh_s (a b : Nat) (o : rOut) (M : rMem) (c e : Nat) : (some (o, (M, (c, e))) : Option rRes).map (rSh a b) = some (o, (M, (c + a, e + b))) := rfl
/-- numbers -/
theorem iI_add (a b : Int) : iI a + iI b = iI (a + b) := (Int32.ofInt_add a b).symm
theorem iI_sub (a b : Int) : iI a - iI b = iI (a - b) := (Int32.ofInt_sub a b).symm
theorem iI_mul (a b : Int) : iI a * iI b = iI (a * b) := (Int32.ofInt_mul a b).symm
theorem iI_toInt (x : Int32) : iI x.toInt = x := Int32.ofInt_toInt x
abbrev i32 (a : Int) : Prop := -2147483648 ≤ a ∧ a < 2147483648
theorem toInt_iI {a : Int} (h : i32 a) : (iI a).toInt = a := Int32.toInt_ofInt_of_le h.1 h.2
theorem iI_lt {a b : Int} (ha : i32 a) (hb : i32 b) : iI a < iI b ↔ a < b := by
  rw [Int32.lt_iff_toInt_lt, toInt_iI ha, toInt_iI hb]
theorem iI_eq {a b : Int} (ha : i32 a) (hb : i32 b) : iI a = iI b ↔ a = b := by
  rw [← Int32.toInt_inj, toInt_iI ha, toInt_iI hb]
theorem iI_nat {a : Int} (h0 : 0 ≤ a) (h : a < 2147483648) : (iI a).toNatClampNeg = a.toNat := Int32.toNatClampNeg_ofInt_of_le (by omega) h
theorem ofNat_iI (n : Nat) : Int32.ofNat n = iI n := Int32.ofInt_eq_ofNat.symm
theorem iI_in {a : Int} {n : Nat} (h0 : 0 ≤ a) (h : a < n) (hn : n ≤ 100000) : ¬ (iI a < 0 ∨ n ≤ (iI a).toNatClampNeg) := by
  rw [iI_nat h0 (by omega)]
  intro hc
  rcases hc with hc | hc
  · have : iI a < iI 0 := hc
    rw [iI_lt (by omega) (by omega)] at this
    omega
  · omega
theorem byt (n : Int) (h : -128 ≤ n ∧ n ≤ 127) : (Int8.ofInt n).toInt32 = iI n := by
  have : (Int8.ofInt n).toInt = n := Int8.toInt_ofInt_of_le (by omega) (by omega)
  rw [← Int32.ofInt_int8ToInt, this]
  rfl
theorem sht (n : Int) (h : -32768 ≤ n ∧ n ≤ 32767) : (Int16.ofInt n).toInt32 = iI n := by
  have : (Int16.ofInt n).toInt = n := Int16.toInt_ofInt_of_le (by omega) (by omega)
  rw [← Int32.ofInt_int16ToInt, this]
  rfl
theorem bl {a b : Nat} (h : Nat.ble a b = true) : a ≤ b := Nat.le_of_ble_eq_true h
section Steps
variable {d pc : Nat} {r : rRow} {L : rLoc} {st : List Value} {M : rMem} {m : Nat → Nat → Int} {qq : Nat → Nat → Option Nat} {w : Option (Nat → Int64)} {ab : Nat × Nat} {ln : Nat}
theorem one_p {I : Instr} {a b : Nat} (hf : rFind (rTi r) pc = some (I, (ln, (a, b)))) (hI : (match I with | .ireturn | .areturn | .return_ | .new _ | .invokevirtual _ | .invokestatic _ | .invokespecial _ => false | _ => true) = true) {x : rNx} (h : rStp I a b pc L st M = some x) : rOne (ev d) (d + 1) r pc L st M = some (.inl x) := by
  unfold rOne
  rw [hf]
  cases I <;> first | (exfalso; cases hI; done) | (show Option.map Sum.inl (rStp _ a b pc L st M) = _; rw [h]; rfl)

theorem k_ald0 {x : Nat} (hf : rFind (rTi r) pc = some (.aload_n 0, (ln, ab))) : gv d r pc (some (.ref x) :: L) st M = gv d r (pc + 1) (some (.ref x) :: L) (.ref x :: st) M := gv_s (one_p hf rfl rfl)
theorem k_ild0 {x : Int32} (hf : rFind (rTi r) pc = some (.iload_n 0, (ln, ab))) : gv d r pc (some (.int x) :: L) st M = gv d r (pc + 1) (some (.int x) :: L) (.int x :: st) M := gv_s (one_p hf rfl rfl)
theorem k_ist0 {u : Option Value} {x : Int32} (hf : rFind (rTi r) pc = some (.istore_n 0, (ln, ab))) : gv d r pc (u :: L) (.int x :: st) M = gv d r (pc + 1) (some (.int x) :: L) st M := gv_s (one_p hf rfl rfl)
theorem k_ast0 {u : Option Value} {x : Nat} (hf : rFind (rTi r) pc = some (.astore_n 0, (ln, ab))) : gv d r pc (u :: L) (.ref x :: st) M = gv d r (pc + 1) (some (.ref x) :: L) st M := gv_s (one_p hf rfl rfl)
theorem k_inc0 {x n : Int} (hf : rFind (rTi r) pc = some (.iinc 0 n, (ln, ab))) : gv d r pc (some (.int (iI x)) :: L) st M = gv d r (pc + 3) (some (.int (iI (x + n))) :: L) st M := gv_s (one_p hf rfl (by
  show some ((pc + 3, (some (.int (iI x + Int32.ofInt n)) :: L, (st, M))), (0, 0)) = _
  rw [show iI x + Int32.ofInt n = iI (x + n) from iI_add x n]))
theorem k_ald1 {u0 : Option Value} {x : Nat} (hf : rFind (rTi r) pc = some (.aload_n 1, (ln, ab))) : gv d r pc (u0 :: some (.ref x) :: L) st M = gv d r (pc + 1) (u0 :: some (.ref x) :: L) (.ref x :: st) M := gv_s (one_p hf rfl rfl)
theorem k_ild1 {u0 : Option Value} {x : Int32} (hf : rFind (rTi r) pc = some (.iload_n 1, (ln, ab))) : gv d r pc (u0 :: some (.int x) :: L) st M = gv d r (pc + 1) (u0 :: some (.int x) :: L) (.int x :: st) M := gv_s (one_p hf rfl rfl)
theorem k_ist1 {u0 : Option Value} {u : Option Value} {x : Int32} (hf : rFind (rTi r) pc = some (.istore_n 1, (ln, ab))) : gv d r pc (u0 :: u :: L) (.int x :: st) M = gv d r (pc + 1) (u0 :: some (.int x) :: L) st M := gv_s (one_p hf rfl rfl)
theorem k_ast1 {u0 : Option Value} {u : Option Value} {x : Nat} (hf : rFind (rTi r) pc = some (.astore_n 1, (ln, ab))) : gv d r pc (u0 :: u :: L) (.ref x :: st) M = gv d r (pc + 1) (u0 :: some (.ref x) :: L) st M := gv_s (one_p hf rfl rfl)
theorem k_inc1 {u0 : Option Value} {x n : Int} (hf : rFind (rTi r) pc = some (.iinc 1 n, (ln, ab))) : gv d r pc (u0 :: some (.int (iI x)) :: L) st M = gv d r (pc + 3) (u0 :: some (.int (iI (x + n))) :: L) st M := gv_s (one_p hf rfl (by
  show some ((pc + 3, (u0 :: some (.int (iI x + Int32.ofInt n)) :: L, (st, M))), (0, 0)) = _
  rw [show iI x + Int32.ofInt n = iI (x + n) from iI_add x n]))
theorem k_ald2 {u0 u1 : Option Value} {x : Nat} (hf : rFind (rTi r) pc = some (.aload_n 2, (ln, ab))) : gv d r pc (u0 :: u1 :: some (.ref x) :: L) st M = gv d r (pc + 1) (u0 :: u1 :: some (.ref x) :: L) (.ref x :: st) M := gv_s (one_p hf rfl rfl)
theorem k_ild2 {u0 u1 : Option Value} {x : Int32} (hf : rFind (rTi r) pc = some (.iload_n 2, (ln, ab))) : gv d r pc (u0 :: u1 :: some (.int x) :: L) st M = gv d r (pc + 1) (u0 :: u1 :: some (.int x) :: L) (.int x :: st) M := gv_s (one_p hf rfl rfl)
theorem k_ist2 {u0 u1 : Option Value} {u : Option Value} {x : Int32} (hf : rFind (rTi r) pc = some (.istore_n 2, (ln, ab))) : gv d r pc (u0 :: u1 :: u :: L) (.int x :: st) M = gv d r (pc + 1) (u0 :: u1 :: some (.int x) :: L) st M := gv_s (one_p hf rfl rfl)
theorem k_ast2 {u0 u1 : Option Value} {u : Option Value} {x : Nat} (hf : rFind (rTi r) pc = some (.astore_n 2, (ln, ab))) : gv d r pc (u0 :: u1 :: u :: L) (.ref x :: st) M = gv d r (pc + 1) (u0 :: u1 :: some (.ref x) :: L) st M := gv_s (one_p hf rfl rfl)
theorem k_inc2 {u0 u1 : Option Value} {x n : Int} (hf : rFind (rTi r) pc = some (.iinc 2 n, (ln, ab))) : gv d r pc (u0 :: u1 :: some (.int (iI x)) :: L) st M = gv d r (pc + 3) (u0 :: u1 :: some (.int (iI (x + n))) :: L) st M := gv_s (one_p hf rfl (by
  show some ((pc + 3, (u0 :: u1 :: some (.int (iI x + Int32.ofInt n)) :: L, (st, M))), (0, 0)) = _
  rw [show iI x + Int32.ofInt n = iI (x + n) from iI_add x n]))
theorem k_ald3 {u0 u1 u2 : Option Value} {x : Nat} (hf : rFind (rTi r) pc = some (.aload_n 3, (ln, ab))) : gv d r pc (u0 :: u1 :: u2 :: some (.ref x) :: L) st M = gv d r (pc + 1) (u0 :: u1 :: u2 :: some (.ref x) :: L) (.ref x :: st) M := gv_s (one_p hf rfl rfl)
theorem k_ild3 {u0 u1 u2 : Option Value} {x : Int32} (hf : rFind (rTi r) pc = some (.iload_n 3, (ln, ab))) : gv d r pc (u0 :: u1 :: u2 :: some (.int x) :: L) st M = gv d r (pc + 1) (u0 :: u1 :: u2 :: some (.int x) :: L) (.int x :: st) M := gv_s (one_p hf rfl rfl)
theorem k_ist3 {u0 u1 u2 : Option Value} {u : Option Value} {x : Int32} (hf : rFind (rTi r) pc = some (.istore_n 3, (ln, ab))) : gv d r pc (u0 :: u1 :: u2 :: u :: L) (.int x :: st) M = gv d r (pc + 1) (u0 :: u1 :: u2 :: some (.int x) :: L) st M := gv_s (one_p hf rfl rfl)
theorem k_ast3 {u0 u1 u2 : Option Value} {u : Option Value} {x : Nat} (hf : rFind (rTi r) pc = some (.astore_n 3, (ln, ab))) : gv d r pc (u0 :: u1 :: u2 :: u :: L) (.ref x :: st) M = gv d r (pc + 1) (u0 :: u1 :: u2 :: some (.ref x) :: L) st M := gv_s (one_p hf rfl rfl)
theorem k_inc3 {u0 u1 u2 : Option Value} {x n : Int} (hf : rFind (rTi r) pc = some (.iinc 3 n, (ln, ab))) : gv d r pc (u0 :: u1 :: u2 :: some (.int (iI x)) :: L) st M = gv d r (pc + 3) (u0 :: u1 :: u2 :: some (.int (iI (x + n))) :: L) st M := gv_s (one_p hf rfl (by
  show some ((pc + 3, (u0 :: u1 :: u2 :: some (.int (iI x + Int32.ofInt n)) :: L, (st, M))), (0, 0)) = _
  rw [show iI x + Int32.ofInt n = iI (x + n) from iI_add x n]))
theorem k_ald4 {u0 u1 u2 u3 : Option Value} {x : Nat} (hf : rFind (rTi r) pc = some (.aload 4, (ln, ab))) : gv d r pc (u0 :: u1 :: u2 :: u3 :: some (.ref x) :: L) st M = gv d r (pc + 2) (u0 :: u1 :: u2 :: u3 :: some (.ref x) :: L) (.ref x :: st) M := gv_s (one_p hf rfl rfl)
theorem k_aln4 {u0 u1 u2 u3 : Option Value} (hf : rFind (rTi r) pc = some (.aload 4, (ln, ab))) : gv d r pc (u0 :: u1 :: u2 :: u3 :: some .null :: L) st M = gv d r (pc + 2) (u0 :: u1 :: u2 :: u3 :: some .null :: L) (.null :: st) M := gv_s (one_p hf rfl rfl)
theorem k_ild4 {u0 u1 u2 u3 : Option Value} {x : Int32} (hf : rFind (rTi r) pc = some (.iload 4, (ln, ab))) : gv d r pc (u0 :: u1 :: u2 :: u3 :: some (.int x) :: L) st M = gv d r (pc + 2) (u0 :: u1 :: u2 :: u3 :: some (.int x) :: L) (.int x :: st) M := gv_s (one_p hf rfl rfl)
theorem k_ist4 {u0 u1 u2 u3 : Option Value} {u : Option Value} {x : Int32} (hf : rFind (rTi r) pc = some (.istore 4, (ln, ab))) : gv d r pc (u0 :: u1 :: u2 :: u3 :: u :: L) (.int x :: st) M = gv d r (pc + 2) (u0 :: u1 :: u2 :: u3 :: some (.int x) :: L) st M := gv_s (one_p hf rfl rfl)
theorem k_ast4 {u0 u1 u2 u3 : Option Value} {u : Option Value} {x : Nat} (hf : rFind (rTi r) pc = some (.astore 4, (ln, ab))) : gv d r pc (u0 :: u1 :: u2 :: u3 :: u :: L) (.ref x :: st) M = gv d r (pc + 2) (u0 :: u1 :: u2 :: u3 :: some (.ref x) :: L) st M := gv_s (one_p hf rfl rfl)
theorem k_asn4 {u0 u1 u2 u3 : Option Value} {u : Option Value} (hf : rFind (rTi r) pc = some (.astore 4, (ln, ab))) : gv d r pc (u0 :: u1 :: u2 :: u3 :: u :: L) (.null :: st) M = gv d r (pc + 2) (u0 :: u1 :: u2 :: u3 :: some .null :: L) st M := gv_s (one_p hf rfl rfl)
theorem k_inc4 {u0 u1 u2 u3 : Option Value} {x n : Int} (hf : rFind (rTi r) pc = some (.iinc 4 n, (ln, ab))) : gv d r pc (u0 :: u1 :: u2 :: u3 :: some (.int (iI x)) :: L) st M = gv d r (pc + 3) (u0 :: u1 :: u2 :: u3 :: some (.int (iI (x + n))) :: L) st M := gv_s (one_p hf rfl (by
  show some ((pc + 3, (u0 :: u1 :: u2 :: u3 :: some (.int (iI x + Int32.ofInt n)) :: L, (st, M))), (0, 0)) = _
  rw [show iI x + Int32.ofInt n = iI (x + n) from iI_add x n]))
theorem k_ald5 {u0 u1 u2 u3 u4 : Option Value} {x : Nat} (hf : rFind (rTi r) pc = some (.aload 5, (ln, ab))) : gv d r pc (u0 :: u1 :: u2 :: u3 :: u4 :: some (.ref x) :: L) st M = gv d r (pc + 2) (u0 :: u1 :: u2 :: u3 :: u4 :: some (.ref x) :: L) (.ref x :: st) M := gv_s (one_p hf rfl rfl)
theorem k_aln5 {u0 u1 u2 u3 u4 : Option Value} (hf : rFind (rTi r) pc = some (.aload 5, (ln, ab))) : gv d r pc (u0 :: u1 :: u2 :: u3 :: u4 :: some .null :: L) st M = gv d r (pc + 2) (u0 :: u1 :: u2 :: u3 :: u4 :: some .null :: L) (.null :: st) M := gv_s (one_p hf rfl rfl)
theorem k_ild5 {u0 u1 u2 u3 u4 : Option Value} {x : Int32} (hf : rFind (rTi r) pc = some (.iload 5, (ln, ab))) : gv d r pc (u0 :: u1 :: u2 :: u3 :: u4 :: some (.int x) :: L) st M = gv d r (pc + 2) (u0 :: u1 :: u2 :: u3 :: u4 :: some (.int x) :: L) (.int x :: st) M := gv_s (one_p hf rfl rfl)
theorem k_ist5 {u0 u1 u2 u3 u4 : Option Value} {u : Option Value} {x : Int32} (hf : rFind (rTi r) pc = some (.istore 5, (ln, ab))) : gv d r pc (u0 :: u1 :: u2 :: u3 :: u4 :: u :: L) (.int x :: st) M = gv d r (pc + 2) (u0 :: u1 :: u2 :: u3 :: u4 :: some (.int x) :: L) st M := gv_s (one_p hf rfl rfl)
theorem k_ast5 {u0 u1 u2 u3 u4 : Option Value} {u : Option Value} {x : Nat} (hf : rFind (rTi r) pc = some (.astore 5, (ln, ab))) : gv d r pc (u0 :: u1 :: u2 :: u3 :: u4 :: u :: L) (.ref x :: st) M = gv d r (pc + 2) (u0 :: u1 :: u2 :: u3 :: u4 :: some (.ref x) :: L) st M := gv_s (one_p hf rfl rfl)
theorem k_asn5 {u0 u1 u2 u3 u4 : Option Value} {u : Option Value} (hf : rFind (rTi r) pc = some (.astore 5, (ln, ab))) : gv d r pc (u0 :: u1 :: u2 :: u3 :: u4 :: u :: L) (.null :: st) M = gv d r (pc + 2) (u0 :: u1 :: u2 :: u3 :: u4 :: some .null :: L) st M := gv_s (one_p hf rfl rfl)
theorem k_inc5 {u0 u1 u2 u3 u4 : Option Value} {x n : Int} (hf : rFind (rTi r) pc = some (.iinc 5 n, (ln, ab))) : gv d r pc (u0 :: u1 :: u2 :: u3 :: u4 :: some (.int (iI x)) :: L) st M = gv d r (pc + 3) (u0 :: u1 :: u2 :: u3 :: u4 :: some (.int (iI (x + n))) :: L) st M := gv_s (one_p hf rfl (by
  show some ((pc + 3, (u0 :: u1 :: u2 :: u3 :: u4 :: some (.int (iI x + Int32.ofInt n)) :: L, (st, M))), (0, 0)) = _
  rw [show iI x + Int32.ofInt n = iI (x + n) from iI_add x n]))
theorem k_ald6 {u0 u1 u2 u3 u4 u5 : Option Value} {x : Nat} (hf : rFind (rTi r) pc = some (.aload 6, (ln, ab))) : gv d r pc (u0 :: u1 :: u2 :: u3 :: u4 :: u5 :: some (.ref x) :: L) st M = gv d r (pc + 2) (u0 :: u1 :: u2 :: u3 :: u4 :: u5 :: some (.ref x) :: L) (.ref x :: st) M := gv_s (one_p hf rfl rfl)
theorem k_aln6 {u0 u1 u2 u3 u4 u5 : Option Value} (hf : rFind (rTi r) pc = some (.aload 6, (ln, ab))) : gv d r pc (u0 :: u1 :: u2 :: u3 :: u4 :: u5 :: some .null :: L) st M = gv d r (pc + 2) (u0 :: u1 :: u2 :: u3 :: u4 :: u5 :: some .null :: L) (.null :: st) M := gv_s (one_p hf rfl rfl)
theorem k_ild6 {u0 u1 u2 u3 u4 u5 : Option Value} {x : Int32} (hf : rFind (rTi r) pc = some (.iload 6, (ln, ab))) : gv d r pc (u0 :: u1 :: u2 :: u3 :: u4 :: u5 :: some (.int x) :: L) st M = gv d r (pc + 2) (u0 :: u1 :: u2 :: u3 :: u4 :: u5 :: some (.int x) :: L) (.int x :: st) M := gv_s (one_p hf rfl rfl)
theorem k_ist6 {u0 u1 u2 u3 u4 u5 : Option Value} {u : Option Value} {x : Int32} (hf : rFind (rTi r) pc = some (.istore 6, (ln, ab))) : gv d r pc (u0 :: u1 :: u2 :: u3 :: u4 :: u5 :: u :: L) (.int x :: st) M = gv d r (pc + 2) (u0 :: u1 :: u2 :: u3 :: u4 :: u5 :: some (.int x) :: L) st M := gv_s (one_p hf rfl rfl)
theorem k_ast6 {u0 u1 u2 u3 u4 u5 : Option Value} {u : Option Value} {x : Nat} (hf : rFind (rTi r) pc = some (.astore 6, (ln, ab))) : gv d r pc (u0 :: u1 :: u2 :: u3 :: u4 :: u5 :: u :: L) (.ref x :: st) M = gv d r (pc + 2) (u0 :: u1 :: u2 :: u3 :: u4 :: u5 :: some (.ref x) :: L) st M := gv_s (one_p hf rfl rfl)
theorem k_asn6 {u0 u1 u2 u3 u4 u5 : Option Value} {u : Option Value} (hf : rFind (rTi r) pc = some (.astore 6, (ln, ab))) : gv d r pc (u0 :: u1 :: u2 :: u3 :: u4 :: u5 :: u :: L) (.null :: st) M = gv d r (pc + 2) (u0 :: u1 :: u2 :: u3 :: u4 :: u5 :: some .null :: L) st M := gv_s (one_p hf rfl rfl)
theorem k_inc6 {u0 u1 u2 u3 u4 u5 : Option Value} {x n : Int} (hf : rFind (rTi r) pc = some (.iinc 6 n, (ln, ab))) : gv d r pc (u0 :: u1 :: u2 :: u3 :: u4 :: u5 :: some (.int (iI x)) :: L) st M = gv d r (pc + 3) (u0 :: u1 :: u2 :: u3 :: u4 :: u5 :: some (.int (iI (x + n))) :: L) st M := gv_s (one_p hf rfl (by
  show some ((pc + 3, (u0 :: u1 :: u2 :: u3 :: u4 :: u5 :: some (.int (iI x + Int32.ofInt n)) :: L, (st, M))), (0, 0)) = _
  rw [show iI x + Int32.ofInt n = iI (x + n) from iI_add x n]))
theorem k_ald7 {u0 u1 u2 u3 u4 u5 u6 : Option Value} {x : Nat} (hf : rFind (rTi r) pc = some (.aload 7, (ln, ab))) : gv d r pc (u0 :: u1 :: u2 :: u3 :: u4 :: u5 :: u6 :: some (.ref x) :: L) st M = gv d r (pc + 2) (u0 :: u1 :: u2 :: u3 :: u4 :: u5 :: u6 :: some (.ref x) :: L) (.ref x :: st) M := gv_s (one_p hf rfl rfl)
theorem k_aln7 {u0 u1 u2 u3 u4 u5 u6 : Option Value} (hf : rFind (rTi r) pc = some (.aload 7, (ln, ab))) : gv d r pc (u0 :: u1 :: u2 :: u3 :: u4 :: u5 :: u6 :: some .null :: L) st M = gv d r (pc + 2) (u0 :: u1 :: u2 :: u3 :: u4 :: u5 :: u6 :: some .null :: L) (.null :: st) M := gv_s (one_p hf rfl rfl)
theorem k_ild7 {u0 u1 u2 u3 u4 u5 u6 : Option Value} {x : Int32} (hf : rFind (rTi r) pc = some (.iload 7, (ln, ab))) : gv d r pc (u0 :: u1 :: u2 :: u3 :: u4 :: u5 :: u6 :: some (.int x) :: L) st M = gv d r (pc + 2) (u0 :: u1 :: u2 :: u3 :: u4 :: u5 :: u6 :: some (.int x) :: L) (.int x :: st) M := gv_s (one_p hf rfl rfl)
theorem k_ist7 {u0 u1 u2 u3 u4 u5 u6 : Option Value} {u : Option Value} {x : Int32} (hf : rFind (rTi r) pc = some (.istore 7, (ln, ab))) : gv d r pc (u0 :: u1 :: u2 :: u3 :: u4 :: u5 :: u6 :: u :: L) (.int x :: st) M = gv d r (pc + 2) (u0 :: u1 :: u2 :: u3 :: u4 :: u5 :: u6 :: some (.int x) :: L) st M := gv_s (one_p hf rfl rfl)
theorem k_ast7 {u0 u1 u2 u3 u4 u5 u6 : Option Value} {u : Option Value} {x : Nat} (hf : rFind (rTi r) pc = some (.astore 7, (ln, ab))) : gv d r pc (u0 :: u1 :: u2 :: u3 :: u4 :: u5 :: u6 :: u :: L) (.ref x :: st) M = gv d r (pc + 2) (u0 :: u1 :: u2 :: u3 :: u4 :: u5 :: u6 :: some (.ref x) :: L) st M := gv_s (one_p hf rfl rfl)
theorem k_asn7 {u0 u1 u2 u3 u4 u5 u6 : Option Value} {u : Option Value} (hf : rFind (rTi r) pc = some (.astore 7, (ln, ab))) : gv d r pc (u0 :: u1 :: u2 :: u3 :: u4 :: u5 :: u6 :: u :: L) (.null :: st) M = gv d r (pc + 2) (u0 :: u1 :: u2 :: u3 :: u4 :: u5 :: u6 :: some .null :: L) st M := gv_s (one_p hf rfl rfl)
theorem k_inc7 {u0 u1 u2 u3 u4 u5 u6 : Option Value} {x n : Int} (hf : rFind (rTi r) pc = some (.iinc 7 n, (ln, ab))) : gv d r pc (u0 :: u1 :: u2 :: u3 :: u4 :: u5 :: u6 :: some (.int (iI x)) :: L) st M = gv d r (pc + 3) (u0 :: u1 :: u2 :: u3 :: u4 :: u5 :: u6 :: some (.int (iI (x + n))) :: L) st M := gv_s (one_p hf rfl (by
  show some ((pc + 3, (u0 :: u1 :: u2 :: u3 :: u4 :: u5 :: u6 :: some (.int (iI x + Int32.ofInt n)) :: L, (st, M))), (0, 0)) = _
  rw [show iI x + Int32.ofInt n = iI (x + n) from iI_add x n]))
theorem k_ald8 {u0 u1 u2 u3 u4 u5 u6 u7 : Option Value} {x : Nat} (hf : rFind (rTi r) pc = some (.aload 8, (ln, ab))) : gv d r pc (u0 :: u1 :: u2 :: u3 :: u4 :: u5 :: u6 :: u7 :: some (.ref x) :: L) st M = gv d r (pc + 2) (u0 :: u1 :: u2 :: u3 :: u4 :: u5 :: u6 :: u7 :: some (.ref x) :: L) (.ref x :: st) M := gv_s (one_p hf rfl rfl)
theorem k_aln8 {u0 u1 u2 u3 u4 u5 u6 u7 : Option Value} (hf : rFind (rTi r) pc = some (.aload 8, (ln, ab))) : gv d r pc (u0 :: u1 :: u2 :: u3 :: u4 :: u5 :: u6 :: u7 :: some .null :: L) st M = gv d r (pc + 2) (u0 :: u1 :: u2 :: u3 :: u4 :: u5 :: u6 :: u7 :: some .null :: L) (.null :: st) M := gv_s (one_p hf rfl rfl)
theorem k_ild8 {u0 u1 u2 u3 u4 u5 u6 u7 : Option Value} {x : Int32} (hf : rFind (rTi r) pc = some (.iload 8, (ln, ab))) : gv d r pc (u0 :: u1 :: u2 :: u3 :: u4 :: u5 :: u6 :: u7 :: some (.int x) :: L) st M = gv d r (pc + 2) (u0 :: u1 :: u2 :: u3 :: u4 :: u5 :: u6 :: u7 :: some (.int x) :: L) (.int x :: st) M := gv_s (one_p hf rfl rfl)
theorem k_ist8 {u0 u1 u2 u3 u4 u5 u6 u7 : Option Value} {u : Option Value} {x : Int32} (hf : rFind (rTi r) pc = some (.istore 8, (ln, ab))) : gv d r pc (u0 :: u1 :: u2 :: u3 :: u4 :: u5 :: u6 :: u7 :: u :: L) (.int x :: st) M = gv d r (pc + 2) (u0 :: u1 :: u2 :: u3 :: u4 :: u5 :: u6 :: u7 :: some (.int x) :: L) st M := gv_s (one_p hf rfl rfl)
theorem k_ast8 {u0 u1 u2 u3 u4 u5 u6 u7 : Option Value} {u : Option Value} {x : Nat} (hf : rFind (rTi r) pc = some (.astore 8, (ln, ab))) : gv d r pc (u0 :: u1 :: u2 :: u3 :: u4 :: u5 :: u6 :: u7 :: u :: L) (.ref x :: st) M = gv d r (pc + 2) (u0 :: u1 :: u2 :: u3 :: u4 :: u5 :: u6 :: u7 :: some (.ref x) :: L) st M := gv_s (one_p hf rfl rfl)
theorem k_asn8 {u0 u1 u2 u3 u4 u5 u6 u7 : Option Value} {u : Option Value} (hf : rFind (rTi r) pc = some (.astore 8, (ln, ab))) : gv d r pc (u0 :: u1 :: u2 :: u3 :: u4 :: u5 :: u6 :: u7 :: u :: L) (.null :: st) M = gv d r (pc + 2) (u0 :: u1 :: u2 :: u3 :: u4 :: u5 :: u6 :: u7 :: some .null :: L) st M := gv_s (one_p hf rfl rfl)
theorem k_inc8 {u0 u1 u2 u3 u4 u5 u6 u7 : Option Value} {x n : Int} (hf : rFind (rTi r) pc = some (.iinc 8 n, (ln, ab))) : gv d r pc (u0 :: u1 :: u2 :: u3 :: u4 :: u5 :: u6 :: u7 :: some (.int (iI x)) :: L) st M = gv d r (pc + 3) (u0 :: u1 :: u2 :: u3 :: u4 :: u5 :: u6 :: u7 :: some (.int (iI (x + n))) :: L) st M := gv_s (one_p hf rfl (by
  show some ((pc + 3, (u0 :: u1 :: u2 :: u3 :: u4 :: u5 :: u6 :: u7 :: some (.int (iI x + Int32.ofInt n)) :: L, (st, M))), (0, 0)) = _
  rw [show iI x + Int32.ofInt n = iI (x + n) from iI_add x n]))
theorem k_ald9 {u0 u1 u2 u3 u4 u5 u6 u7 u8 : Option Value} {x : Nat} (hf : rFind (rTi r) pc = some (.aload 9, (ln, ab))) : gv d r pc (u0 :: u1 :: u2 :: u3 :: u4 :: u5 :: u6 :: u7 :: u8 :: some (.ref x) :: L) st M = gv d r (pc + 2) (u0 :: u1 :: u2 :: u3 :: u4 :: u5 :: u6 :: u7 :: u8 :: some (.ref x) :: L) (.ref x :: st) M := gv_s (one_p hf rfl rfl)
theorem k_aln9 {u0 u1 u2 u3 u4 u5 u6 u7 u8 : Option Value} (hf : rFind (rTi r) pc = some (.aload 9, (ln, ab))) : gv d r pc (u0 :: u1 :: u2 :: u3 :: u4 :: u5 :: u6 :: u7 :: u8 :: some .null :: L) st M = gv d r (pc + 2) (u0 :: u1 :: u2 :: u3 :: u4 :: u5 :: u6 :: u7 :: u8 :: some .null :: L) (.null :: st) M := gv_s (one_p hf rfl rfl)
theorem k_ild9 {u0 u1 u2 u3 u4 u5 u6 u7 u8 : Option Value} {x : Int32} (hf : rFind (rTi r) pc = some (.iload 9, (ln, ab))) : gv d r pc (u0 :: u1 :: u2 :: u3 :: u4 :: u5 :: u6 :: u7 :: u8 :: some (.int x) :: L) st M = gv d r (pc + 2) (u0 :: u1 :: u2 :: u3 :: u4 :: u5 :: u6 :: u7 :: u8 :: some (.int x) :: L) (.int x :: st) M := gv_s (one_p hf rfl rfl)
theorem k_ist9 {u0 u1 u2 u3 u4 u5 u6 u7 u8 : Option Value} {u : Option Value} {x : Int32} (hf : rFind (rTi r) pc = some (.istore 9, (ln, ab))) : gv d r pc (u0 :: u1 :: u2 :: u3 :: u4 :: u5 :: u6 :: u7 :: u8 :: u :: L) (.int x :: st) M = gv d r (pc + 2) (u0 :: u1 :: u2 :: u3 :: u4 :: u5 :: u6 :: u7 :: u8 :: some (.int x) :: L) st M := gv_s (one_p hf rfl rfl)
theorem k_ast9 {u0 u1 u2 u3 u4 u5 u6 u7 u8 : Option Value} {u : Option Value} {x : Nat} (hf : rFind (rTi r) pc = some (.astore 9, (ln, ab))) : gv d r pc (u0 :: u1 :: u2 :: u3 :: u4 :: u5 :: u6 :: u7 :: u8 :: u :: L) (.ref x :: st) M = gv d r (pc + 2) (u0 :: u1 :: u2 :: u3 :: u4 :: u5 :: u6 :: u7 :: u8 :: some (.ref x) :: L) st M := gv_s (one_p hf rfl rfl)
theorem k_asn9 {u0 u1 u2 u3 u4 u5 u6 u7 u8 : Option Value} {u : Option Value} (hf : rFind (rTi r) pc = some (.astore 9, (ln, ab))) : gv d r pc (u0 :: u1 :: u2 :: u3 :: u4 :: u5 :: u6 :: u7 :: u8 :: u :: L) (.null :: st) M = gv d r (pc + 2) (u0 :: u1 :: u2 :: u3 :: u4 :: u5 :: u6 :: u7 :: u8 :: some .null :: L) st M := gv_s (one_p hf rfl rfl)
theorem k_inc9 {u0 u1 u2 u3 u4 u5 u6 u7 u8 : Option Value} {x n : Int} (hf : rFind (rTi r) pc = some (.iinc 9 n, (ln, ab))) : gv d r pc (u0 :: u1 :: u2 :: u3 :: u4 :: u5 :: u6 :: u7 :: u8 :: some (.int (iI x)) :: L) st M = gv d r (pc + 3) (u0 :: u1 :: u2 :: u3 :: u4 :: u5 :: u6 :: u7 :: u8 :: some (.int (iI (x + n))) :: L) st M := gv_s (one_p hf rfl (by
  show some ((pc + 3, (u0 :: u1 :: u2 :: u3 :: u4 :: u5 :: u6 :: u7 :: u8 :: some (.int (iI x + Int32.ofInt n)) :: L, (st, M))), (0, 0)) = _
  rw [show iI x + Int32.ofInt n = iI (x + n) from iI_add x n]))
theorem k_ald10 {u0 u1 u2 u3 u4 u5 u6 u7 u8 u9 : Option Value} {x : Nat} (hf : rFind (rTi r) pc = some (.aload 10, (ln, ab))) : gv d r pc (u0 :: u1 :: u2 :: u3 :: u4 :: u5 :: u6 :: u7 :: u8 :: u9 :: some (.ref x) :: L) st M = gv d r (pc + 2) (u0 :: u1 :: u2 :: u3 :: u4 :: u5 :: u6 :: u7 :: u8 :: u9 :: some (.ref x) :: L) (.ref x :: st) M := gv_s (one_p hf rfl rfl)
theorem k_aln10 {u0 u1 u2 u3 u4 u5 u6 u7 u8 u9 : Option Value} (hf : rFind (rTi r) pc = some (.aload 10, (ln, ab))) : gv d r pc (u0 :: u1 :: u2 :: u3 :: u4 :: u5 :: u6 :: u7 :: u8 :: u9 :: some .null :: L) st M = gv d r (pc + 2) (u0 :: u1 :: u2 :: u3 :: u4 :: u5 :: u6 :: u7 :: u8 :: u9 :: some .null :: L) (.null :: st) M := gv_s (one_p hf rfl rfl)
theorem k_ild10 {u0 u1 u2 u3 u4 u5 u6 u7 u8 u9 : Option Value} {x : Int32} (hf : rFind (rTi r) pc = some (.iload 10, (ln, ab))) : gv d r pc (u0 :: u1 :: u2 :: u3 :: u4 :: u5 :: u6 :: u7 :: u8 :: u9 :: some (.int x) :: L) st M = gv d r (pc + 2) (u0 :: u1 :: u2 :: u3 :: u4 :: u5 :: u6 :: u7 :: u8 :: u9 :: some (.int x) :: L) (.int x :: st) M := gv_s (one_p hf rfl rfl)
theorem k_ist10 {u0 u1 u2 u3 u4 u5 u6 u7 u8 u9 : Option Value} {u : Option Value} {x : Int32} (hf : rFind (rTi r) pc = some (.istore 10, (ln, ab))) : gv d r pc (u0 :: u1 :: u2 :: u3 :: u4 :: u5 :: u6 :: u7 :: u8 :: u9 :: u :: L) (.int x :: st) M = gv d r (pc + 2) (u0 :: u1 :: u2 :: u3 :: u4 :: u5 :: u6 :: u7 :: u8 :: u9 :: some (.int x) :: L) st M := gv_s (one_p hf rfl rfl)
theorem k_ast10 {u0 u1 u2 u3 u4 u5 u6 u7 u8 u9 : Option Value} {u : Option Value} {x : Nat} (hf : rFind (rTi r) pc = some (.astore 10, (ln, ab))) : gv d r pc (u0 :: u1 :: u2 :: u3 :: u4 :: u5 :: u6 :: u7 :: u8 :: u9 :: u :: L) (.ref x :: st) M = gv d r (pc + 2) (u0 :: u1 :: u2 :: u3 :: u4 :: u5 :: u6 :: u7 :: u8 :: u9 :: some (.ref x) :: L) st M := gv_s (one_p hf rfl rfl)
theorem k_asn10 {u0 u1 u2 u3 u4 u5 u6 u7 u8 u9 : Option Value} {u : Option Value} (hf : rFind (rTi r) pc = some (.astore 10, (ln, ab))) : gv d r pc (u0 :: u1 :: u2 :: u3 :: u4 :: u5 :: u6 :: u7 :: u8 :: u9 :: u :: L) (.null :: st) M = gv d r (pc + 2) (u0 :: u1 :: u2 :: u3 :: u4 :: u5 :: u6 :: u7 :: u8 :: u9 :: some .null :: L) st M := gv_s (one_p hf rfl rfl)
theorem k_inc10 {u0 u1 u2 u3 u4 u5 u6 u7 u8 u9 : Option Value} {x n : Int} (hf : rFind (rTi r) pc = some (.iinc 10 n, (ln, ab))) : gv d r pc (u0 :: u1 :: u2 :: u3 :: u4 :: u5 :: u6 :: u7 :: u8 :: u9 :: some (.int (iI x)) :: L) st M = gv d r (pc + 3) (u0 :: u1 :: u2 :: u3 :: u4 :: u5 :: u6 :: u7 :: u8 :: u9 :: some (.int (iI (x + n))) :: L) st M := gv_s (one_p hf rfl (by
  show some ((pc + 3, (u0 :: u1 :: u2 :: u3 :: u4 :: u5 :: u6 :: u7 :: u8 :: u9 :: some (.int (iI x + Int32.ofInt n)) :: L, (st, M))), (0, 0)) = _
  rw [show iI x + Int32.ofInt n = iI (x + n) from iI_add x n]))
theorem k_ald11 {u0 u1 u2 u3 u4 u5 u6 u7 u8 u9 u10 : Option Value} {x : Nat} (hf : rFind (rTi r) pc = some (.aload 11, (ln, ab))) : gv d r pc (u0 :: u1 :: u2 :: u3 :: u4 :: u5 :: u6 :: u7 :: u8 :: u9 :: u10 :: some (.ref x) :: L) st M = gv d r (pc + 2) (u0 :: u1 :: u2 :: u3 :: u4 :: u5 :: u6 :: u7 :: u8 :: u9 :: u10 :: some (.ref x) :: L) (.ref x :: st) M := gv_s (one_p hf rfl rfl)
theorem k_aln11 {u0 u1 u2 u3 u4 u5 u6 u7 u8 u9 u10 : Option Value} (hf : rFind (rTi r) pc = some (.aload 11, (ln, ab))) : gv d r pc (u0 :: u1 :: u2 :: u3 :: u4 :: u5 :: u6 :: u7 :: u8 :: u9 :: u10 :: some .null :: L) st M = gv d r (pc + 2) (u0 :: u1 :: u2 :: u3 :: u4 :: u5 :: u6 :: u7 :: u8 :: u9 :: u10 :: some .null :: L) (.null :: st) M := gv_s (one_p hf rfl rfl)
theorem k_ild11 {u0 u1 u2 u3 u4 u5 u6 u7 u8 u9 u10 : Option Value} {x : Int32} (hf : rFind (rTi r) pc = some (.iload 11, (ln, ab))) : gv d r pc (u0 :: u1 :: u2 :: u3 :: u4 :: u5 :: u6 :: u7 :: u8 :: u9 :: u10 :: some (.int x) :: L) st M = gv d r (pc + 2) (u0 :: u1 :: u2 :: u3 :: u4 :: u5 :: u6 :: u7 :: u8 :: u9 :: u10 :: some (.int x) :: L) (.int x :: st) M := gv_s (one_p hf rfl rfl)
theorem k_ist11 {u0 u1 u2 u3 u4 u5 u6 u7 u8 u9 u10 : Option Value} {u : Option Value} {x : Int32} (hf : rFind (rTi r) pc = some (.istore 11, (ln, ab))) : gv d r pc (u0 :: u1 :: u2 :: u3 :: u4 :: u5 :: u6 :: u7 :: u8 :: u9 :: u10 :: u :: L) (.int x :: st) M = gv d r (pc + 2) (u0 :: u1 :: u2 :: u3 :: u4 :: u5 :: u6 :: u7 :: u8 :: u9 :: u10 :: some (.int x) :: L) st M := gv_s (one_p hf rfl rfl)
theorem k_ast11 {u0 u1 u2 u3 u4 u5 u6 u7 u8 u9 u10 : Option Value} {u : Option Value} {x : Nat} (hf : rFind (rTi r) pc = some (.astore 11, (ln, ab))) : gv d r pc (u0 :: u1 :: u2 :: u3 :: u4 :: u5 :: u6 :: u7 :: u8 :: u9 :: u10 :: u :: L) (.ref x :: st) M = gv d r (pc + 2) (u0 :: u1 :: u2 :: u3 :: u4 :: u5 :: u6 :: u7 :: u8 :: u9 :: u10 :: some (.ref x) :: L) st M := gv_s (one_p hf rfl rfl)
theorem k_asn11 {u0 u1 u2 u3 u4 u5 u6 u7 u8 u9 u10 : Option Value} {u : Option Value} (hf : rFind (rTi r) pc = some (.astore 11, (ln, ab))) : gv d r pc (u0 :: u1 :: u2 :: u3 :: u4 :: u5 :: u6 :: u7 :: u8 :: u9 :: u10 :: u :: L) (.null :: st) M = gv d r (pc + 2) (u0 :: u1 :: u2 :: u3 :: u4 :: u5 :: u6 :: u7 :: u8 :: u9 :: u10 :: some .null :: L) st M := gv_s (one_p hf rfl rfl)
theorem k_inc11 {u0 u1 u2 u3 u4 u5 u6 u7 u8 u9 u10 : Option Value} {x n : Int} (hf : rFind (rTi r) pc = some (.iinc 11 n, (ln, ab))) : gv d r pc (u0 :: u1 :: u2 :: u3 :: u4 :: u5 :: u6 :: u7 :: u8 :: u9 :: u10 :: some (.int (iI x)) :: L) st M = gv d r (pc + 3) (u0 :: u1 :: u2 :: u3 :: u4 :: u5 :: u6 :: u7 :: u8 :: u9 :: u10 :: some (.int (iI (x + n))) :: L) st M := gv_s (one_p hf rfl (by
  show some ((pc + 3, (u0 :: u1 :: u2 :: u3 :: u4 :: u5 :: u6 :: u7 :: u8 :: u9 :: u10 :: some (.int (iI x + Int32.ofInt n)) :: L, (st, M))), (0, 0)) = _
  rw [show iI x + Int32.ofInt n = iI (x + n) from iI_add x n]))
theorem k_ald12 {u0 u1 u2 u3 u4 u5 u6 u7 u8 u9 u10 u11 : Option Value} {x : Nat} (hf : rFind (rTi r) pc = some (.aload 12, (ln, ab))) : gv d r pc (u0 :: u1 :: u2 :: u3 :: u4 :: u5 :: u6 :: u7 :: u8 :: u9 :: u10 :: u11 :: some (.ref x) :: L) st M = gv d r (pc + 2) (u0 :: u1 :: u2 :: u3 :: u4 :: u5 :: u6 :: u7 :: u8 :: u9 :: u10 :: u11 :: some (.ref x) :: L) (.ref x :: st) M := gv_s (one_p hf rfl rfl)
theorem k_aln12 {u0 u1 u2 u3 u4 u5 u6 u7 u8 u9 u10 u11 : Option Value} (hf : rFind (rTi r) pc = some (.aload 12, (ln, ab))) : gv d r pc (u0 :: u1 :: u2 :: u3 :: u4 :: u5 :: u6 :: u7 :: u8 :: u9 :: u10 :: u11 :: some .null :: L) st M = gv d r (pc + 2) (u0 :: u1 :: u2 :: u3 :: u4 :: u5 :: u6 :: u7 :: u8 :: u9 :: u10 :: u11 :: some .null :: L) (.null :: st) M := gv_s (one_p hf rfl rfl)
theorem k_ild12 {u0 u1 u2 u3 u4 u5 u6 u7 u8 u9 u10 u11 : Option Value} {x : Int32} (hf : rFind (rTi r) pc = some (.iload 12, (ln, ab))) : gv d r pc (u0 :: u1 :: u2 :: u3 :: u4 :: u5 :: u6 :: u7 :: u8 :: u9 :: u10 :: u11 :: some (.int x) :: L) st M = gv d r (pc + 2) (u0 :: u1 :: u2 :: u3 :: u4 :: u5 :: u6 :: u7 :: u8 :: u9 :: u10 :: u11 :: some (.int x) :: L) (.int x :: st) M := gv_s (one_p hf rfl rfl)
theorem k_ist12 {u0 u1 u2 u3 u4 u5 u6 u7 u8 u9 u10 u11 : Option Value} {u : Option Value} {x : Int32} (hf : rFind (rTi r) pc = some (.istore 12, (ln, ab))) : gv d r pc (u0 :: u1 :: u2 :: u3 :: u4 :: u5 :: u6 :: u7 :: u8 :: u9 :: u10 :: u11 :: u :: L) (.int x :: st) M = gv d r (pc + 2) (u0 :: u1 :: u2 :: u3 :: u4 :: u5 :: u6 :: u7 :: u8 :: u9 :: u10 :: u11 :: some (.int x) :: L) st M := gv_s (one_p hf rfl rfl)
theorem k_ast12 {u0 u1 u2 u3 u4 u5 u6 u7 u8 u9 u10 u11 : Option Value} {u : Option Value} {x : Nat} (hf : rFind (rTi r) pc = some (.astore 12, (ln, ab))) : gv d r pc (u0 :: u1 :: u2 :: u3 :: u4 :: u5 :: u6 :: u7 :: u8 :: u9 :: u10 :: u11 :: u :: L) (.ref x :: st) M = gv d r (pc + 2) (u0 :: u1 :: u2 :: u3 :: u4 :: u5 :: u6 :: u7 :: u8 :: u9 :: u10 :: u11 :: some (.ref x) :: L) st M := gv_s (one_p hf rfl rfl)
theorem k_asn12 {u0 u1 u2 u3 u4 u5 u6 u7 u8 u9 u10 u11 : Option Value} {u : Option Value} (hf : rFind (rTi r) pc = some (.astore 12, (ln, ab))) : gv d r pc (u0 :: u1 :: u2 :: u3 :: u4 :: u5 :: u6 :: u7 :: u8 :: u9 :: u10 :: u11 :: u :: L) (.null :: st) M = gv d r (pc + 2) (u0 :: u1 :: u2 :: u3 :: u4 :: u5 :: u6 :: u7 :: u8 :: u9 :: u10 :: u11 :: some .null :: L) st M := gv_s (one_p hf rfl rfl)
theorem k_inc12 {u0 u1 u2 u3 u4 u5 u6 u7 u8 u9 u10 u11 : Option Value} {x n : Int} (hf : rFind (rTi r) pc = some (.iinc 12 n, (ln, ab))) : gv d r pc (u0 :: u1 :: u2 :: u3 :: u4 :: u5 :: u6 :: u7 :: u8 :: u9 :: u10 :: u11 :: some (.int (iI x)) :: L) st M = gv d r (pc + 3) (u0 :: u1 :: u2 :: u3 :: u4 :: u5 :: u6 :: u7 :: u8 :: u9 :: u10 :: u11 :: some (.int (iI (x + n))) :: L) st M := gv_s (one_p hf rfl (by
  show some ((pc + 3, (u0 :: u1 :: u2 :: u3 :: u4 :: u5 :: u6 :: u7 :: u8 :: u9 :: u10 :: u11 :: some (.int (iI x + Int32.ofInt n)) :: L, (st, M))), (0, 0)) = _
  rw [show iI x + Int32.ofInt n = iI (x + n) from iI_add x n]))
theorem k_ald13 {u0 u1 u2 u3 u4 u5 u6 u7 u8 u9 u10 u11 u12 : Option Value} {x : Nat} (hf : rFind (rTi r) pc = some (.aload 13, (ln, ab))) : gv d r pc (u0 :: u1 :: u2 :: u3 :: u4 :: u5 :: u6 :: u7 :: u8 :: u9 :: u10 :: u11 :: u12 :: some (.ref x) :: L) st M = gv d r (pc + 2) (u0 :: u1 :: u2 :: u3 :: u4 :: u5 :: u6 :: u7 :: u8 :: u9 :: u10 :: u11 :: u12 :: some (.ref x) :: L) (.ref x :: st) M := gv_s (one_p hf rfl rfl)
theorem k_aln13 {u0 u1 u2 u3 u4 u5 u6 u7 u8 u9 u10 u11 u12 : Option Value} (hf : rFind (rTi r) pc = some (.aload 13, (ln, ab))) : gv d r pc (u0 :: u1 :: u2 :: u3 :: u4 :: u5 :: u6 :: u7 :: u8 :: u9 :: u10 :: u11 :: u12 :: some .null :: L) st M = gv d r (pc + 2) (u0 :: u1 :: u2 :: u3 :: u4 :: u5 :: u6 :: u7 :: u8 :: u9 :: u10 :: u11 :: u12 :: some .null :: L) (.null :: st) M := gv_s (one_p hf rfl rfl)
theorem k_ild13 {u0 u1 u2 u3 u4 u5 u6 u7 u8 u9 u10 u11 u12 : Option Value} {x : Int32} (hf : rFind (rTi r) pc = some (.iload 13, (ln, ab))) : gv d r pc (u0 :: u1 :: u2 :: u3 :: u4 :: u5 :: u6 :: u7 :: u8 :: u9 :: u10 :: u11 :: u12 :: some (.int x) :: L) st M = gv d r (pc + 2) (u0 :: u1 :: u2 :: u3 :: u4 :: u5 :: u6 :: u7 :: u8 :: u9 :: u10 :: u11 :: u12 :: some (.int x) :: L) (.int x :: st) M := gv_s (one_p hf rfl rfl)
theorem k_ist13 {u0 u1 u2 u3 u4 u5 u6 u7 u8 u9 u10 u11 u12 : Option Value} {u : Option Value} {x : Int32} (hf : rFind (rTi r) pc = some (.istore 13, (ln, ab))) : gv d r pc (u0 :: u1 :: u2 :: u3 :: u4 :: u5 :: u6 :: u7 :: u8 :: u9 :: u10 :: u11 :: u12 :: u :: L) (.int x :: st) M = gv d r (pc + 2) (u0 :: u1 :: u2 :: u3 :: u4 :: u5 :: u6 :: u7 :: u8 :: u9 :: u10 :: u11 :: u12 :: some (.int x) :: L) st M := gv_s (one_p hf rfl rfl)
theorem k_ast13 {u0 u1 u2 u3 u4 u5 u6 u7 u8 u9 u10 u11 u12 : Option Value} {u : Option Value} {x : Nat} (hf : rFind (rTi r) pc = some (.astore 13, (ln, ab))) : gv d r pc (u0 :: u1 :: u2 :: u3 :: u4 :: u5 :: u6 :: u7 :: u8 :: u9 :: u10 :: u11 :: u12 :: u :: L) (.ref x :: st) M = gv d r (pc + 2) (u0 :: u1 :: u2 :: u3 :: u4 :: u5 :: u6 :: u7 :: u8 :: u9 :: u10 :: u11 :: u12 :: some (.ref x) :: L) st M := gv_s (one_p hf rfl rfl)
theorem k_asn13 {u0 u1 u2 u3 u4 u5 u6 u7 u8 u9 u10 u11 u12 : Option Value} {u : Option Value} (hf : rFind (rTi r) pc = some (.astore 13, (ln, ab))) : gv d r pc (u0 :: u1 :: u2 :: u3 :: u4 :: u5 :: u6 :: u7 :: u8 :: u9 :: u10 :: u11 :: u12 :: u :: L) (.null :: st) M = gv d r (pc + 2) (u0 :: u1 :: u2 :: u3 :: u4 :: u5 :: u6 :: u7 :: u8 :: u9 :: u10 :: u11 :: u12 :: some .null :: L) st M := gv_s (one_p hf rfl rfl)
theorem k_inc13 {u0 u1 u2 u3 u4 u5 u6 u7 u8 u9 u10 u11 u12 : Option Value} {x n : Int} (hf : rFind (rTi r) pc = some (.iinc 13 n, (ln, ab))) : gv d r pc (u0 :: u1 :: u2 :: u3 :: u4 :: u5 :: u6 :: u7 :: u8 :: u9 :: u10 :: u11 :: u12 :: some (.int (iI x)) :: L) st M = gv d r (pc + 3) (u0 :: u1 :: u2 :: u3 :: u4 :: u5 :: u6 :: u7 :: u8 :: u9 :: u10 :: u11 :: u12 :: some (.int (iI (x + n))) :: L) st M := gv_s (one_p hf rfl (by
  show some ((pc + 3, (u0 :: u1 :: u2 :: u3 :: u4 :: u5 :: u6 :: u7 :: u8 :: u9 :: u10 :: u11 :: u12 :: some (.int (iI x + Int32.ofInt n)) :: L, (st, M))), (0, 0)) = _
  rw [show iI x + Int32.ofInt n = iI (x + n) from iI_add x n]))
theorem k_ald14 {u0 u1 u2 u3 u4 u5 u6 u7 u8 u9 u10 u11 u12 u13 : Option Value} {x : Nat} (hf : rFind (rTi r) pc = some (.aload 14, (ln, ab))) : gv d r pc (u0 :: u1 :: u2 :: u3 :: u4 :: u5 :: u6 :: u7 :: u8 :: u9 :: u10 :: u11 :: u12 :: u13 :: some (.ref x) :: L) st M = gv d r (pc + 2) (u0 :: u1 :: u2 :: u3 :: u4 :: u5 :: u6 :: u7 :: u8 :: u9 :: u10 :: u11 :: u12 :: u13 :: some (.ref x) :: L) (.ref x :: st) M := gv_s (one_p hf rfl rfl)
theorem k_aln14 {u0 u1 u2 u3 u4 u5 u6 u7 u8 u9 u10 u11 u12 u13 : Option Value} (hf : rFind (rTi r) pc = some (.aload 14, (ln, ab))) : gv d r pc (u0 :: u1 :: u2 :: u3 :: u4 :: u5 :: u6 :: u7 :: u8 :: u9 :: u10 :: u11 :: u12 :: u13 :: some .null :: L) st M = gv d r (pc + 2) (u0 :: u1 :: u2 :: u3 :: u4 :: u5 :: u6 :: u7 :: u8 :: u9 :: u10 :: u11 :: u12 :: u13 :: some .null :: L) (.null :: st) M := gv_s (one_p hf rfl rfl)
theorem k_ild14 {u0 u1 u2 u3 u4 u5 u6 u7 u8 u9 u10 u11 u12 u13 : Option Value} {x : Int32} (hf : rFind (rTi r) pc = some (.iload 14, (ln, ab))) : gv d r pc (u0 :: u1 :: u2 :: u3 :: u4 :: u5 :: u6 :: u7 :: u8 :: u9 :: u10 :: u11 :: u12 :: u13 :: some (.int x) :: L) st M = gv d r (pc + 2) (u0 :: u1 :: u2 :: u3 :: u4 :: u5 :: u6 :: u7 :: u8 :: u9 :: u10 :: u11 :: u12 :: u13 :: some (.int x) :: L) (.int x :: st) M := gv_s (one_p hf rfl rfl)
theorem k_ist14 {u0 u1 u2 u3 u4 u5 u6 u7 u8 u9 u10 u11 u12 u13 : Option Value} {u : Option Value} {x : Int32} (hf : rFind (rTi r) pc = some (.istore 14, (ln, ab))) : gv d r pc (u0 :: u1 :: u2 :: u3 :: u4 :: u5 :: u6 :: u7 :: u8 :: u9 :: u10 :: u11 :: u12 :: u13 :: u :: L) (.int x :: st) M = gv d r (pc + 2) (u0 :: u1 :: u2 :: u3 :: u4 :: u5 :: u6 :: u7 :: u8 :: u9 :: u10 :: u11 :: u12 :: u13 :: some (.int x) :: L) st M := gv_s (one_p hf rfl rfl)
theorem k_ast14 {u0 u1 u2 u3 u4 u5 u6 u7 u8 u9 u10 u11 u12 u13 : Option Value} {u : Option Value} {x : Nat} (hf : rFind (rTi r) pc = some (.astore 14, (ln, ab))) : gv d r pc (u0 :: u1 :: u2 :: u3 :: u4 :: u5 :: u6 :: u7 :: u8 :: u9 :: u10 :: u11 :: u12 :: u13 :: u :: L) (.ref x :: st) M = gv d r (pc + 2) (u0 :: u1 :: u2 :: u3 :: u4 :: u5 :: u6 :: u7 :: u8 :: u9 :: u10 :: u11 :: u12 :: u13 :: some (.ref x) :: L) st M := gv_s (one_p hf rfl rfl)
theorem k_asn14 {u0 u1 u2 u3 u4 u5 u6 u7 u8 u9 u10 u11 u12 u13 : Option Value} {u : Option Value} (hf : rFind (rTi r) pc = some (.astore 14, (ln, ab))) : gv d r pc (u0 :: u1 :: u2 :: u3 :: u4 :: u5 :: u6 :: u7 :: u8 :: u9 :: u10 :: u11 :: u12 :: u13 :: u :: L) (.null :: st) M = gv d r (pc + 2) (u0 :: u1 :: u2 :: u3 :: u4 :: u5 :: u6 :: u7 :: u8 :: u9 :: u10 :: u11 :: u12 :: u13 :: some .null :: L) st M := gv_s (one_p hf rfl rfl)
theorem k_inc14 {u0 u1 u2 u3 u4 u5 u6 u7 u8 u9 u10 u11 u12 u13 : Option Value} {x n : Int} (hf : rFind (rTi r) pc = some (.iinc 14 n, (ln, ab))) : gv d r pc (u0 :: u1 :: u2 :: u3 :: u4 :: u5 :: u6 :: u7 :: u8 :: u9 :: u10 :: u11 :: u12 :: u13 :: some (.int (iI x)) :: L) st M = gv d r (pc + 3) (u0 :: u1 :: u2 :: u3 :: u4 :: u5 :: u6 :: u7 :: u8 :: u9 :: u10 :: u11 :: u12 :: u13 :: some (.int (iI (x + n))) :: L) st M := gv_s (one_p hf rfl (by
  show some ((pc + 3, (u0 :: u1 :: u2 :: u3 :: u4 :: u5 :: u6 :: u7 :: u8 :: u9 :: u10 :: u11 :: u12 :: u13 :: some (.int (iI x + Int32.ofInt n)) :: L, (st, M))), (0, 0)) = _
  rw [show iI x + Int32.ofInt n = iI (x + n) from iI_add x n]))
theorem k_ald15 {u0 u1 u2 u3 u4 u5 u6 u7 u8 u9 u10 u11 u12 u13 u14 : Option Value} {x : Nat} (hf : rFind (rTi r) pc = some (.aload 15, (ln, ab))) : gv d r pc (u0 :: u1 :: u2 :: u3 :: u4 :: u5 :: u6 :: u7 :: u8 :: u9 :: u10 :: u11 :: u12 :: u13 :: u14 :: some (.ref x) :: L) st M = gv d r (pc + 2) (u0 :: u1 :: u2 :: u3 :: u4 :: u5 :: u6 :: u7 :: u8 :: u9 :: u10 :: u11 :: u12 :: u13 :: u14 :: some (.ref x) :: L) (.ref x :: st) M := gv_s (one_p hf rfl rfl)
theorem k_aln15 {u0 u1 u2 u3 u4 u5 u6 u7 u8 u9 u10 u11 u12 u13 u14 : Option Value} (hf : rFind (rTi r) pc = some (.aload 15, (ln, ab))) : gv d r pc (u0 :: u1 :: u2 :: u3 :: u4 :: u5 :: u6 :: u7 :: u8 :: u9 :: u10 :: u11 :: u12 :: u13 :: u14 :: some .null :: L) st M = gv d r (pc + 2) (u0 :: u1 :: u2 :: u3 :: u4 :: u5 :: u6 :: u7 :: u8 :: u9 :: u10 :: u11 :: u12 :: u13 :: u14 :: some .null :: L) (.null :: st) M := gv_s (one_p hf rfl rfl)
theorem k_ild15 {u0 u1 u2 u3 u4 u5 u6 u7 u8 u9 u10 u11 u12 u13 u14 : Option Value} {x : Int32} (hf : rFind (rTi r) pc = some (.iload 15, (ln, ab))) : gv d r pc (u0 :: u1 :: u2 :: u3 :: u4 :: u5 :: u6 :: u7 :: u8 :: u9 :: u10 :: u11 :: u12 :: u13 :: u14 :: some (.int x) :: L) st M = gv d r (pc + 2) (u0 :: u1 :: u2 :: u3 :: u4 :: u5 :: u6 :: u7 :: u8 :: u9 :: u10 :: u11 :: u12 :: u13 :: u14 :: some (.int x) :: L) (.int x :: st) M := gv_s (one_p hf rfl rfl)
theorem k_ist15 {u0 u1 u2 u3 u4 u5 u6 u7 u8 u9 u10 u11 u12 u13 u14 : Option Value} {u : Option Value} {x : Int32} (hf : rFind (rTi r) pc = some (.istore 15, (ln, ab))) : gv d r pc (u0 :: u1 :: u2 :: u3 :: u4 :: u5 :: u6 :: u7 :: u8 :: u9 :: u10 :: u11 :: u12 :: u13 :: u14 :: u :: L) (.int x :: st) M = gv d r (pc + 2) (u0 :: u1 :: u2 :: u3 :: u4 :: u5 :: u6 :: u7 :: u8 :: u9 :: u10 :: u11 :: u12 :: u13 :: u14 :: some (.int x) :: L) st M := gv_s (one_p hf rfl rfl)
theorem k_ast15 {u0 u1 u2 u3 u4 u5 u6 u7 u8 u9 u10 u11 u12 u13 u14 : Option Value} {u : Option Value} {x : Nat} (hf : rFind (rTi r) pc = some (.astore 15, (ln, ab))) : gv d r pc (u0 :: u1 :: u2 :: u3 :: u4 :: u5 :: u6 :: u7 :: u8 :: u9 :: u10 :: u11 :: u12 :: u13 :: u14 :: u :: L) (.ref x :: st) M = gv d r (pc + 2) (u0 :: u1 :: u2 :: u3 :: u4 :: u5 :: u6 :: u7 :: u8 :: u9 :: u10 :: u11 :: u12 :: u13 :: u14 :: some (.ref x) :: L) st M := gv_s (one_p hf rfl rfl)
theorem k_asn15 {u0 u1 u2 u3 u4 u5 u6 u7 u8 u9 u10 u11 u12 u13 u14 : Option Value} {u : Option Value} (hf : rFind (rTi r) pc = some (.astore 15, (ln, ab))) : gv d r pc (u0 :: u1 :: u2 :: u3 :: u4 :: u5 :: u6 :: u7 :: u8 :: u9 :: u10 :: u11 :: u12 :: u13 :: u14 :: u :: L) (.null :: st) M = gv d r (pc + 2) (u0 :: u1 :: u2 :: u3 :: u4 :: u5 :: u6 :: u7 :: u8 :: u9 :: u10 :: u11 :: u12 :: u13 :: u14 :: some .null :: L) st M := gv_s (one_p hf rfl rfl)
theorem k_inc15 {u0 u1 u2 u3 u4 u5 u6 u7 u8 u9 u10 u11 u12 u13 u14 : Option Value} {x n : Int} (hf : rFind (rTi r) pc = some (.iinc 15 n, (ln, ab))) : gv d r pc (u0 :: u1 :: u2 :: u3 :: u4 :: u5 :: u6 :: u7 :: u8 :: u9 :: u10 :: u11 :: u12 :: u13 :: u14 :: some (.int (iI x)) :: L) st M = gv d r (pc + 3) (u0 :: u1 :: u2 :: u3 :: u4 :: u5 :: u6 :: u7 :: u8 :: u9 :: u10 :: u11 :: u12 :: u13 :: u14 :: some (.int (iI (x + n))) :: L) st M := gv_s (one_p hf rfl (by
  show some ((pc + 3, (u0 :: u1 :: u2 :: u3 :: u4 :: u5 :: u6 :: u7 :: u8 :: u9 :: u10 :: u11 :: u12 :: u13 :: u14 :: some (.int (iI x + Int32.ofInt n)) :: L, (st, M))), (0, 0)) = _
  rw [show iI x + Int32.ofInt n = iI (x + n) from iI_add x n]))
theorem k_ald16 {u0 u1 u2 u3 u4 u5 u6 u7 u8 u9 u10 u11 u12 u13 u14 u15 : Option Value} {x : Nat} (hf : rFind (rTi r) pc = some (.aload 16, (ln, ab))) : gv d r pc (u0 :: u1 :: u2 :: u3 :: u4 :: u5 :: u6 :: u7 :: u8 :: u9 :: u10 :: u11 :: u12 :: u13 :: u14 :: u15 :: some (.ref x) :: L) st M = gv d r (pc + 2) (u0 :: u1 :: u2 :: u3 :: u4 :: u5 :: u6 :: u7 :: u8 :: u9 :: u10 :: u11 :: u12 :: u13 :: u14 :: u15 :: some (.ref x) :: L) (.ref x :: st) M := gv_s (one_p hf rfl rfl)
theorem k_aln16 {u0 u1 u2 u3 u4 u5 u6 u7 u8 u9 u10 u11 u12 u13 u14 u15 : Option Value} (hf : rFind (rTi r) pc = some (.aload 16, (ln, ab))) : gv d r pc (u0 :: u1 :: u2 :: u3 :: u4 :: u5 :: u6 :: u7 :: u8 :: u9 :: u10 :: u11 :: u12 :: u13 :: u14 :: u15 :: some .null :: L) st M = gv d r (pc + 2) (u0 :: u1 :: u2 :: u3 :: u4 :: u5 :: u6 :: u7 :: u8 :: u9 :: u10 :: u11 :: u12 :: u13 :: u14 :: u15 :: some .null :: L) (.null :: st) M := gv_s (one_p hf rfl rfl)
theorem k_ild16 {u0 u1 u2 u3 u4 u5 u6 u7 u8 u9 u10 u11 u12 u13 u14 u15 : Option Value} {x : Int32} (hf : rFind (rTi r) pc = some (.iload 16, (ln, ab))) : gv d r pc (u0 :: u1 :: u2 :: u3 :: u4 :: u5 :: u6 :: u7 :: u8 :: u9 :: u10 :: u11 :: u12 :: u13 :: u14 :: u15 :: some (.int x) :: L) st M = gv d r (pc + 2) (u0 :: u1 :: u2 :: u3 :: u4 :: u5 :: u6 :: u7 :: u8 :: u9 :: u10 :: u11 :: u12 :: u13 :: u14 :: u15 :: some (.int x) :: L) (.int x :: st) M := gv_s (one_p hf rfl rfl)
theorem k_ist16 {u0 u1 u2 u3 u4 u5 u6 u7 u8 u9 u10 u11 u12 u13 u14 u15 : Option Value} {u : Option Value} {x : Int32} (hf : rFind (rTi r) pc = some (.istore 16, (ln, ab))) : gv d r pc (u0 :: u1 :: u2 :: u3 :: u4 :: u5 :: u6 :: u7 :: u8 :: u9 :: u10 :: u11 :: u12 :: u13 :: u14 :: u15 :: u :: L) (.int x :: st) M = gv d r (pc + 2) (u0 :: u1 :: u2 :: u3 :: u4 :: u5 :: u6 :: u7 :: u8 :: u9 :: u10 :: u11 :: u12 :: u13 :: u14 :: u15 :: some (.int x) :: L) st M := gv_s (one_p hf rfl rfl)
theorem k_ast16 {u0 u1 u2 u3 u4 u5 u6 u7 u8 u9 u10 u11 u12 u13 u14 u15 : Option Value} {u : Option Value} {x : Nat} (hf : rFind (rTi r) pc = some (.astore 16, (ln, ab))) : gv d r pc (u0 :: u1 :: u2 :: u3 :: u4 :: u5 :: u6 :: u7 :: u8 :: u9 :: u10 :: u11 :: u12 :: u13 :: u14 :: u15 :: u :: L) (.ref x :: st) M = gv d r (pc + 2) (u0 :: u1 :: u2 :: u3 :: u4 :: u5 :: u6 :: u7 :: u8 :: u9 :: u10 :: u11 :: u12 :: u13 :: u14 :: u15 :: some (.ref x) :: L) st M := gv_s (one_p hf rfl rfl)
theorem k_asn16 {u0 u1 u2 u3 u4 u5 u6 u7 u8 u9 u10 u11 u12 u13 u14 u15 : Option Value} {u : Option Value} (hf : rFind (rTi r) pc = some (.astore 16, (ln, ab))) : gv d r pc (u0 :: u1 :: u2 :: u3 :: u4 :: u5 :: u6 :: u7 :: u8 :: u9 :: u10 :: u11 :: u12 :: u13 :: u14 :: u15 :: u :: L) (.null :: st) M = gv d r (pc + 2) (u0 :: u1 :: u2 :: u3 :: u4 :: u5 :: u6 :: u7 :: u8 :: u9 :: u10 :: u11 :: u12 :: u13 :: u14 :: u15 :: some .null :: L) st M := gv_s (one_p hf rfl rfl)
theorem k_inc16 {u0 u1 u2 u3 u4 u5 u6 u7 u8 u9 u10 u11 u12 u13 u14 u15 : Option Value} {x n : Int} (hf : rFind (rTi r) pc = some (.iinc 16 n, (ln, ab))) : gv d r pc (u0 :: u1 :: u2 :: u3 :: u4 :: u5 :: u6 :: u7 :: u8 :: u9 :: u10 :: u11 :: u12 :: u13 :: u14 :: u15 :: some (.int (iI x)) :: L) st M = gv d r (pc + 3) (u0 :: u1 :: u2 :: u3 :: u4 :: u5 :: u6 :: u7 :: u8 :: u9 :: u10 :: u11 :: u12 :: u13 :: u14 :: u15 :: some (.int (iI (x + n))) :: L) st M := gv_s (one_p hf rfl (by
  show some ((pc + 3, (u0 :: u1 :: u2 :: u3 :: u4 :: u5 :: u6 :: u7 :: u8 :: u9 :: u10 :: u11 :: u12 :: u13 :: u14 :: u15 :: some (.int (iI x + Int32.ofInt n)) :: L, (st, M))), (0, 0)) = _
  rw [show iI x + Int32.ofInt n = iI (x + n) from iI_add x n]))
theorem k_ald17 {u0 u1 u2 u3 u4 u5 u6 u7 u8 u9 u10 u11 u12 u13 u14 u15 u16 : Option Value} {x : Nat} (hf : rFind (rTi r) pc = some (.aload 17, (ln, ab))) : gv d r pc (u0 :: u1 :: u2 :: u3 :: u4 :: u5 :: u6 :: u7 :: u8 :: u9 :: u10 :: u11 :: u12 :: u13 :: u14 :: u15 :: u16 :: some (.ref x) :: L) st M = gv d r (pc + 2) (u0 :: u1 :: u2 :: u3 :: u4 :: u5 :: u6 :: u7 :: u8 :: u9 :: u10 :: u11 :: u12 :: u13 :: u14 :: u15 :: u16 :: some (.ref x) :: L) (.ref x :: st) M := gv_s (one_p hf rfl rfl)
theorem k_aln17 {u0 u1 u2 u3 u4 u5 u6 u7 u8 u9 u10 u11 u12 u13 u14 u15 u16 : Option Value} (hf : rFind (rTi r) pc = some (.aload 17, (ln, ab))) : gv d r pc (u0 :: u1 :: u2 :: u3 :: u4 :: u5 :: u6 :: u7 :: u8 :: u9 :: u10 :: u11 :: u12 :: u13 :: u14 :: u15 :: u16 :: some .null :: L) st M = gv d r (pc + 2) (u0 :: u1 :: u2 :: u3 :: u4 :: u5 :: u6 :: u7 :: u8 :: u9 :: u10 :: u11 :: u12 :: u13 :: u14 :: u15 :: u16 :: some .null :: L) (.null :: st) M := gv_s (one_p hf rfl rfl)
theorem k_ild17 {u0 u1 u2 u3 u4 u5 u6 u7 u8 u9 u10 u11 u12 u13 u14 u15 u16 : Option Value} {x : Int32} (hf : rFind (rTi r) pc = some (.iload 17, (ln, ab))) : gv d r pc (u0 :: u1 :: u2 :: u3 :: u4 :: u5 :: u6 :: u7 :: u8 :: u9 :: u10 :: u11 :: u12 :: u13 :: u14 :: u15 :: u16 :: some (.int x) :: L) st M = gv d r (pc + 2) (u0 :: u1 :: u2 :: u3 :: u4 :: u5 :: u6 :: u7 :: u8 :: u9 :: u10 :: u11 :: u12 :: u13 :: u14 :: u15 :: u16 :: some (.int x) :: L) (.int x :: st) M := gv_s (one_p hf rfl rfl)
theorem k_ist17 {u0 u1 u2 u3 u4 u5 u6 u7 u8 u9 u10 u11 u12 u13 u14 u15 u16 : Option Value} {u : Option Value} {x : Int32} (hf : rFind (rTi r) pc = some (.istore 17, (ln, ab))) : gv d r pc (u0 :: u1 :: u2 :: u3 :: u4 :: u5 :: u6 :: u7 :: u8 :: u9 :: u10 :: u11 :: u12 :: u13 :: u14 :: u15 :: u16 :: u :: L) (.int x :: st) M = gv d r (pc + 2) (u0 :: u1 :: u2 :: u3 :: u4 :: u5 :: u6 :: u7 :: u8 :: u9 :: u10 :: u11 :: u12 :: u13 :: u14 :: u15 :: u16 :: some (.int x) :: L) st M := gv_s (one_p hf rfl rfl)
theorem k_ast17 {u0 u1 u2 u3 u4 u5 u6 u7 u8 u9 u10 u11 u12 u13 u14 u15 u16 : Option Value} {u : Option Value} {x : Nat} (hf : rFind (rTi r) pc = some (.astore 17, (ln, ab))) : gv d r pc (u0 :: u1 :: u2 :: u3 :: u4 :: u5 :: u6 :: u7 :: u8 :: u9 :: u10 :: u11 :: u12 :: u13 :: u14 :: u15 :: u16 :: u :: L) (.ref x :: st) M = gv d r (pc + 2) (u0 :: u1 :: u2 :: u3 :: u4 :: u5 :: u6 :: u7 :: u8 :: u9 :: u10 :: u11 :: u12 :: u13 :: u14 :: u15 :: u16 :: some (.ref x) :: L) st M := gv_s (one_p hf rfl rfl)
theorem k_asn17 {u0 u1 u2 u3 u4 u5 u6 u7 u8 u9 u10 u11 u12 u13 u14 u15 u16 : Option Value} {u : Option Value} (hf : rFind (rTi r) pc = some (.astore 17, (ln, ab))) : gv d r pc (u0 :: u1 :: u2 :: u3 :: u4 :: u5 :: u6 :: u7 :: u8 :: u9 :: u10 :: u11 :: u12 :: u13 :: u14 :: u15 :: u16 :: u :: L) (.null :: st) M = gv d r (pc + 2) (u0 :: u1 :: u2 :: u3 :: u4 :: u5 :: u6 :: u7 :: u8 :: u9 :: u10 :: u11 :: u12 :: u13 :: u14 :: u15 :: u16 :: some .null :: L) st M := gv_s (one_p hf rfl rfl)
theorem k_inc17 {u0 u1 u2 u3 u4 u5 u6 u7 u8 u9 u10 u11 u12 u13 u14 u15 u16 : Option Value} {x n : Int} (hf : rFind (rTi r) pc = some (.iinc 17 n, (ln, ab))) : gv d r pc (u0 :: u1 :: u2 :: u3 :: u4 :: u5 :: u6 :: u7 :: u8 :: u9 :: u10 :: u11 :: u12 :: u13 :: u14 :: u15 :: u16 :: some (.int (iI x)) :: L) st M = gv d r (pc + 3) (u0 :: u1 :: u2 :: u3 :: u4 :: u5 :: u6 :: u7 :: u8 :: u9 :: u10 :: u11 :: u12 :: u13 :: u14 :: u15 :: u16 :: some (.int (iI (x + n))) :: L) st M := gv_s (one_p hf rfl (by
  show some ((pc + 3, (u0 :: u1 :: u2 :: u3 :: u4 :: u5 :: u6 :: u7 :: u8 :: u9 :: u10 :: u11 :: u12 :: u13 :: u14 :: u15 :: u16 :: some (.int (iI x + Int32.ofInt n)) :: L, (st, M))), (0, 0)) = _
  rw [show iI x + Int32.ofInt n = iI (x + n) from iI_add x n]))
theorem k_ald18 {u0 u1 u2 u3 u4 u5 u6 u7 u8 u9 u10 u11 u12 u13 u14 u15 u16 u17 : Option Value} {x : Nat} (hf : rFind (rTi r) pc = some (.aload 18, (ln, ab))) : gv d r pc (u0 :: u1 :: u2 :: u3 :: u4 :: u5 :: u6 :: u7 :: u8 :: u9 :: u10 :: u11 :: u12 :: u13 :: u14 :: u15 :: u16 :: u17 :: some (.ref x) :: L) st M = gv d r (pc + 2) (u0 :: u1 :: u2 :: u3 :: u4 :: u5 :: u6 :: u7 :: u8 :: u9 :: u10 :: u11 :: u12 :: u13 :: u14 :: u15 :: u16 :: u17 :: some (.ref x) :: L) (.ref x :: st) M := gv_s (one_p hf rfl rfl)
theorem k_aln18 {u0 u1 u2 u3 u4 u5 u6 u7 u8 u9 u10 u11 u12 u13 u14 u15 u16 u17 : Option Value} (hf : rFind (rTi r) pc = some (.aload 18, (ln, ab))) : gv d r pc (u0 :: u1 :: u2 :: u3 :: u4 :: u5 :: u6 :: u7 :: u8 :: u9 :: u10 :: u11 :: u12 :: u13 :: u14 :: u15 :: u16 :: u17 :: some .null :: L) st M = gv d r (pc + 2) (u0 :: u1 :: u2 :: u3 :: u4 :: u5 :: u6 :: u7 :: u8 :: u9 :: u10 :: u11 :: u12 :: u13 :: u14 :: u15 :: u16 :: u17 :: some .null :: L) (.null :: st) M := gv_s (one_p hf rfl rfl)
theorem k_ild18 {u0 u1 u2 u3 u4 u5 u6 u7 u8 u9 u10 u11 u12 u13 u14 u15 u16 u17 : Option Value} {x : Int32} (hf : rFind (rTi r) pc = some (.iload 18, (ln, ab))) : gv d r pc (u0 :: u1 :: u2 :: u3 :: u4 :: u5 :: u6 :: u7 :: u8 :: u9 :: u10 :: u11 :: u12 :: u13 :: u14 :: u15 :: u16 :: u17 :: some (.int x) :: L) st M = gv d r (pc + 2) (u0 :: u1 :: u2 :: u3 :: u4 :: u5 :: u6 :: u7 :: u8 :: u9 :: u10 :: u11 :: u12 :: u13 :: u14 :: u15 :: u16 :: u17 :: some (.int x) :: L) (.int x :: st) M := gv_s (one_p hf rfl rfl)
theorem k_ist18 {u0 u1 u2 u3 u4 u5 u6 u7 u8 u9 u10 u11 u12 u13 u14 u15 u16 u17 : Option Value} {u : Option Value} {x : Int32} (hf : rFind (rTi r) pc = some (.istore 18, (ln, ab))) : gv d r pc (u0 :: u1 :: u2 :: u3 :: u4 :: u5 :: u6 :: u7 :: u8 :: u9 :: u10 :: u11 :: u12 :: u13 :: u14 :: u15 :: u16 :: u17 :: u :: L) (.int x :: st) M = gv d r (pc + 2) (u0 :: u1 :: u2 :: u3 :: u4 :: u5 :: u6 :: u7 :: u8 :: u9 :: u10 :: u11 :: u12 :: u13 :: u14 :: u15 :: u16 :: u17 :: some (.int x) :: L) st M := gv_s (one_p hf rfl rfl)
theorem k_ast18 {u0 u1 u2 u3 u4 u5 u6 u7 u8 u9 u10 u11 u12 u13 u14 u15 u16 u17 : Option Value} {u : Option Value} {x : Nat} (hf : rFind (rTi r) pc = some (.astore 18, (ln, ab))) : gv d r pc (u0 :: u1 :: u2 :: u3 :: u4 :: u5 :: u6 :: u7 :: u8 :: u9 :: u10 :: u11 :: u12 :: u13 :: u14 :: u15 :: u16 :: u17 :: u :: L) (.ref x :: st) M = gv d r (pc + 2) (u0 :: u1 :: u2 :: u3 :: u4 :: u5 :: u6 :: u7 :: u8 :: u9 :: u10 :: u11 :: u12 :: u13 :: u14 :: u15 :: u16 :: u17 :: some (.ref x) :: L) st M := gv_s (one_p hf rfl rfl)
theorem k_asn18 {u0 u1 u2 u3 u4 u5 u6 u7 u8 u9 u10 u11 u12 u13 u14 u15 u16 u17 : Option Value} {u : Option Value} (hf : rFind (rTi r) pc = some (.astore 18, (ln, ab))) : gv d r pc (u0 :: u1 :: u2 :: u3 :: u4 :: u5 :: u6 :: u7 :: u8 :: u9 :: u10 :: u11 :: u12 :: u13 :: u14 :: u15 :: u16 :: u17 :: u :: L) (.null :: st) M = gv d r (pc + 2) (u0 :: u1 :: u2 :: u3 :: u4 :: u5 :: u6 :: u7 :: u8 :: u9 :: u10 :: u11 :: u12 :: u13 :: u14 :: u15 :: u16 :: u17 :: some .null :: L) st M := gv_s (one_p hf rfl rfl)
theorem k_inc18 {u0 u1 u2 u3 u4 u5 u6 u7 u8 u9 u10 u11 u12 u13 u14 u15 u16 u17 : Option Value} {x n : Int} (hf : rFind (rTi r) pc = some (.iinc 18 n, (ln, ab))) : gv d r pc (u0 :: u1 :: u2 :: u3 :: u4 :: u5 :: u6 :: u7 :: u8 :: u9 :: u10 :: u11 :: u12 :: u13 :: u14 :: u15 :: u16 :: u17 :: some (.int (iI x)) :: L) st M = gv d r (pc + 3) (u0 :: u1 :: u2 :: u3 :: u4 :: u5 :: u6 :: u7 :: u8 :: u9 :: u10 :: u11 :: u12 :: u13 :: u14 :: u15 :: u16 :: u17 :: some (.int (iI (x + n))) :: L) st M := gv_s (one_p hf rfl (by
  show some ((pc + 3, (u0 :: u1 :: u2 :: u3 :: u4 :: u5 :: u6 :: u7 :: u8 :: u9 :: u10 :: u11 :: u12 :: u13 :: u14 :: u15 :: u16 :: u17 :: some (.int (iI x + Int32.ofInt n)) :: L, (st, M))), (0, 0)) = _
  rw [show iI x + Int32.ofInt n = iI (x + n) from iI_add x n]))
theorem k_ald19 {u0 u1 u2 u3 u4 u5 u6 u7 u8 u9 u10 u11 u12 u13 u14 u15 u16 u17 u18 : Option Value} {x : Nat} (hf : rFind (rTi r) pc = some (.aload 19, (ln, ab))) : gv d r pc (u0 :: u1 :: u2 :: u3 :: u4 :: u5 :: u6 :: u7 :: u8 :: u9 :: u10 :: u11 :: u12 :: u13 :: u14 :: u15 :: u16 :: u17 :: u18 :: some (.ref x) :: L) st M = gv d r (pc + 2) (u0 :: u1 :: u2 :: u3 :: u4 :: u5 :: u6 :: u7 :: u8 :: u9 :: u10 :: u11 :: u12 :: u13 :: u14 :: u15 :: u16 :: u17 :: u18 :: some (.ref x) :: L) (.ref x :: st) M := gv_s (one_p hf rfl rfl)
theorem k_aln19 {u0 u1 u2 u3 u4 u5 u6 u7 u8 u9 u10 u11 u12 u13 u14 u15 u16 u17 u18 : Option Value} (hf : rFind (rTi r) pc = some (.aload 19, (ln, ab))) : gv d r pc (u0 :: u1 :: u2 :: u3 :: u4 :: u5 :: u6 :: u7 :: u8 :: u9 :: u10 :: u11 :: u12 :: u13 :: u14 :: u15 :: u16 :: u17 :: u18 :: some .null :: L) st M = gv d r (pc + 2) (u0 :: u1 :: u2 :: u3 :: u4 :: u5 :: u6 :: u7 :: u8 :: u9 :: u10 :: u11 :: u12 :: u13 :: u14 :: u15 :: u16 :: u17 :: u18 :: some .null :: L) (.null :: st) M := gv_s (one_p hf rfl rfl)
theorem k_ild19 {u0 u1 u2 u3 u4 u5 u6 u7 u8 u9 u10 u11 u12 u13 u14 u15 u16 u17 u18 : Option Value} {x : Int32} (hf : rFind (rTi r) pc = some (.iload 19, (ln, ab))) : gv d r pc (u0 :: u1 :: u2 :: u3 :: u4 :: u5 :: u6 :: u7 :: u8 :: u9 :: u10 :: u11 :: u12 :: u13 :: u14 :: u15 :: u16 :: u17 :: u18 :: some (.int x) :: L) st M = gv d r (pc + 2) (u0 :: u1 :: u2 :: u3 :: u4 :: u5 :: u6 :: u7 :: u8 :: u9 :: u10 :: u11 :: u12 :: u13 :: u14 :: u15 :: u16 :: u17 :: u18 :: some (.int x) :: L) (.int x :: st) M := gv_s (one_p hf rfl rfl)
theorem k_ist19 {u0 u1 u2 u3 u4 u5 u6 u7 u8 u9 u10 u11 u12 u13 u14 u15 u16 u17 u18 : Option Value} {u : Option Value} {x : Int32} (hf : rFind (rTi r) pc = some (.istore 19, (ln, ab))) : gv d r pc (u0 :: u1 :: u2 :: u3 :: u4 :: u5 :: u6 :: u7 :: u8 :: u9 :: u10 :: u11 :: u12 :: u13 :: u14 :: u15 :: u16 :: u17 :: u18 :: u :: L) (.int x :: st) M = gv d r (pc + 2) (u0 :: u1 :: u2 :: u3 :: u4 :: u5 :: u6 :: u7 :: u8 :: u9 :: u10 :: u11 :: u12 :: u13 :: u14 :: u15 :: u16 :: u17 :: u18 :: some (.int x) :: L) st M := gv_s (one_p hf rfl rfl)
theorem k_ast19 {u0 u1 u2 u3 u4 u5 u6 u7 u8 u9 u10 u11 u12 u13 u14 u15 u16 u17 u18 : Option Value} {u : Option Value} {x : Nat} (hf : rFind (rTi r) pc = some (.astore 19, (ln, ab))) : gv d r pc (u0 :: u1 :: u2 :: u3 :: u4 :: u5 :: u6 :: u7 :: u8 :: u9 :: u10 :: u11 :: u12 :: u13 :: u14 :: u15 :: u16 :: u17 :: u18 :: u :: L) (.ref x :: st) M = gv d r (pc + 2) (u0 :: u1 :: u2 :: u3 :: u4 :: u5 :: u6 :: u7 :: u8 :: u9 :: u10 :: u11 :: u12 :: u13 :: u14 :: u15 :: u16 :: u17 :: u18 :: some (.ref x) :: L) st M := gv_s (one_p hf rfl rfl)
theorem k_asn19 {u0 u1 u2 u3 u4 u5 u6 u7 u8 u9 u10 u11 u12 u13 u14 u15 u16 u17 u18 : Option Value} {u : Option Value} (hf : rFind (rTi r) pc = some (.astore 19, (ln, ab))) : gv d r pc (u0 :: u1 :: u2 :: u3 :: u4 :: u5 :: u6 :: u7 :: u8 :: u9 :: u10 :: u11 :: u12 :: u13 :: u14 :: u15 :: u16 :: u17 :: u18 :: u :: L) (.null :: st) M = gv d r (pc + 2) (u0 :: u1 :: u2 :: u3 :: u4 :: u5 :: u6 :: u7 :: u8 :: u9 :: u10 :: u11 :: u12 :: u13 :: u14 :: u15 :: u16 :: u17 :: u18 :: some .null :: L) st M := gv_s (one_p hf rfl rfl)
theorem k_inc19 {u0 u1 u2 u3 u4 u5 u6 u7 u8 u9 u10 u11 u12 u13 u14 u15 u16 u17 u18 : Option Value} {x n : Int} (hf : rFind (rTi r) pc = some (.iinc 19 n, (ln, ab))) : gv d r pc (u0 :: u1 :: u2 :: u3 :: u4 :: u5 :: u6 :: u7 :: u8 :: u9 :: u10 :: u11 :: u12 :: u13 :: u14 :: u15 :: u16 :: u17 :: u18 :: some (.int (iI x)) :: L) st M = gv d r (pc + 3) (u0 :: u1 :: u2 :: u3 :: u4 :: u5 :: u6 :: u7 :: u8 :: u9 :: u10 :: u11 :: u12 :: u13 :: u14 :: u15 :: u16 :: u17 :: u18 :: some (.int (iI (x + n))) :: L) st M := gv_s (one_p hf rfl (by
  show some ((pc + 3, (u0 :: u1 :: u2 :: u3 :: u4 :: u5 :: u6 :: u7 :: u8 :: u9 :: u10 :: u11 :: u12 :: u13 :: u14 :: u15 :: u16 :: u17 :: u18 :: some (.int (iI x + Int32.ofInt n)) :: L, (st, M))), (0, 0)) = _
  rw [show iI x + Int32.ofInt n = iI (x + n) from iI_add x n]))
theorem k_con {n : Int} (hf : rFind (rTi r) pc = some (.iconst n, (ln, ab))) : gv d r pc L st M = gv d r (pc + 1) L (.int (iI n) :: st) M := gv_s (one_p hf rfl rfl)
theorem k_bip {n : Int} (hf : rFind (rTi r) pc = some (.bipush n, (ln, ab))) (hn : -128 ≤ n ∧ n ≤ 127) : gv d r pc L st M = gv d r (pc + 2) L (.int (iI n) :: st) M := gv_s (one_p hf rfl (by
  show some ((pc + 2, (L, (.int (Int8.ofInt n).toInt32 :: st, M))), (0, 0)) = _
  rw [byt n hn]))
theorem k_sip {n : Int} (hf : rFind (rTi r) pc = some (.sipush n, (ln, ab))) (hn : -32768 ≤ n ∧ n ≤ 32767) : gv d r pc L st M = gv d r (pc + 3) L (.int (iI n) :: st) M := gv_s (one_p hf rfl (by
  show some ((pc + 3, (L, (.int (Int16.ofInt n).toInt32 :: st, M))), (0, 0)) = _
  rw [sht n hn]))
theorem k_nul (hf : rFind (rTi r) pc = some (.aconst_null, (ln, ab))) : gv d r pc L st M = gv d r (pc + 1) L (.null :: st) M := gv_s (one_p hf rfl rfl)
theorem k_ldi {n i : Nat} (hf : rFind (rTi r) pc = some (.ldc i, (ln, (0, n)))) : gv d r pc L st M = gv d r (pc + 2) L (.int (iI n) :: st) M := gv_s (one_p hf rfl (by
  show some ((pc + 2, (L, (.int (Int32.ofNat n) :: st, M))), (0, 0)) = _
  rw [ofNat_iI]))
theorem k_ldwi {n i : Nat} (hf : rFind (rTi r) pc = some (.ldc_w i, (ln, (0, n)))) : gv d r pc L st M = gv d r (pc + 3) L (.int (iI n) :: st) M := gv_s (one_p hf rfl (by
  show some ((pc + 3, (L, (.int (Int32.ofNat n) :: st, M))), (0, 0)) = _
  rw [ofNat_iI]))
theorem k_ldr {n i : Nat} (hf : rFind (rTi r) pc = some (.ldc i, (ln, (1, n)))) : gv d r pc L st M = gv d r (pc + 2) L (.ref n :: st) M := gv_s (one_p hf rfl rfl)
theorem k_ldwr {n i : Nat} (hf : rFind (rTi r) pc = some (.ldc_w i, (ln, (1, n)))) : gv d r pc L st M = gv d r (pc + 3) L (.ref n :: st) M := gv_s (one_p hf rfl rfl)
theorem k_add {x y : Int} (hf : rFind (rTi r) pc = some (.iadd, (ln, ab))) : gv d r pc L (.int (iI y) :: .int (iI x) :: st) M = gv d r (pc + 1) L (.int (iI (x + y)) :: st) M := gv_s (one_p hf rfl (by
  show some ((pc + 1, (L, (.int (iI x + iI y) :: st, M))), (0, 0)) = _
  rw [iI_add]))
theorem k_sub {x y : Int} (hf : rFind (rTi r) pc = some (.isub, (ln, ab))) : gv d r pc L (.int (iI y) :: .int (iI x) :: st) M = gv d r (pc + 1) L (.int (iI (x - y)) :: st) M := gv_s (one_p hf rfl (by
  show some ((pc + 1, (L, (.int (iI x - iI y) :: st, M))), (0, 0)) = _
  rw [iI_sub]))
theorem k_mul {x y : Int} (hf : rFind (rTi r) pc = some (.imul, (ln, ab))) : gv d r pc L (.int (iI y) :: .int (iI x) :: st) M = gv d r (pc + 1) L (.int (iI (x * y)) :: st) M := gv_s (one_p hf rfl (by
  show some ((pc + 1, (L, (.int (iI x * iI y) :: st, M))), (0, 0)) = _
  rw [iI_mul]))
/-- the bits, shifts, quotients -/
def zAnd (x y : Int) : Int := (iI x &&& iI y).toInt
def zOr (x y : Int) : Int := (iI x ||| iI y).toInt
def zXor (x y : Int) : Int := (iI x ^^^ iI y).toInt
def zShl (x y : Int) : Int := (iI x <<< (iI y &&& 31)).toInt
def zShr (x y : Int) : Int := (iI x >>> (iI y &&& 31)).toInt
def zUsh (x y : Int) : Int := ((iI x).toUInt32 >>> ((iI y).toUInt32 &&& Int32.toUInt32 31)).toInt32.toInt
def zDiv (x y : Int) : Int := (iI x / iI y).toInt
def zRem (x y : Int) : Int := (iI x - iI x / iI y * iI y).toInt

theorem k_and {x y : Int} (hf : rFind (rTi r) pc = some (.iand, (ln, ab))) : gv d r pc L (.int (iI y) :: .int (iI x) :: st) M = gv d r (pc + 1) L (.int (iI (zAnd x y)) :: st) M := gv_s (one_p hf rfl (by
  unfold zAnd
  rw [iI_toInt]
  rfl))
theorem k_ior {x y : Int} (hf : rFind (rTi r) pc = some (.ior, (ln, ab))) : gv d r pc L (.int (iI y) :: .int (iI x) :: st) M = gv d r (pc + 1) L (.int (iI (zOr x y)) :: st) M := gv_s (one_p hf rfl (by
  unfold zOr
  rw [iI_toInt]
  rfl))
theorem k_xor {x y : Int} (hf : rFind (rTi r) pc = some (.ixor, (ln, ab))) : gv d r pc L (.int (iI y) :: .int (iI x) :: st) M = gv d r (pc + 1) L (.int (iI (zXor x y)) :: st) M := gv_s (one_p hf rfl (by
  unfold zXor
  rw [iI_toInt]
  rfl))
theorem k_shl {x y : Int} (hf : rFind (rTi r) pc = some (.ishl, (ln, ab))) : gv d r pc L (.int (iI y) :: .int (iI x) :: st) M = gv d r (pc + 1) L (.int (iI (zShl x y)) :: st) M := gv_s (one_p hf rfl (by
  unfold zShl
  rw [iI_toInt]
  rfl))
theorem k_shr {x y : Int} (hf : rFind (rTi r) pc = some (.ishr, (ln, ab))) : gv d r pc L (.int (iI y) :: .int (iI x) :: st) M = gv d r (pc + 1) L (.int (iI (zShr x y)) :: st) M := gv_s (one_p hf rfl (by
  unfold zShr
  rw [iI_toInt]
  rfl))
theorem k_ush {x y : Int} (hf : rFind (rTi r) pc = some (.iushr, (ln, ab))) : gv d r pc L (.int (iI y) :: .int (iI x) :: st) M = gv d r (pc + 1) L (.int (iI (zUsh x y)) :: st) M := gv_s (one_p hf rfl (by
  unfold zUsh
  rw [iI_toInt]
  rfl))
theorem k_div {x y : Int} (hf : rFind (rTi r) pc = some (.idiv, (ln, ab))) (hy : iI y ≠ 0) : gv d r pc L (.int (iI y) :: .int (iI x) :: st) M = gv d r (pc + 1) L (.int (iI (zDiv x y)) :: st) M := gv_s (one_p hf rfl (by
  unfold zDiv
  rw [iI_toInt]
  unfold rStp
  dsimp only
  unfold rB2 rBin
  dsimp only
  rw [if_neg hy]))
theorem k_rem {x y : Int} (hf : rFind (rTi r) pc = some (.irem, (ln, ab))) (hy : iI y ≠ 0) : gv d r pc L (.int (iI y) :: .int (iI x) :: st) M = gv d r (pc + 1) L (.int (iI (zRem x y)) :: st) M := gv_s (one_p hf rfl (by
  unfold zRem
  rw [iI_toInt]
  unfold rStp
  dsimp only
  unfold rB2 rBin
  dsimp only
  rw [if_neg hy]))
theorem k_dup {v : Value} (hf : rFind (rTi r) pc = some (.dup, (ln, ab))) (hv : v.category = 1) : gv d r pc L (v :: st) M = gv d r (pc + 1) L (v :: v :: st) M := gv_s (one_p hf rfl (by
  show (if v.category = 1 then _ else _) = _
  rw [if_pos hv]))
theorem k_du2 {v u : Value} (hf : rFind (rTi r) pc = some (.dup2, (ln, ab))) (hv : v.category = 1 ∧ u.category = 1) : gv d r pc L (v :: u :: st) M = gv d r (pc + 1) L (v :: u :: v :: u :: st) M := gv_s (one_p hf rfl (by
  show (if v.category = 1 ∧ u.category = 1 then _ else _) = _
  rw [if_pos hv]))
theorem k_pop {v : Value} (hf : rFind (rTi r) pc = some (.pop, (ln, ab))) (hv : v.category = 1) : gv d r pc L (v :: st) M = gv d r (pc + 1) L st M := gv_s (one_p hf rfl (by
  show (if v.category = 1 then _ else _) = _
  rw [if_pos hv]))
theorem k_go {off : Int} {t : Nat} (hf : rFind (rTi r) pc = some (.goto off, (ln, ab))) (ht : rJ pc off = some t) : gv d r pc L st M = gv d r t L st M := gv_s (one_p hf rfl (by
  show rTo (rJ pc off) L st M = _
  rw [ht]
  rfl))
theorem g_if {c : Prop} [Decidable c] {b : Bool} (hb : b = true ↔ c) {t : Nat} {o1 : Option rNx} (h1 : o1 = some ((t, (L, (st, M))), (0, 0))) {s2 : List Value} (h : rOne (ev d) (d + 1) r pc L s2 M = (if b = true then o1 else some ((pc + 3, (L, (st, M))), (0, 0))).map Sum.inl) : gv d r pc L s2 M = if c then gv d r t L st M else gv d r (pc + 3) L st M := by
  by_cases hc : c
  · rw [if_pos hc]
    rw [if_pos (hb.mpr hc), h1] at h
    exact gv_s h
  · rw [if_neg hc]
    rw [if_neg (fun z => hc (hb.mp z))] at h
    exact gv_s h
theorem one_q {I : Instr} {a b : Nat} (hf : rFind (rTi r) pc = some (I, (ln, (a, b)))) (hI : (match I with | .ireturn | .areturn | .return_ | .new _ | .invokevirtual _ | .invokestatic _ | .invokespecial _ => false | _ => true) = true) : rOne (ev d) (d + 1) r pc L st M = (rStp I a b pc L st M).map Sum.inl := by
  unfold rOne
  rw [hf]
  cases I <;> first | rfl | (exfalso; cases hI; done)
theorem rTo_s {t : Nat} {o : Option Nat} (h : o = some t) : rTo o L st M = some ((t, (L, (st, M))), (0, 0)) := by
  rw [h]
  rfl

theorem k_i1eq {x : Int} {off : Int} {t : Nat} (hf : rFind (rTi r) pc = some (.ifCond .eq off, (ln, ab))) (ht : rJ pc off = some t) : gv d r pc L (.int (iI x) :: st) M = if iI x = iI 0 then gv d r t L st M else gv d r (pc + 3) L st M := by
  have h := one_q (d := d) (L := L) (st := .int (iI x) :: st) (M := M) hf rfl
  exact g_if (b := rCmp .eq (iI x) (0)) (by unfold rCmp; exact decide_eq_true_iff) (rTo_s ht) h
theorem k_i2eq {x y : Int} {off : Int} {t : Nat} (hf : rFind (rTi r) pc = some (.if_icmp .eq off, (ln, ab))) (ht : rJ pc off = some t) : gv d r pc L (.int (iI y) :: .int (iI x) :: st) M = if iI x = iI y then gv d r t L st M else gv d r (pc + 3) L st M := by
  have h := one_q (d := d) (L := L) (st := .int (iI y) :: .int (iI x) :: st) (M := M) hf rfl
  exact g_if (b := rCmp .eq (iI x) (iI y)) (by unfold rCmp; exact decide_eq_true_iff) (rTo_s ht) h
theorem k_i1ne {x : Int} {off : Int} {t : Nat} (hf : rFind (rTi r) pc = some (.ifCond .ne off, (ln, ab))) (ht : rJ pc off = some t) : gv d r pc L (.int (iI x) :: st) M = if iI x = iI 0 then gv d r (pc + 3) L st M else gv d r t L st M := by
  have h := one_q (d := d) (L := L) (st := .int (iI x) :: st) (M := M) hf rfl
  have h2 := g_if (c := ¬ iI x = iI 0) (b := rCmp .ne (iI x) (0)) (by
    unfold rCmp
    rw [Bool.not_eq_true', decide_eq_false_iff_not]
    exact Iff.rfl) (rTo_s ht) h
  rw [h2]
  by_cases hc : iI x = iI 0
  · rw [if_pos hc, if_neg (not_not_intro hc)]
  · rw [if_neg hc, if_pos hc]
theorem k_i2ne {x y : Int} {off : Int} {t : Nat} (hf : rFind (rTi r) pc = some (.if_icmp .ne off, (ln, ab))) (ht : rJ pc off = some t) : gv d r pc L (.int (iI y) :: .int (iI x) :: st) M = if iI x = iI y then gv d r (pc + 3) L st M else gv d r t L st M := by
  have h := one_q (d := d) (L := L) (st := .int (iI y) :: .int (iI x) :: st) (M := M) hf rfl
  have h2 := g_if (c := ¬ iI x = iI y) (b := rCmp .ne (iI x) (iI y)) (by
    unfold rCmp
    rw [Bool.not_eq_true', decide_eq_false_iff_not]) (rTo_s ht) h
  rw [h2]
  by_cases hc : iI x = iI y
  · rw [if_pos hc, if_neg (not_not_intro hc)]
  · rw [if_neg hc, if_pos hc]
theorem k_i1lt {x : Int} {off : Int} {t : Nat} (hf : rFind (rTi r) pc = some (.ifCond .lt off, (ln, ab))) (ht : rJ pc off = some t) : gv d r pc L (.int (iI x) :: st) M = if iI x < iI 0 then gv d r t L st M else gv d r (pc + 3) L st M := by
  have h := one_q (d := d) (L := L) (st := .int (iI x) :: st) (M := M) hf rfl
  exact g_if (b := rCmp .lt (iI x) (0)) (by unfold rCmp; exact decide_eq_true_iff) (rTo_s ht) h
theorem k_i2lt {x y : Int} {off : Int} {t : Nat} (hf : rFind (rTi r) pc = some (.if_icmp .lt off, (ln, ab))) (ht : rJ pc off = some t) : gv d r pc L (.int (iI y) :: .int (iI x) :: st) M = if iI x < iI y then gv d r t L st M else gv d r (pc + 3) L st M := by
  have h := one_q (d := d) (L := L) (st := .int (iI y) :: .int (iI x) :: st) (M := M) hf rfl
  exact g_if (b := rCmp .lt (iI x) (iI y)) (by unfold rCmp; exact decide_eq_true_iff) (rTo_s ht) h
theorem k_i1ge {x : Int} {off : Int} {t : Nat} (hf : rFind (rTi r) pc = some (.ifCond .ge off, (ln, ab))) (ht : rJ pc off = some t) : gv d r pc L (.int (iI x) :: st) M = if iI x < iI 0 then gv d r (pc + 3) L st M else gv d r t L st M := by
  have h := one_q (d := d) (L := L) (st := .int (iI x) :: st) (M := M) hf rfl
  have h2 := g_if (c := ¬ iI x < iI 0) (b := rCmp .ge (iI x) (0)) (by
    unfold rCmp
    rw [decide_eq_true_iff]
    exact (Int32.not_lt).symm) (rTo_s ht) h
  rw [h2]
  by_cases hc : iI x < iI 0
  · rw [if_pos hc, if_neg (not_not_intro hc)]
  · rw [if_neg hc, if_pos hc]
theorem k_i2ge {x y : Int} {off : Int} {t : Nat} (hf : rFind (rTi r) pc = some (.if_icmp .ge off, (ln, ab))) (ht : rJ pc off = some t) : gv d r pc L (.int (iI y) :: .int (iI x) :: st) M = if iI x < iI y then gv d r (pc + 3) L st M else gv d r t L st M := by
  have h := one_q (d := d) (L := L) (st := .int (iI y) :: .int (iI x) :: st) (M := M) hf rfl
  have h2 := g_if (c := ¬ iI x < iI y) (b := rCmp .ge (iI x) (iI y)) (by
    unfold rCmp
    rw [decide_eq_true_iff]
    exact (Int32.not_lt).symm) (rTo_s ht) h
  rw [h2]
  by_cases hc : iI x < iI y
  · rw [if_pos hc, if_neg (not_not_intro hc)]
  · rw [if_neg hc, if_pos hc]
theorem k_i1gt {x : Int} {off : Int} {t : Nat} (hf : rFind (rTi r) pc = some (.ifCond .gt off, (ln, ab))) (ht : rJ pc off = some t) : gv d r pc L (.int (iI x) :: st) M = if iI 0 < iI x then gv d r t L st M else gv d r (pc + 3) L st M := by
  have h := one_q (d := d) (L := L) (st := .int (iI x) :: st) (M := M) hf rfl
  exact g_if (b := rCmp .gt (iI x) (0)) (by unfold rCmp; exact decide_eq_true_iff) (rTo_s ht) h
theorem k_i2gt {x y : Int} {off : Int} {t : Nat} (hf : rFind (rTi r) pc = some (.if_icmp .gt off, (ln, ab))) (ht : rJ pc off = some t) : gv d r pc L (.int (iI y) :: .int (iI x) :: st) M = if iI y < iI x then gv d r t L st M else gv d r (pc + 3) L st M := by
  have h := one_q (d := d) (L := L) (st := .int (iI y) :: .int (iI x) :: st) (M := M) hf rfl
  exact g_if (b := rCmp .gt (iI x) (iI y)) (by unfold rCmp; exact decide_eq_true_iff) (rTo_s ht) h
theorem k_i1le {x : Int} {off : Int} {t : Nat} (hf : rFind (rTi r) pc = some (.ifCond .le off, (ln, ab))) (ht : rJ pc off = some t) : gv d r pc L (.int (iI x) :: st) M = if iI 0 < iI x then gv d r (pc + 3) L st M else gv d r t L st M := by
  have h := one_q (d := d) (L := L) (st := .int (iI x) :: st) (M := M) hf rfl
  have h2 := g_if (c := ¬ iI 0 < iI x) (b := rCmp .le (iI x) (0)) (by
    unfold rCmp
    rw [decide_eq_true_iff]
    exact (Int32.not_lt).symm) (rTo_s ht) h
  rw [h2]
  by_cases hc : iI 0 < iI x
  · rw [if_pos hc, if_neg (not_not_intro hc)]
  · rw [if_neg hc, if_pos hc]
theorem k_i2le {x y : Int} {off : Int} {t : Nat} (hf : rFind (rTi r) pc = some (.if_icmp .le off, (ln, ab))) (ht : rJ pc off = some t) : gv d r pc L (.int (iI y) :: .int (iI x) :: st) M = if iI y < iI x then gv d r (pc + 3) L st M else gv d r t L st M := by
  have h := one_q (d := d) (L := L) (st := .int (iI y) :: .int (iI x) :: st) (M := M) hf rfl
  have h2 := g_if (c := ¬ iI y < iI x) (b := rCmp .le (iI x) (iI y)) (by
    unfold rCmp
    rw [decide_eq_true_iff]
    exact (Int32.not_lt).symm) (rTo_s ht) h
  rw [h2]
  by_cases hc : iI y < iI x
  · rw [if_pos hc, if_neg (not_not_intro hc)]
  · rw [if_neg hc, if_pos hc]
theorem ifc {α : Type} {c : Prop} [Decidable c] {a b a' b' : α} (h1 : a = a') (h2 : b = b') : (if c then a else b) = if c then a' else b' := by rw [h1, h2]
/-! fields and rows -/
theorem flv_I (m : Nat → Nat → Int) (qq : Nat → Nat → Option Nat) (x : Nat) : ∀ (F : List (Nat × Nat)) (a b : Nat), F[b]? = some fN → (rFlv m qq x a F)[b]? = some (.int (iI (m x (a + b)))) := by
  intro F
  induction F with
  | nil => intro a b h; cases h
  | cons f F ih =>
    intro a b h
    cases b with
    | zero => cases h; rfl
    | succ b =>
      have h1 := ih (a + 1) b h
      rw [show a + 1 + b = a + (b + 1) by omega] at h1
      rcases f with ⟨_ | _ | f, c⟩ <;> exact h1
theorem flv_R (m : Nat → Nat → Int) (qq : Nat → Nat → Option Nat) (x c : Nat) : ∀ (F : List (Nat × Nat)) (a b : Nat), F[b]? = some (fR c) → (rFlv m qq x a F)[b]? = some (.ref c) := by
  intro F
  induction F with
  | nil => intro a b h; cases h
  | cons f F ih =>
    intro a b h
    cases b with
    | zero => cases h; rfl
    | succ b =>
      have h1 := ih (a + 1) b h
      rcases f with ⟨_ | _ | f, c⟩ <;> exact h1
theorem flv_V (m : Nat → Nat → Int) (qq : Nat → Nat → Option Nat) (x : Nat) : ∀ (F : List (Nat × Nat)) (a b : Nat), F[b]? = some fV → (rFlv m qq x a F)[b]? = some (rOv (qq x (a + b))) := by
  intro F
  induction F with
  | nil => intro a b h; cases h
  | cons f F ih =>
    intro a b h
    cases b with
    | zero => cases h; rfl
    | succ b =>
      have h1 := ih (a + 1) b h
      rw [show a + 1 + b = a + (b + 1) by omega] at h1
      rcases f with ⟨_ | _ | f, c⟩ <;> exact h1
theorem rGet_at {a b x ci pc' : Nat} {F : List (Nat × Nat)} {v : Value} (ha : a < 100) (hs : rShp x = some (oS a F)) (hv : (rFlv m qq x 0 F)[b]? = some v) : rGet a b pc' L (.ref x :: st) (mk m qq w) = some ((pc', (L, (v :: st, mk m qq w))), (0, 0)) := by
  unfold rGet
  dsimp only
  rw [if_pos ha, at_obj hs m qq w]
  dsimp only
  rw [if_pos rfl, hv]
theorem k_gtI {x a b i : Nat} {F : List (Nat × Nat)} (hf : rFind (rTi r) pc = some (.getfield i, (ln, (a, b)))) (hs : rShp x = some (oS a F)) (hF : F[b]? = some fN) (ha : a < 100) : gv d r pc L (.ref x :: st) (mk m qq w) = gv d r (pc + 3) L (.int (iI (m x b)) :: st) (mk m qq w) := gv_s (one_p hf rfl (by
  have := flv_I m qq x F 0 b hF
  rw [Nat.zero_add] at this
  exact rGet_at (ci := 0) ha hs this))
theorem k_gtR {x a b i c : Nat} {F : List (Nat × Nat)} (hf : rFind (rTi r) pc = some (.getfield i, (ln, (a, b)))) (hs : rShp x = some (oS a F)) (hF : F[b]? = some (fR c)) (ha : a < 100) : gv d r pc L (.ref x :: st) (mk m qq w) = gv d r (pc + 3) L (.ref c :: st) (mk m qq w) := gv_s (one_p hf rfl (rGet_at (ci := 0) ha hs (flv_R m qq x c F 0 b hF)))
theorem k_gtV {x a b i : Nat} {F : List (Nat × Nat)} (hf : rFind (rTi r) pc = some (.getfield i, (ln, (a, b)))) (hs : rShp x = some (oS a F)) (hF : F[b]? = some fV) (ha : a < 100) : gv d r pc L (.ref x :: st) (mk m qq w) = gv d r (pc + 3) L (rOv (qq x b) :: st) (mk m qq w) := gv_s (one_p hf rfl (by
  have := flv_V m qq x F 0 b hF
  rw [Nat.zero_add] at this
  exact rGet_at (ci := 0) ha hs this))
/-- the fields word and numbers of a step's kind -/
theorem k_gtE {x a b i t : Nat} (hf : rFind (rTi r) pc = some (.getfield i, (ln, (a, b)))) (ha : 100 ≤ a) (ht : (if b = 0 then rEw else rEn)[x]? = some t) : gv d r pc L (.ref x :: st) M = gv d r (pc + 3) L (.ref t :: st) M := gv_s (one_p hf rfl (by
  unfold rStp
  dsimp only
  unfold rGet
  dsimp only
  rw [if_neg (by omega), ht]))
theorem k_ptI {x a b i : Nat} {F : List (Nat × Nat)} {z : Int} (hf : rFind (rTi r) pc = some (.putfield i, (ln, (a, b)))) (hs : rShp x = some (oS a F)) (hF : F[b]? = some fN) (hk : (rFk[a]?).bind (fun l => l[b]?) = some true) : gv d r pc L (.int (iI z) :: .ref x :: st) (mk m qq w) = gv d r (pc + 3) L st (mk (wr m x b z) qq w) := gv_s (one_p hf rfl (by
  unfold rStp
  dsimp only
  unfold rPut
  dsimp only
  rw [at_obj hs m qq w]
  dsimp only
  have hb : b < (rFlv m qq x 0 F).length := by
    rw [rFlv_len]
    exact (List.getElem?_eq_some_iff.mp hF).1
  rw [if_pos ⟨rfl, hb, by unfold rFit; rw [hk]⟩, mk_putI hs hF m qq w z]))
theorem k_ptV {x a b i y : Nat} {F : List (Nat × Nat)} (hf : rFind (rTi r) pc = some (.putfield i, (ln, (a, b)))) (hs : rShp x = some (oS a F)) (hF : F[b]? = some fV) (hk : (rFk[a]?).bind (fun l => l[b]?) = some false) : gv d r pc L (.ref y :: .ref x :: st) (mk m qq w) = gv d r (pc + 3) L st (mk m (wq qq x b (some y)) w) := gv_s (one_p hf rfl (by
  unfold rStp
  dsimp only
  unfold rPut
  dsimp only
  rw [at_obj hs m qq w]
  dsimp only
  have hb : b < (rFlv m qq x 0 F).length := by
    rw [rFlv_len]
    exact (List.getElem?_eq_some_iff.mp hF).1
  rw [if_pos ⟨rfl, hb, by unfold rFit; rw [hk]⟩, mk_putQ hs hF m qq w y]))
theorem k_iald {x n b k b2 : Nat} {z : Int} (hf : rFind (rTi r) pc = some (.iaload, (ln, (0, b2)))) (hs : rShp x = some (aS 0 n b k)) (hn : n ≤ 100000) (h0 : 0 ≤ z) (h1 : z < n) : gv d r pc L (.int (iI z) :: .ref x :: st) (mk m qq w) = gv d r (pc + 1) L (.int (iI (m x z.toNat)) :: st) (mk m qq w) := gv_s (one_p hf rfl (by
  unfold rStp
  dsimp only
  unfold rIald
  dsimp only
  rw [if_pos rfl, at_arr hs m qq w]
  dsimp only
  rw [if_pos ⟨rfl, iI_in h0 h1 hn⟩, iI_nat h0 (by omega)]))
theorem k_iast {x n b k : Nat} {z v : Int} (hf : rFind (rTi r) pc = some (.iastore, (ln, ab))) (hs : rShp x = some (aS 0 n b k)) (hn : n ≤ 100000) (h0 : 0 ≤ z) (h1 : z < n) : gv d r pc L (.int (iI v) :: .int (iI z) :: .ref x :: st) (mk m qq w) = gv d r (pc + 1) L st (mk (wr m x z.toNat v) qq w) := gv_s (one_p hf rfl (by
  unfold rStp
  dsimp only
  unfold rIast
  dsimp only
  rw [at_arr hs m qq w]
  dsimp only
  rw [if_pos ⟨rfl, iI_in h0 h1 hn⟩, iI_nat h0 (by omega), mk_arr hs m qq w (row (m x) z.toNat v) _ (fun j => by
    unfold row upd
    split <;> rfl)]
  rfl))
theorem k_alen {x n t b k b2 : Nat} (hf : rFind (rTi r) pc = some (.arraylength, (ln, (0, b2)))) (hs : rShp x = some (aS t n b k)) (hx : x ≠ 391) : gv d r pc L (.ref x :: st) (mk m qq w) = gv d r (pc + 1) L (.int (iI n) :: st) (mk m qq w) := gv_s (one_p hf rfl (by
  unfold rStp
  dsimp only
  unfold rAlen
  dsimp only
  rw [if_pos rfl, mk_at m qq w hx]
  unfold rCq
  rw [hs]
  show some ((pc + 1, (L, (.int (Int32.ofNat n) :: st, mk m qq w))), (0, 0)) = _
  rw [ofNat_iI]))
theorem k_ale8 {b2 : Nat} (hf : rFind (rTi r) pc = some (.arraylength, (ln, (1, b2)))) : gv d r pc L (.ref 8 :: st) M = gv d r (pc + 1) L (.int (iI 8) :: st) M := gv_s (one_p hf rfl rfl)
theorem k_aal8 {b2 : Nat} {z : Int} (hf : rFind (rTi r) pc = some (.aaload, (ln, (1, b2)))) (h0 : 0 ≤ z) (h1 : z < 8) : gv d r pc L (.int (iI z) :: .ref 8 :: st) M = gv d r (pc + 1) L (.ref z.toNat :: st) M := gv_s (one_p hf rfl (by
  unfold rStp
  dsimp only
  unfold rAald
  dsimp only
  rw [if_neg (by omega), if_pos ⟨rfl, iI_in h0 (n := 8) h1 (by omega)⟩, iI_nat h0 (by omega)]))
theorem k_ial9 {b2 : Nat} {z : Int} (hf : rFind (rTi r) pc = some (.iaload, (ln, (1, b2)))) (h0 : 0 ≤ z) (h1 : z < 8) : gv d r pc L (.int (iI z) :: .ref 9 :: st) M = gv d r (pc + 1) L (.int (iI (rSw.getD z.toNat 0 : Nat)) :: st) M := gv_s (one_p hf rfl (by
  unfold rStp
  dsimp only
  unfold rIald
  dsimp only
  rw [if_neg (by omega), if_pos ⟨rfl, iI_in h0 (n := 8) h1 (by omega)⟩, iI_nat h0 (by omega), ofNat_iI]))
theorem k_aaR {x n t b k b2 : Nat} {z : Int} (hf : rFind (rTi r) pc = some (.aaload, (ln, (0, b2)))) (hs : rShp x = some (aS (t + 2) n b (k + 1))) (hn : n ≤ 100000) (h0 : 0 ≤ z) (h1 : z < n) : gv d r pc L (.int (iI z) :: .ref x :: st) (mk m qq w) = gv d r (pc + 1) L (.ref (b + (k + 1) * z.toNat) :: st) (mk m qq w) := gv_s (one_p hf rfl (by
  unfold rStp
  dsimp only
  unfold rAald
  dsimp only
  rw [if_pos rfl, at_ref hs m qq w]
  dsimp only
  rw [if_pos ⟨by omega, iI_in h0 h1 hn⟩, iI_nat h0 (by omega), if_pos (by omega)]
  rfl))
theorem k_aaV {x n t b b2 : Nat} {z : Int} (hf : rFind (rTi r) pc = some (.aaload, (ln, (0, b2)))) (hs : rShp x = some (aS (t + 2) n b 0)) (hn : n ≤ 100000) (h0 : 0 ≤ z) (h1 : z < n) : gv d r pc L (.int (iI z) :: .ref x :: st) (mk m qq w) = gv d r (pc + 1) L (rOv (qq x z.toNat) :: st) (mk m qq w) := gv_s (one_p hf rfl (by
  unfold rStp
  dsimp only
  unfold rAald
  dsimp only
  rw [if_pos rfl, at_rfv hs m qq w]
  dsimp only
  rw [if_pos ⟨by omega, iI_in h0 h1 hn⟩, iI_nat h0 (by omega)]))
theorem k_aasE {x n b v : Nat} {z : Int} (hf : rFind (rTi r) pc = some (.aastore, (ln, ab))) (hs : rShp x = some (aS 5 n b 0)) (hn : n ≤ 100000) (h0 : 0 ≤ z) (h1 : z < n) (hv : v < 8) : gv d r pc L (.ref v :: .int (iI z) :: .ref x :: st) (mk m qq w) = gv d r (pc + 1) L st (mk m (wq qq x z.toNat (some v)) w) := gv_s (one_p hf rfl (by
  unfold rStp
  dsimp only
  unfold rAast
  dsimp only
  rw [at_rfv (t := 3) hs m qq w]
  dsimp only
  rw [if_pos (iI_in h0 h1 hn), if_pos rfl, if_pos hv, iI_nat h0 (by omega), mk_ref (t := 3) hs m qq w]
  rfl))
theorem k_aasP {x n b v : Nat} {z : Int} {F : List (Nat × Nat)} (hf : rFind (rTi r) pc = some (.aastore, (ln, ab))) (hs : rShp x = some (aS 3 n b 0)) (hn : n ≤ 100000) (h0 : 0 ≤ z) (h1 : z < n) (hv : rShp v = some (oS 5 F)) : gv d r pc L (.ref v :: .int (iI z) :: .ref x :: st) (mk m qq w) = gv d r (pc + 1) L st (mk m (wq qq x z.toNat (some v)) w) := gv_s (one_p hf rfl (by
  unfold rStp
  dsimp only
  unfold rAast
  dsimp only
  rw [at_rfv (t := 1) hs m qq w]
  dsimp only
  rw [if_pos (iI_in h0 h1 hn), if_neg (by omega), at_obj hv m qq w]
  show (if 5 = 5 then _ else _) = _
  rw [if_pos rfl, iI_nat h0 (by omega), mk_ref (t := 1) hs m qq w]
  rfl))
theorem k_gts {a b i c : Nat} (hf : rFind (rTi r) pc = some (.getstatic i, (ln, (a, b)))) (hc : (a = 0 ∧ c = 8) ∨ (a = 1 ∧ c = 7) ∨ (a = 2 ∧ c = 9)) : gv d r pc L st M = gv d r (pc + 3) L (.ref c :: st) M := gv_s (one_p hf rfl (by
  rcases hc with ⟨rfl, rfl⟩ | ⟨rfl, rfl⟩ | ⟨rfl, rfl⟩ <;> rfl))
theorem k_acm {off : Int} {t x y : Nat} (hf : rFind (rTi r) pc = some (.if_acmp .ne off, (ln, ab))) (ht : rJ pc off = some t) (hx : x < 8) (hy : y < 8) : gv d r pc L (.ref y :: .ref x :: st) M = if x = y then gv d r (pc + 3) L st M else gv d r t L st M := by
  have h := one_q (d := d) (L := L) (st := .ref y :: .ref x :: st) (M := M) hf rfl
  have h2 : rStp (.if_acmp .ne off) ab.1 ab.2 pc L (.ref y :: .ref x :: st) M = if x = y then some ((pc + 3, (L, (st, M))), (0, 0)) else rTo (rJ pc off) L st M := by
    show (if x < 8 ∧ y < 8 then _ else _) = _
    rw [if_pos ⟨hx, hy⟩]
  rw [h2] at h
  by_cases hc : x = y
  · rw [if_pos hc]
    rw [if_pos hc] at h
    exact gv_s h
  · rw [if_neg hc]
    rw [if_neg hc, rTo_s ht] at h
    exact gv_s h
theorem k_inR {off : Int} {x : Nat} (hf : rFind (rTi r) pc = some (.ifnull off, (ln, ab))) : gv d r pc L (.ref x :: st) M = gv d r (pc + 3) L st M := gv_s (one_p hf rfl rfl)
theorem k_inN {off : Int} {t : Nat} (hf : rFind (rTi r) pc = some (.ifnull off, (ln, ab))) (ht : rJ pc off = some t) : gv d r pc L (.null :: st) M = gv d r t L st M := gv_s (one_p hf rfl (rTo_s ht))
theorem k_tsw {df lo hi : Int} {offs : Array Int} {t : Nat} {z : Int} (hf : rFind (rTi r) pc = some (.tableswitch df lo hi offs, (ln, ab))) (hz : i32 z) (h1 : lo ≤ z ∧ z ≤ hi) {off : Int} (ho : offs[(z - lo).toNat]? = some off) (ht : rJ pc off = some t) : gv d r pc L (.int (iI z) :: st) M = gv d r t L st M := gv_s (one_p hf rfl (by
  unfold rStp
  dsimp only
  unfold rTsw
  dsimp only
  rw [toInt_iI hz, if_neg (by omega), ho]
  exact rTo_s ht))
theorem k_tsd {df lo hi : Int} {offs : Array Int} {t : Nat} {z : Int} (hf : rFind (rTi r) pc = some (.tableswitch df lo hi offs, (ln, ab))) (hz : i32 z) (h1 : z < lo ∨ hi < z) (ht : rJ pc df = some t) : gv d r pc L (.int (iI z) :: st) M = gv d r t L st M := gv_s (one_p hf rfl (by
  unfold rStp
  dsimp only
  unfold rTsw
  dsimp only
  rw [toInt_iI hz, if_pos (by omega)]
  exact rTo_s ht))
theorem k_lsw {df : Int} {ps : Array (Int × Int)} {t : Nat} {z off : Int} (hf : rFind (rTi r) pc = some (.lookupswitch df ps, (ln, ab))) (hz : i32 z) (ho : Op.lookupswitch.offset ps.toList df z = off) (ht : rJ pc off = some t) : gv d r pc L (.int (iI z) :: st) M = gv d r t L st M := gv_s (one_p hf rfl (by
  unfold rStp
  dsimp only
  unfold rLsw
  dsimp only
  rw [toInt_iI hz, ho]
  exact rTo_s ht))
/-! ends -/
theorem k_rtI {x : Int} (hf : rFind (rTi r) pc = some (.ireturn, (ln, ab))) (hr : r.2.2.2.1 = some .int) : gv d r pc L [.int (iI x)] M = some (.inl (some (.int (iI x))), (M, (0, 0))) := gv_r (by
  unfold rOne
  rw [hf]
  dsimp only
  unfold rRtI
  rw [hr])
theorem k_rtZ {x : Int} (hf : rFind (rTi r) pc = some (.ireturn, (ln, ab))) (hr : r.2.2.2.1 = some .boolean) (hx : iI x = iI 0 ∨ iI x = iI 1) : gv d r pc L [.int (iI x)] M = some (.inl (some (.int (iI x))), (M, (0, 0))) := gv_r (by
  unfold rOne
  rw [hf]
  dsimp only
  unfold rRtI
  rw [hr]
  exact if_pos hx)
theorem k_rtA {x : Nat} {n : String} (hf : rFind (rTi r) pc = some (.areturn, (ln, ab))) (hr : r.2.2.2.1 = some (.object n)) : gv d r pc L [.ref x] M = some (.inl (some (.ref x)), (M, (0, 0))) := gv_r (by
  unfold rOne
  rw [hf]
  dsimp only
  unfold rRtA
  rw [hr])
theorem k_rtN {n : String} (hf : rFind (rTi r) pc = some (.areturn, (ln, ab))) (hr : r.2.2.2.1 = some (.object n)) : gv d r pc L [.null] M = some (.inl (some .null), (M, (0, 0))) := gv_r (by
  unfold rOne
  rw [hf]
  dsimp only
  unfold rRtA
  rw [hr])
theorem k_rtV (hf : rFind (rTi r) pc = some (.return_, (ln, ab))) (hr : r.2.2.2.1 = none) : gv d r pc L [] M = some (.inl none, (M, (0, 0))) := gv_r (by
  unfold rOne
  rw [hf]
  dsimp only
  unfold rRtV
  rw [hr])
/-! calls -/
theorem k_inv {I : Instr} {a b : Nat} (hf : rFind (rTi r) pc = some (I, (ln, (a, b)))) (hI : (match I with | .invokevirtual _ | .invokestatic _ | .invokespecial _ => true | _ => false) = true) {q : rRow} {As rest : List Value} (ha : a < 10) (hq : rMs[b]? = some q) (hA : rArg a q st M = some (As, rest)) (hh : rHh r = []) : gv d r pc L st M = rBd (ev d b As M) (fun v M' => gv d r (pc + 3) L (v.toList ++ rest) M') := by
  have h : rOne (ev d) (d + 1) r pc L st M = rInv (ev d) (d + 1) r a b pc L st M := by
    unfold rOne
    rw [hf]
    cases I <;> first | rfl | (exfalso; cases hI; done)
  rw [gv_eq, h]
  unfold rInv
  rw [if_neg (by omega), hq]
  dsimp only
  rw [hA]
  dsimp only
  cases hc : ev d b As M with
  | none => rfl
  | some res =>
    rcases res with ⟨v | x, M', dk, dn⟩
    · rfl
    · dsimp only
      unfold rHdl
      rw [hh]
      rfl
theorem rArg_s {a n : Nat} {q : rRow} {As rest : List Value} (ha : a = 1 ∨ a = 4 ∨ a = 6) (hn : rNa q = n) (hl : As.length = n) (hc : (rest.map (fun v => v.category)).sum ≤ 8) : rArg a q (As.reverse ++ rest) M = some (As, rest) := by
  have h1 : (As.reverse ++ rest).take n = As.reverse := by rw [List.take_append_of_le_length (by rw [List.length_reverse]; omega), List.take_of_length_le (by rw [List.length_reverse]; omega)]
  have h2 : (As.reverse ++ rest).drop n = rest := by rw [List.drop_append_of_le_length (by rw [List.length_reverse]; omega), List.drop_of_length_le (by rw [List.length_reverse]; omega), List.nil_append]
  unfold rArg
  rw [hn, h1, h2, List.reverse_reverse, if_neg (by
    rw [List.length_append, List.length_reverse]
    omega)]
  rcases ha with rfl | rfl | rfl <;> rfl
theorem rArg_i {a n x : Nat} {q : rRow} {As rest : List Value} (ha : a = 2 ∨ a = 5) (hn : rNa q = n) (hl : As.length + 1 = n) (hc : (rest.map (fun v => v.category)).sum ≤ 8) : rArg a q (As.reverse ++ .ref x :: rest) M = some (.ref x :: As, rest) := by
  have h0 : As.reverse ++ .ref x :: rest = (.ref x :: As).reverse ++ rest := by simp
  have h1 : ((.ref x :: As).reverse ++ rest).take n = (.ref x :: As).reverse := by rw [List.take_append_of_le_length (by rw [List.length_reverse, List.length_cons]; omega), List.take_of_length_le (by rw [List.length_reverse, List.length_cons]; omega)]
  have h2 : ((.ref x :: As).reverse ++ rest).drop n = rest := by rw [List.drop_append_of_le_length (by rw [List.length_reverse, List.length_cons]; omega), List.drop_of_length_le (by rw [List.length_reverse, List.length_cons]; omega), List.nil_append]
  rw [h0]
  unfold rArg
  rw [hn, h1, h2, List.reverse_reverse, if_neg (by
    rw [List.length_append, List.length_reverse, List.length_cons]
    omega)]
  rcases ha with rfl | rfl <;> rfl
theorem rArg_v {n x ci : Nat} {q : rRow} {F : List (Nat × Nat)} {As rest : List Value} (hn : rNa q = n) (hl : As.length + 1 = n) (hc : (rest.map (fun v => v.category)).sum ≤ 8) (hs : rShp x = some (oS ci F)) (hk : rKc[ci]? = some q.2.2.2.2.1) : rArg 0 q (As.reverse ++ .ref x :: rest) (mk m qq w) = some (.ref x :: As, rest) := by
  have h0 : As.reverse ++ .ref x :: rest = (.ref x :: As).reverse ++ rest := by simp
  have h1 : ((.ref x :: As).reverse ++ rest).take n = (.ref x :: As).reverse := by rw [List.take_append_of_le_length (by rw [List.length_reverse, List.length_cons]; omega), List.take_of_length_le (by rw [List.length_reverse, List.length_cons]; omega)]
  have h2 : ((.ref x :: As).reverse ++ rest).drop n = rest := by rw [List.drop_append_of_le_length (by rw [List.length_reverse, List.length_cons]; omega), List.drop_of_length_le (by rw [List.length_reverse, List.length_cons]; omega), List.nil_append]
  rw [h0]
  unfold rArg
  rw [hn, h1, h2, List.reverse_reverse, if_neg (by
    rw [List.length_append, List.length_reverse, List.length_cons]
    omega)]
  simp only [at_obj hs m qq w, hk, if_true]

theorem k_cS0 {a b i : Nat} {q : rRow} (hf : rFind (rTi r) pc = some (.invokestatic i, (ln, (a, b)))) (ha : a = 1 ∨ a = 4 ∨ a = 6) (hq : rMs[b]? = some q) (hn : rNa q = 0) (hh : rHh r = []) (hc : (st.map (fun v => v.category)).sum ≤ 8) : gv d r pc L (st) M = rBd (ev d b [] M) (fun v M' => gv d r (pc + 3) L (v.toList ++ st) M') := k_inv hf rfl (by omega) hq (rArg_s (As := []) ha hn rfl hc) hh
theorem k_cI0 {a b i x : Nat} {q : rRow} (hf : rFind (rTi r) pc = some (.invokespecial i, (ln, (a, b)))) (ha : a = 2 ∨ a = 5) (hq : rMs[b]? = some q) (hn : rNa q = 1) (hh : rHh r = []) (hc : (st.map (fun v => v.category)).sum ≤ 8) : gv d r pc L (.ref x :: st) M = rBd (ev d b [.ref x] M) (fun v M' => gv d r (pc + 3) L (v.toList ++ st) M') := k_inv hf rfl (by omega) hq (rArg_i (As := []) ha hn rfl hc) hh
theorem k_cV0 {b i x ci : Nat} {q : rRow} {F : List (Nat × Nat)} (hf : rFind (rTi r) pc = some (.invokevirtual i, (ln, (0, b)))) (hs : rShp x = some (oS ci F)) (hq : rMs[b]? = some q) (hn : rNa q = 1) (hk : rKc[ci]? = some q.2.2.2.2.1) (hh : rHh r = []) (hc : (st.map (fun v => v.category)).sum ≤ 8) : gv d r pc L (.ref x :: st) (mk m qq w) = rBd (ev d b [.ref x] (mk m qq w)) (fun v M' => gv d r (pc + 3) L (v.toList ++ st) M') := k_inv hf rfl (by omega) hq (rArg_v (As := []) hn rfl hc hs hk) hh
theorem k_cS1 {a b i : Nat} {q : rRow} {a0 : Value} (hf : rFind (rTi r) pc = some (.invokestatic i, (ln, (a, b)))) (ha : a = 1 ∨ a = 4 ∨ a = 6) (hq : rMs[b]? = some q) (hn : rNa q = 1) (hh : rHh r = []) (hc : (st.map (fun v => v.category)).sum ≤ 8) : gv d r pc L (a0 :: st) M = rBd (ev d b [a0] M) (fun v M' => gv d r (pc + 3) L (v.toList ++ st) M') := k_inv hf rfl (by omega) hq (rArg_s (As := [a0]) ha hn rfl hc) hh
theorem k_cI1 {a b i x : Nat} {q : rRow} {a0 : Value} (hf : rFind (rTi r) pc = some (.invokespecial i, (ln, (a, b)))) (ha : a = 2 ∨ a = 5) (hq : rMs[b]? = some q) (hn : rNa q = 2) (hh : rHh r = []) (hc : (st.map (fun v => v.category)).sum ≤ 8) : gv d r pc L (a0 :: .ref x :: st) M = rBd (ev d b [.ref x, a0] M) (fun v M' => gv d r (pc + 3) L (v.toList ++ st) M') := k_inv hf rfl (by omega) hq (rArg_i (As := [a0]) ha hn rfl hc) hh
theorem k_cV1 {b i x ci : Nat} {q : rRow} {F : List (Nat × Nat)} {a0 : Value} (hf : rFind (rTi r) pc = some (.invokevirtual i, (ln, (0, b)))) (hs : rShp x = some (oS ci F)) (hq : rMs[b]? = some q) (hn : rNa q = 2) (hk : rKc[ci]? = some q.2.2.2.2.1) (hh : rHh r = []) (hc : (st.map (fun v => v.category)).sum ≤ 8) : gv d r pc L (a0 :: .ref x :: st) (mk m qq w) = rBd (ev d b [.ref x, a0] (mk m qq w)) (fun v M' => gv d r (pc + 3) L (v.toList ++ st) M') := k_inv hf rfl (by omega) hq (rArg_v (As := [a0]) hn rfl hc hs hk) hh
theorem k_cS2 {a b i : Nat} {q : rRow} {a0 a1 : Value} (hf : rFind (rTi r) pc = some (.invokestatic i, (ln, (a, b)))) (ha : a = 1 ∨ a = 4 ∨ a = 6) (hq : rMs[b]? = some q) (hn : rNa q = 2) (hh : rHh r = []) (hc : (st.map (fun v => v.category)).sum ≤ 8) : gv d r pc L (a1 :: a0 :: st) M = rBd (ev d b [a0, a1] M) (fun v M' => gv d r (pc + 3) L (v.toList ++ st) M') := k_inv hf rfl (by omega) hq (rArg_s (As := [a0, a1]) ha hn rfl hc) hh
theorem k_cI2 {a b i x : Nat} {q : rRow} {a0 a1 : Value} (hf : rFind (rTi r) pc = some (.invokespecial i, (ln, (a, b)))) (ha : a = 2 ∨ a = 5) (hq : rMs[b]? = some q) (hn : rNa q = 3) (hh : rHh r = []) (hc : (st.map (fun v => v.category)).sum ≤ 8) : gv d r pc L (a1 :: a0 :: .ref x :: st) M = rBd (ev d b [.ref x, a0, a1] M) (fun v M' => gv d r (pc + 3) L (v.toList ++ st) M') := k_inv hf rfl (by omega) hq (rArg_i (As := [a0, a1]) ha hn rfl hc) hh
theorem k_cV2 {b i x ci : Nat} {q : rRow} {F : List (Nat × Nat)} {a0 a1 : Value} (hf : rFind (rTi r) pc = some (.invokevirtual i, (ln, (0, b)))) (hs : rShp x = some (oS ci F)) (hq : rMs[b]? = some q) (hn : rNa q = 3) (hk : rKc[ci]? = some q.2.2.2.2.1) (hh : rHh r = []) (hc : (st.map (fun v => v.category)).sum ≤ 8) : gv d r pc L (a1 :: a0 :: .ref x :: st) (mk m qq w) = rBd (ev d b [.ref x, a0, a1] (mk m qq w)) (fun v M' => gv d r (pc + 3) L (v.toList ++ st) M') := k_inv hf rfl (by omega) hq (rArg_v (As := [a0, a1]) hn rfl hc hs hk) hh
theorem k_cS3 {a b i : Nat} {q : rRow} {a0 a1 a2 : Value} (hf : rFind (rTi r) pc = some (.invokestatic i, (ln, (a, b)))) (ha : a = 1 ∨ a = 4 ∨ a = 6) (hq : rMs[b]? = some q) (hn : rNa q = 3) (hh : rHh r = []) (hc : (st.map (fun v => v.category)).sum ≤ 8) : gv d r pc L (a2 :: a1 :: a0 :: st) M = rBd (ev d b [a0, a1, a2] M) (fun v M' => gv d r (pc + 3) L (v.toList ++ st) M') := k_inv hf rfl (by omega) hq (rArg_s (As := [a0, a1, a2]) ha hn rfl hc) hh
theorem k_cI3 {a b i x : Nat} {q : rRow} {a0 a1 a2 : Value} (hf : rFind (rTi r) pc = some (.invokespecial i, (ln, (a, b)))) (ha : a = 2 ∨ a = 5) (hq : rMs[b]? = some q) (hn : rNa q = 4) (hh : rHh r = []) (hc : (st.map (fun v => v.category)).sum ≤ 8) : gv d r pc L (a2 :: a1 :: a0 :: .ref x :: st) M = rBd (ev d b [.ref x, a0, a1, a2] M) (fun v M' => gv d r (pc + 3) L (v.toList ++ st) M') := k_inv hf rfl (by omega) hq (rArg_i (As := [a0, a1, a2]) ha hn rfl hc) hh
theorem k_cV3 {b i x ci : Nat} {q : rRow} {F : List (Nat × Nat)} {a0 a1 a2 : Value} (hf : rFind (rTi r) pc = some (.invokevirtual i, (ln, (0, b)))) (hs : rShp x = some (oS ci F)) (hq : rMs[b]? = some q) (hn : rNa q = 4) (hk : rKc[ci]? = some q.2.2.2.2.1) (hh : rHh r = []) (hc : (st.map (fun v => v.category)).sum ≤ 8) : gv d r pc L (a2 :: a1 :: a0 :: .ref x :: st) (mk m qq w) = rBd (ev d b [.ref x, a0, a1, a2] (mk m qq w)) (fun v M' => gv d r (pc + 3) L (v.toList ++ st) M') := k_inv hf rfl (by omega) hq (rArg_v (As := [a0, a1, a2]) hn rfl hc hs hk) hh
theorem k_cS4 {a b i : Nat} {q : rRow} {a0 a1 a2 a3 : Value} (hf : rFind (rTi r) pc = some (.invokestatic i, (ln, (a, b)))) (ha : a = 1 ∨ a = 4 ∨ a = 6) (hq : rMs[b]? = some q) (hn : rNa q = 4) (hh : rHh r = []) (hc : (st.map (fun v => v.category)).sum ≤ 8) : gv d r pc L (a3 :: a2 :: a1 :: a0 :: st) M = rBd (ev d b [a0, a1, a2, a3] M) (fun v M' => gv d r (pc + 3) L (v.toList ++ st) M') := k_inv hf rfl (by omega) hq (rArg_s (As := [a0, a1, a2, a3]) ha hn rfl hc) hh
theorem k_cI4 {a b i x : Nat} {q : rRow} {a0 a1 a2 a3 : Value} (hf : rFind (rTi r) pc = some (.invokespecial i, (ln, (a, b)))) (ha : a = 2 ∨ a = 5) (hq : rMs[b]? = some q) (hn : rNa q = 5) (hh : rHh r = []) (hc : (st.map (fun v => v.category)).sum ≤ 8) : gv d r pc L (a3 :: a2 :: a1 :: a0 :: .ref x :: st) M = rBd (ev d b [.ref x, a0, a1, a2, a3] M) (fun v M' => gv d r (pc + 3) L (v.toList ++ st) M') := k_inv hf rfl (by omega) hq (rArg_i (As := [a0, a1, a2, a3]) ha hn rfl hc) hh
theorem k_cV4 {b i x ci : Nat} {q : rRow} {F : List (Nat × Nat)} {a0 a1 a2 a3 : Value} (hf : rFind (rTi r) pc = some (.invokevirtual i, (ln, (0, b)))) (hs : rShp x = some (oS ci F)) (hq : rMs[b]? = some q) (hn : rNa q = 5) (hk : rKc[ci]? = some q.2.2.2.2.1) (hh : rHh r = []) (hc : (st.map (fun v => v.category)).sum ≤ 8) : gv d r pc L (a3 :: a2 :: a1 :: a0 :: .ref x :: st) (mk m qq w) = rBd (ev d b [.ref x, a0, a1, a2, a3] (mk m qq w)) (fun v M' => gv d r (pc + 3) L (v.toList ++ st) M') := k_inv hf rfl (by omega) hq (rArg_v (As := [a0, a1, a2, a3]) hn rfl hc hs hk) hh
theorem k_cS5 {a b i : Nat} {q : rRow} {a0 a1 a2 a3 a4 : Value} (hf : rFind (rTi r) pc = some (.invokestatic i, (ln, (a, b)))) (ha : a = 1 ∨ a = 4 ∨ a = 6) (hq : rMs[b]? = some q) (hn : rNa q = 5) (hh : rHh r = []) (hc : (st.map (fun v => v.category)).sum ≤ 8) : gv d r pc L (a4 :: a3 :: a2 :: a1 :: a0 :: st) M = rBd (ev d b [a0, a1, a2, a3, a4] M) (fun v M' => gv d r (pc + 3) L (v.toList ++ st) M') := k_inv hf rfl (by omega) hq (rArg_s (As := [a0, a1, a2, a3, a4]) ha hn rfl hc) hh
theorem k_cI5 {a b i x : Nat} {q : rRow} {a0 a1 a2 a3 a4 : Value} (hf : rFind (rTi r) pc = some (.invokespecial i, (ln, (a, b)))) (ha : a = 2 ∨ a = 5) (hq : rMs[b]? = some q) (hn : rNa q = 6) (hh : rHh r = []) (hc : (st.map (fun v => v.category)).sum ≤ 8) : gv d r pc L (a4 :: a3 :: a2 :: a1 :: a0 :: .ref x :: st) M = rBd (ev d b [.ref x, a0, a1, a2, a3, a4] M) (fun v M' => gv d r (pc + 3) L (v.toList ++ st) M') := k_inv hf rfl (by omega) hq (rArg_i (As := [a0, a1, a2, a3, a4]) ha hn rfl hc) hh
theorem k_cV5 {b i x ci : Nat} {q : rRow} {F : List (Nat × Nat)} {a0 a1 a2 a3 a4 : Value} (hf : rFind (rTi r) pc = some (.invokevirtual i, (ln, (0, b)))) (hs : rShp x = some (oS ci F)) (hq : rMs[b]? = some q) (hn : rNa q = 6) (hk : rKc[ci]? = some q.2.2.2.2.1) (hh : rHh r = []) (hc : (st.map (fun v => v.category)).sum ≤ 8) : gv d r pc L (a4 :: a3 :: a2 :: a1 :: a0 :: .ref x :: st) (mk m qq w) = rBd (ev d b [.ref x, a0, a1, a2, a3, a4] (mk m qq w)) (fun v M' => gv d r (pc + 3) L (v.toList ++ st) M') := k_inv hf rfl (by omega) hq (rArg_v (As := [a0, a1, a2, a3, a4]) hn rfl hc hs hk) hh
theorem k_cS6 {a b i : Nat} {q : rRow} {a0 a1 a2 a3 a4 a5 : Value} (hf : rFind (rTi r) pc = some (.invokestatic i, (ln, (a, b)))) (ha : a = 1 ∨ a = 4 ∨ a = 6) (hq : rMs[b]? = some q) (hn : rNa q = 6) (hh : rHh r = []) (hc : (st.map (fun v => v.category)).sum ≤ 8) : gv d r pc L (a5 :: a4 :: a3 :: a2 :: a1 :: a0 :: st) M = rBd (ev d b [a0, a1, a2, a3, a4, a5] M) (fun v M' => gv d r (pc + 3) L (v.toList ++ st) M') := k_inv hf rfl (by omega) hq (rArg_s (As := [a0, a1, a2, a3, a4, a5]) ha hn rfl hc) hh
theorem k_cI6 {a b i x : Nat} {q : rRow} {a0 a1 a2 a3 a4 a5 : Value} (hf : rFind (rTi r) pc = some (.invokespecial i, (ln, (a, b)))) (ha : a = 2 ∨ a = 5) (hq : rMs[b]? = some q) (hn : rNa q = 7) (hh : rHh r = []) (hc : (st.map (fun v => v.category)).sum ≤ 8) : gv d r pc L (a5 :: a4 :: a3 :: a2 :: a1 :: a0 :: .ref x :: st) M = rBd (ev d b [.ref x, a0, a1, a2, a3, a4, a5] M) (fun v M' => gv d r (pc + 3) L (v.toList ++ st) M') := k_inv hf rfl (by omega) hq (rArg_i (As := [a0, a1, a2, a3, a4, a5]) ha hn rfl hc) hh
theorem k_cV6 {b i x ci : Nat} {q : rRow} {F : List (Nat × Nat)} {a0 a1 a2 a3 a4 a5 : Value} (hf : rFind (rTi r) pc = some (.invokevirtual i, (ln, (0, b)))) (hs : rShp x = some (oS ci F)) (hq : rMs[b]? = some q) (hn : rNa q = 7) (hk : rKc[ci]? = some q.2.2.2.2.1) (hh : rHh r = []) (hc : (st.map (fun v => v.category)).sum ≤ 8) : gv d r pc L (a5 :: a4 :: a3 :: a2 :: a1 :: a0 :: .ref x :: st) (mk m qq w) = rBd (ev d b [.ref x, a0, a1, a2, a3, a4, a5] (mk m qq w)) (fun v M' => gv d r (pc + 3) L (v.toList ++ st) M') := k_inv hf rfl (by omega) hq (rArg_v (As := [a0, a1, a2, a3, a4, a5]) hn rfl hc hs hk) hh
theorem k_cS7 {a b i : Nat} {q : rRow} {a0 a1 a2 a3 a4 a5 a6 : Value} (hf : rFind (rTi r) pc = some (.invokestatic i, (ln, (a, b)))) (ha : a = 1 ∨ a = 4 ∨ a = 6) (hq : rMs[b]? = some q) (hn : rNa q = 7) (hh : rHh r = []) (hc : (st.map (fun v => v.category)).sum ≤ 8) : gv d r pc L (a6 :: a5 :: a4 :: a3 :: a2 :: a1 :: a0 :: st) M = rBd (ev d b [a0, a1, a2, a3, a4, a5, a6] M) (fun v M' => gv d r (pc + 3) L (v.toList ++ st) M') := k_inv hf rfl (by omega) hq (rArg_s (As := [a0, a1, a2, a3, a4, a5, a6]) ha hn rfl hc) hh
theorem k_cI7 {a b i x : Nat} {q : rRow} {a0 a1 a2 a3 a4 a5 a6 : Value} (hf : rFind (rTi r) pc = some (.invokespecial i, (ln, (a, b)))) (ha : a = 2 ∨ a = 5) (hq : rMs[b]? = some q) (hn : rNa q = 8) (hh : rHh r = []) (hc : (st.map (fun v => v.category)).sum ≤ 8) : gv d r pc L (a6 :: a5 :: a4 :: a3 :: a2 :: a1 :: a0 :: .ref x :: st) M = rBd (ev d b [.ref x, a0, a1, a2, a3, a4, a5, a6] M) (fun v M' => gv d r (pc + 3) L (v.toList ++ st) M') := k_inv hf rfl (by omega) hq (rArg_i (As := [a0, a1, a2, a3, a4, a5, a6]) ha hn rfl hc) hh
theorem k_cV7 {b i x ci : Nat} {q : rRow} {F : List (Nat × Nat)} {a0 a1 a2 a3 a4 a5 a6 : Value} (hf : rFind (rTi r) pc = some (.invokevirtual i, (ln, (0, b)))) (hs : rShp x = some (oS ci F)) (hq : rMs[b]? = some q) (hn : rNa q = 8) (hk : rKc[ci]? = some q.2.2.2.2.1) (hh : rHh r = []) (hc : (st.map (fun v => v.category)).sum ≤ 8) : gv d r pc L (a6 :: a5 :: a4 :: a3 :: a2 :: a1 :: a0 :: .ref x :: st) (mk m qq w) = rBd (ev d b [.ref x, a0, a1, a2, a3, a4, a5, a6] (mk m qq w)) (fun v M' => gv d r (pc + 3) L (v.toList ++ st) M') := k_inv hf rfl (by omega) hq (rArg_v (As := [a0, a1, a2, a3, a4, a5, a6]) hn rfl hc hs hk) hh
theorem k_cS8 {a b i : Nat} {q : rRow} {a0 a1 a2 a3 a4 a5 a6 a7 : Value} (hf : rFind (rTi r) pc = some (.invokestatic i, (ln, (a, b)))) (ha : a = 1 ∨ a = 4 ∨ a = 6) (hq : rMs[b]? = some q) (hn : rNa q = 8) (hh : rHh r = []) (hc : (st.map (fun v => v.category)).sum ≤ 8) : gv d r pc L (a7 :: a6 :: a5 :: a4 :: a3 :: a2 :: a1 :: a0 :: st) M = rBd (ev d b [a0, a1, a2, a3, a4, a5, a6, a7] M) (fun v M' => gv d r (pc + 3) L (v.toList ++ st) M') := k_inv hf rfl (by omega) hq (rArg_s (As := [a0, a1, a2, a3, a4, a5, a6, a7]) ha hn rfl hc) hh
/-! what is told by itself -/
theorem k_prm {I : Instr} {a b : Nat} (hf : rFind (rTi r) pc = some (I, (ln, (a, b)))) (hI : (match I with | .invokevirtual _ | .invokestatic _ | .invokespecial _ => true | _ => false) = true) (ha : 10 ≤ a) (hd : 9 ≤ d) (hc : (st.map (fun v => v.category)).sum ≤ 8) {L' : rLoc} {st' : List Value} {M' : rMem} {pc' : Nat} (h : rPrm a (pc + 3) L st M = some ((pc', (L', (st', M'))), (0, 0))) : gv d r pc L st M = gv d r pc' L' st' M' := by
  refine gv_s ?_
  have h2 : rOne (ev d) (d + 1) r pc L st M = rInv (ev d) (d + 1) r a b pc L st M := by
    unfold rOne
    rw [hf]
    cases I <;> first | rfl | (exfalso; cases hI; done)
  rw [h2]
  unfold rInv
  rw [if_pos ha, if_pos ⟨by omega, hc⟩, h]
  rfl
theorem k_min {x y : Int} {b i : Nat} (hf : rFind (rTi r) pc = some (.invokestatic i, (ln, (15, b)))) (hd : 9 ≤ d) (hc : ((.int (iI y) :: .int (iI x) :: st : List Value).map (fun v => v.category)).sum ≤ 8) : gv d r pc L (.int (iI y) :: .int (iI x) :: st) M = gv d r (pc + 3) L (.int (iI (if iI y < iI x then y else x)) :: st) M := k_prm hf rfl (by omega) hd hc (by
  show some ((pc + 3, (L, (.int (if iI y < iI x then iI y else iI x) :: st, M))), (0, 0)) = _
  split <;> rfl)
theorem k_max {x y : Int} {b i : Nat} (hf : rFind (rTi r) pc = some (.invokestatic i, (ln, (16, b)))) (hd : 9 ≤ d) (hc : ((.int (iI y) :: .int (iI x) :: st : List Value).map (fun v => v.category)).sum ≤ 8) : gv d r pc L (.int (iI y) :: .int (iI x) :: st) M = gv d r (pc + 3) L (.int (iI (if iI x < iI y then y else x)) :: st) M := k_prm hf rfl (by omega) hd hc (by
  show some ((pc + 3, (L, (.int (if iI x < iI y then iI y else iI x) :: st, M))), (0, 0)) = _
  split <;> rfl)
theorem k_ord {x b i : Nat} (hf : rFind (rTi r) pc = some (.invokevirtual i, (ln, (14, b)))) (hx : x < 8) (hd : 9 ≤ d) (hc : ((.ref x :: st : List Value).map (fun v => v.category)).sum ≤ 8) : gv d r pc L (.ref x :: st) M = gv d r (pc + 3) L (.int (iI x) :: st) M := k_prm hf rfl (by omega) hd hc (by
  show (if x < 8 then _ else _) = _
  rw [if_pos hx, ofNat_iI])
theorem k_len {x b i : Nat} {l : List Nat} (hf : rFind (rTi r) pc = some (.invokevirtual i, (ln, (12, b)))) (hl : rTxt x = some l) (hd : 9 ≤ d) (hc : ((.ref x :: st : List Value).map (fun v => v.category)).sum ≤ 8) : gv d r pc L (.ref x :: st) M = gv d r (pc + 3) L (.int (iI l.length) :: st) M := k_prm hf rfl (by omega) hd hc (by
  unfold rPrm
  dsimp only
  rw [hl]
  dsimp only
  rw [ofNat_iI]
  rfl)
theorem k_chr {x b i : Nat} {l : List Nat} {z : Int} (hf : rFind (rTi r) pc = some (.invokevirtual i, (ln, (13, b)))) (hl : rTxt x = some l) (h0 : 0 ≤ z) (h1 : z < l.length) (hn : l.length ≤ 100000) (hd : 9 ≤ d) (hc : ((.int (iI z) :: .ref x :: st : List Value).map (fun v => v.category)).sum ≤ 8) : gv d r pc L (.int (iI z) :: .ref x :: st) M = gv d r (pc + 3) L (.int (iI (l.getD z.toNat 0 : Nat)) :: st) M := k_prm hf rfl (by omega) hd hc (by
  unfold rPrm
  dsimp only
  rw [hl]
  dsimp only
  rw [if_neg (iI_in h0 h1 hn), iI_nat h0 (by omega), ofNat_iI]
  rfl)
theorem k_cpy {x y n0 n1 b1 k1 b2 k2 b i : Nat} {sp dp n : Int} (hf : rFind (rTi r) pc = some (.invokestatic i, (ln, (11, b)))) (hx : rShp x = some (aS 0 n0 b1 k1)) (hy : rShp y = some (aS 0 n1 b2 k2)) (h1 : 0 ≤ sp) (h2 : 0 ≤ dp) (h3 : 0 ≤ n) (h4 : sp + n ≤ n0) (h5 : dp + n ≤ n1) (hn0 : n0 ≤ 100000) (hn1 : n1 ≤ 100000) (hd : 9 ≤ d) (hc : ((.int (iI n) :: .int (iI dp) :: .ref y :: .int (iI sp) :: .ref x :: st : List Value).map (fun v => v.category)).sum ≤ 8) :
    gv d r pc L (.int (iI n) :: .int (iI dp) :: .ref y :: .int (iI sp) :: .ref x :: st) (mk m qq w) = gv d r (pc + 3) L st (mk (row m y (fun j => if dp.toNat ≤ j ∧ j < dp.toNat + n.toNat then m x (sp.toNat + (j - dp.toNat)) else m y j)) qq w) := k_prm hf rfl (by omega) hd hc (by
  have hneg : ∀ z : Int, 0 ≤ z → z < 2147483648 → ¬ iI z < 0 := fun z h0 h => by
    have := iI_in h0 (n := 100000) (a := z)
    intro hc
    have : iI z < iI 0 := hc
    rw [iI_lt (by omega) (by omega)] at this
    omega
  unfold rPrm
  dsimp only
  rw [at_arr hx m qq w, at_arr hy m qq w]
  dsimp only
  rw [iI_nat h1 (by omega), iI_nat h2 (by omega), iI_nat h3 (by omega), if_pos ⟨rfl, rfl, hneg _ h1 (by omega), hneg _ h2 (by omega), hneg _ h3 (by omega), by omega, by omega⟩,
    mk_arr hy m qq w (fun j => if dp.toNat ≤ j ∧ j < dp.toNat + n.toNat then m x (sp.toNat + (j - dp.toNat)) else m y j) _ (fun j => by
      unfold va_cpy
      split <;> rfl)]
  rfl)
end Steps
