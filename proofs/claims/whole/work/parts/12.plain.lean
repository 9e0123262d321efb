/-! ===== every plain instruction ===== -/
theorem rChk_ok {r : rRow} {pc ln a b : Nat} {I : Instr} (h : rChk r (pc, (I, (ln, (a, b)))) = true) : decode r.2.1 pc = .ok (I, ln) ∧ (∀ n, rLen I = some n → ln = n) ∧ rRsv r (pc, (I, (ln, (a, b)))) = true := by
  unfold rChk at h
  simp only [Bool.and_eq_true, decide_eq_true_eq] at h
  refine ⟨h.1, fun n hn => ?_, h.2.2⟩
  have h2 := h.2.1
  rw [hn] at h2
  exact (Nat.beq_eq.mp h2).symm
set_option maxRecDepth 100000 in
theorem rAr_ok : Jvm.Cond.arrayClass .int ∈ rWs ∧ Jvm.Cond.arrayClass .long ∈ rWs := by decide +kernel
theorem res_A {K i a b : Nat} {own C : String} (h : rLk rAt K i a b = true) (hK : rKn[K]? = some own) (hC : rTy a = .object C) : Jvm.Cond.classLink own i C ∈ rWs := by
  obtain ⟨w, hw⟩ := rLk_mem h
  have h2 := List.all_eq_true.mp rAt_ok _ hw
  unfold rOkA at h2
  dsimp only at h2
  rw [hK, hC] at h2
  simp only [Bool.and_eq_true, decide_eq_true_eq] at h2
  exact rIn_mem h2.1
theorem res_L0 {K i b : Nat} {own : String} (h : rLk rLt K i 0 b = true) (hK : rKn[K]? = some own) : Jvm.Cond.constant own i (Int32.ofNat b) ∈ rWs := by
  obtain ⟨w, hw⟩ := rLk_mem h
  have h2 := List.all_eq_true.mp rLt_ok _ hw
  unfold rOkL at h2
  dsimp only at h2
  rw [hK] at h2
  dsimp only at h2
  rw [if_pos rfl] at h2
  exact rIn_mem h2
theorem res_L1 {K i b : Nat} {own : String} (h : rLk rLt K i 1 b = true) (hK : rKn[K]? = some own) : ∃ w tx, (K, i, 1, b, w) ∈ rLt ∧ rSTR[b - 10]? = some tx ∧ b < 100 := by
  obtain ⟨w, hw⟩ := rLk_mem h
  have h2 := List.all_eq_true.mp rLt_ok _ hw
  unfold rOkL at h2
  dsimp only at h2
  rw [hK] at h2
  dsimp only at h2
  rw [if_neg (by decide)] at h2
  cases ht : rSTR[b - 10]? with
  | none => rw [ht] at h2; cases h2
  | some tx => exact ⟨w, tx, hw, rfl, lt_lt hw rfl⟩
theorem res_S {K i a b : Nat} {own : String} (h : rLk rSt K i a b = true) (hK : rKn[K]? = some own) : (a = 0 → Jvm.Cond.fieldLink own i "FanHouse$Step" "ALL" "[LFanHouse$Step;" ∈ rWs) ∧ (a = 1 → Jvm.Cond.fieldLink own i "FanHouse$Step" "AGAIN" "LFanHouse$Step;" ∈ rWs) ∧ (a = 2 → Jvm.Cond.fieldLink own i "FanHouse$1" "$SwitchMap$FanHouse$Step" "[I" ∈ rWs) := by
  obtain ⟨w, hw⟩ := rLk_mem h
  have h2 := List.all_eq_true.mp rSt_ok _ hw
  unfold rOkS at h2
  dsimp only at h2
  rw [hK] at h2
  refine ⟨?_, ?_, ?_⟩ <;> intro ha <;> subst ha <;> exact rIn_mem h2
section RowsD
variable {p : Program} {l : Launch} {e : Env} {R : Room} {s : State} {m : MethodId} {args : Array Value} {below : List Frame} {meth : Method} {c : Code} {H : Heap} {locs : List Loc} {cells slots : Nat} {Q : State → Prop}
variable {cc : ByteArray} {D : va_G} {base nL pc : Nat} {ad : Nat → Nat} {ls : Array Slot} {L : rLoc} {st : List Value} {M : rMem}

theorem lv_ldcSW (hexec : p.tables.exec = Jvm.exec) (hb : c.code = cc) {own tx : String} {index q : Nat} {rest : List Value} (hown : s.vm.findClass own = some m.cls) (hZ : vk_R own index tx q s) (hdg : decode cc pc = .ok (.ldc_w index, 3))
    (k : W p l e R s m args below meth c H locs cells slots Q (F0 m (pc + 3) ls (.ref q :: rest))) : W p l e R s m args below meth c H locs cells slots Q (F0 m pc ls (rest)) := by
  intro T hT X
  obtain ⟨t, a1, b1⟩ := k T hT X
  exact ⟨t, X.ldcStringW hexec hown (text := tx) (a := q) hZ.1 hZ.2 (g := F0 m pc ls rest) rfl (by rw [hb]; exact hdg) t a1, b1⟩
theorem rCmp_eq {k : ClassFile.Cond} {x y : Int32} : rCmp k x y = true ↔ (match k with | .eq => x = y | .ne => ¬ x = y | .lt => x < y | .ge => y ≤ x | .gt => y < x | .le => x ≤ y) := by
  cases k <;> simp [rCmp]

set_option maxHeartbeats 4000000 in
theorem rStp_ok (hx : p.tables.exec = Jvm.exec) (hb : c.code = cc) {r : rRow} {I : Instr} {ln a b : Nat} {x : rNx} (hck : rChk r (pc, (I, (ln, (a, b)))) = true) (hcc : r.2.1 = cc) (hown : s.vm.findClass r.1.cls = some m.cls) (hKn : rKn[rKj r]? = some r.1.cls) (hmn : meth.name = r.1.name)
    (hts : ∀ w ∈ rWs, w.before args s = true) (hC : rCn base ad s s.heap) (hb0 : base ≤ s.heap.size) (F : rF D base ad nL ls L st M s H locs) (h : rStp I a b pc L st M = some x) (hcells : cells + x.2.1 ≤ R.cells) (hslots : slots + x.2.2 ≤ R.slots) (k : rKon p l e R s m args below meth c Q D base nL ad M cells slots x) : W p l e R s m args below meth c H locs cells slots Q (F0 m pc ls (st.map (rv ad))) := by
  obtain ⟨hd, hl, hres⟩ := rChk_ok hck
  rw [hcc] at hd
  have h100 : 100 ≤ M.1 := F.2.2.1.2.1
  cases I with
  | aload_n i =>
    replace h : rLdA (pc + 1) i.val L st M = some x := h
    have hd : decode cc pc = .ok (.aload_n i, 1) := by rw [hd, hl 1 rfl]
    exact ok_LdA h F k (fun z hz w => lv_aload_n hx hb hd rfl hz w)
  | iload_n i =>
    replace h : rLdI (pc + 1) i.val L st M = some x := h
    have hd : decode cc pc = .ok (.iload_n i, 1) := by rw [hd, hl 1 rfl]
    exact ok_LdI h F k (fun z hz w => lv_iload_n hx hb hd rfl hz w)
  | iload i =>
    replace h : rLdI (pc + 2) i L st M = some x := h
    have hd : decode cc pc = .ok (.iload i, 2) := by rw [hd, hl 2 rfl]
    exact ok_LdI h F k (fun z hz w => lv_iload hx hb hd hz w)
  | aload i =>
    replace h : rLdN (pc + 2) i L st M = some x := h
    have hd : decode cc pc = .ok (.aload i, 2) := by rw [hd, hl 2 rfl]
    exact ok_LdN h F k (fun z hz w => lv_aload hx hb hd hz w) (fun hz w => lv_aloadN hx hb hd hz w)
  | istore_n i =>
    replace h : rStI (pc + 1) i.val L st M = some x := h
    have hd : decode cc pc = .ok (.istore_n i, 1) := by rw [hd, hl 1 rfl]
    exact ok_StI h F k (fun z r hi w => lv_istore_n hx hb hd rfl F.1.1 hi rfl w)
  | istore i =>
    replace h : rStI (pc + 2) i L st M = some x := h
    have hd : decode cc pc = .ok (.istore i, 2) := by rw [hd, hl 2 rfl]
    exact ok_StI h F k (fun z r hi w => lv_istore hx hb hd F.1.1 hi rfl w)
  | astore_n i =>
    replace h : rStA (pc + 1) i.val L st M = some x := h
    have hd : decode cc pc = .ok (.astore_n i, 1) := by rw [hd, hl 1 rfl]
    exact ok_StA h F k (fun z r hi w => lv_astore_n hx hb hd rfl F.1.1 hi rfl w)
  | astore i =>
    replace h : rStN (pc + 2) i L st M = some x := h
    have hd : decode cc pc = .ok (.astore i, 2) := by rw [hd, hl 2 rfl]
    exact ok_StN h F k (fun z r hi w => lv_astore hx hb hd F.1.1 hi rfl w) (fun r hi w => lv_astoreN hx hb hd F.1.1 hi rfl w)
  | iconst n =>
    have hd : decode cc pc = .ok (.iconst n, 1) := by rw [hd, hl 1 rfl]
    cases h
    exact lv_iconst hx hb hd rfl (kon_same (st' := .int _ :: st) F (List.forall_mem_cons.mpr ⟨trivial, F.2.1⟩) k)
  | bipush n =>
    have hd : decode cc pc = .ok (.bipush n, 2) := by rw [hd, hl 2 rfl]
    cases h
    exact lv_bipush hx hb hd rfl (kon_same (st' := .int _ :: st) F (List.forall_mem_cons.mpr ⟨trivial, F.2.1⟩) k)
  | sipush n =>
    have hd : decode cc pc = .ok (.sipush n, 3) := by rw [hd, hl 3 rfl]
    cases h
    exact lv_sipush hx hb hd rfl (kon_same (st' := .int _ :: st) F (List.forall_mem_cons.mpr ⟨trivial, F.2.1⟩) k)
  | lconst n =>
    have hd : decode cc pc = .ok (.lconst n, 1) := by rw [hd, hl 1 rfl]
    cases h
    exact lv_lconst hx hb hd rfl (kon_same (st' := .long _ :: st) F (List.forall_mem_cons.mpr ⟨trivial, F.2.1⟩) k)
  | aconst_null =>
    have hd : decode cc pc = .ok (.aconst_null, 1) := by rw [hd, hl 1 rfl]
    cases h
    exact lv_null hx hb hd (kon_same (st' := .null :: st) F (List.forall_mem_cons.mpr ⟨trivial, F.2.1⟩) k)
  | ldc i =>
    replace h : rLdc a b (pc + 2) L st M = some x := h
    have hd : decode cc pc = .ok (.ldc i, 2) := by rw [hd, hl 2 rfl]
    have h' := h
    clear h
    unfold rLdc at h'
    have hres' : (if a < 2 then rLk rLt (rKj r) i a b else true) = true := hres
    by_cases ha : a = 0
    · rw [if_pos ha] at h'
      subst ha
      rw [if_pos (by decide)] at hres'
      cases h'
      exact lv_ldc hx hb hown (hts _ (res_L0 hres' hKn)) hd (kon_same (st' := .int _ :: st) F (List.forall_mem_cons.mpr ⟨trivial, F.2.1⟩) k)
    · rw [if_neg ha] at h'
      by_cases ha1 : a = 1
      · rw [if_pos ha1] at h'
        subst ha1
        rw [if_pos (by decide)] at hres'
        cases h'
        obtain ⟨w, tx, hw, htx, hbl⟩ := res_L1 hres' hKn
        exact va_ldcS hx hb hown (hC.1.2.2.1 _ hw rfl _ _ hKn htx) hd (kon_same (st' := .ref b :: st) F (List.forall_mem_cons.mpr ⟨Nat.lt_of_lt_of_le hbl h100, F.2.1⟩) k)
      · rw [if_neg ha1] at h'
        cases h'
  | ldc_w i =>
    replace h : rLdc a b (pc + 3) L st M = some x := h
    have hd : decode cc pc = .ok (.ldc_w i, 3) := by rw [hd, hl 3 rfl]
    have h' := h
    clear h
    unfold rLdc at h'
    have hres' : (if a < 2 then rLk rLt (rKj r) i a b else true) = true := hres
    by_cases ha : a = 0
    · rw [if_pos ha] at h'
      subst ha
      rw [if_pos (by decide)] at hres'
      cases h'
      exact lv_ldcw hx hb hown (hts _ (res_L0 hres' hKn)) hd (kon_same (st' := .int _ :: st) F (List.forall_mem_cons.mpr ⟨trivial, F.2.1⟩) k)
    · rw [if_neg ha] at h'
      by_cases ha1 : a = 1
      · rw [if_pos ha1] at h'
        subst ha1
        rw [if_pos (by decide)] at hres'
        cases h'
        obtain ⟨w, tx, hw, htx, hbl⟩ := res_L1 hres' hKn
        exact lv_ldcSW hx hb hown (hC.1.2.2.1 _ hw rfl _ _ hKn htx) hd (kon_same (st' := .ref b :: st) F (List.forall_mem_cons.mpr ⟨Nat.lt_of_lt_of_le hbl h100, F.2.1⟩) k)
      · rw [if_neg ha1] at h'
        cases h'
  | iinc i n =>
    replace h : rInc i n (pc + 3) L st M = some x := h
    have hd : decode cc pc = .ok (.iinc i n, 3) := by rw [hd, hl 3 rfl]
    have h' := h
    clear h
    unfold rInc at h'
    split at h'
    next z hz =>
      cases h'
      have hlt : i < nL := by rw [← F.1.2.1]; exact (List.getElem?_eq_some_iff.mp hz).1
      obtain ⟨k0, hk0⟩ := List.getElem?_of_mem (rPr_mem (ad := ad) (q := (i, .int z)) |>.mpr ⟨.int z, hz, rfl⟩)
      exact lv_iinc hx hb hd F.1.1 hk0 rfl hlt rfl (fun ls1 hl1 => kon_set (v := .int (z + Int32.ofInt n)) F trivial rfl F.2.1 hl1 k)
    next => cases h'
  | iadd =>
    replace h : rB2 .iadd (pc + 1) L st M = some x := h
    have hd : decode cc pc = .ok (.iadd, 1) := by rw [hd, hl 1 rfl]
    exact ok_B2 h F k (fun y z v rs hv w => by cases hv; exact lv_iadd hx hb hd w)
  | isub =>
    replace h : rB2 .isub (pc + 1) L st M = some x := h
    have hd : decode cc pc = .ok (.isub, 1) := by rw [hd, hl 1 rfl]
    exact ok_B2 h F k (fun y z v rs hv w => by cases hv; exact lv_isub hx hb hd w)
  | imul =>
    replace h : rB2 .imul (pc + 1) L st M = some x := h
    have hd : decode cc pc = .ok (.imul, 1) := by rw [hd, hl 1 rfl]
    exact ok_B2 h F k (fun y z v rs hv w => by cases hv; exact lv_imul hx hb hd w)
  | iand =>
    replace h : rB2 .iand (pc + 1) L st M = some x := h
    have hd : decode cc pc = .ok (.iand, 1) := by rw [hd, hl 1 rfl]
    exact ok_B2 h F k (fun y z v rs hv w => by cases hv; exact lv_iand hx hb hd w)
  | ior =>
    replace h : rB2 .ior (pc + 1) L st M = some x := h
    have hd : decode cc pc = .ok (.ior, 1) := by rw [hd, hl 1 rfl]
    exact ok_B2 h F k (fun y z v rs hv w => by cases hv; exact lv_ior hx hb hd w)
  | ixor =>
    replace h : rB2 .ixor (pc + 1) L st M = some x := h
    have hd : decode cc pc = .ok (.ixor, 1) := by rw [hd, hl 1 rfl]
    exact ok_B2 h F k (fun y z v rs hv w => by cases hv; exact lv_ixor hx hb hd w)
  | ishl =>
    replace h : rB2 .ishl (pc + 1) L st M = some x := h
    have hd : decode cc pc = .ok (.ishl, 1) := by rw [hd, hl 1 rfl]
    exact ok_B2 h F k (fun y z v rs hv w => by cases hv; exact lv_ishl hx hb hd w)
  | ishr =>
    replace h : rB2 .ishr (pc + 1) L st M = some x := h
    have hd : decode cc pc = .ok (.ishr, 1) := by rw [hd, hl 1 rfl]
    exact ok_B2 h F k (fun y z v rs hv w => by cases hv; exact lv_ishr hx hb hd w)
  | iushr =>
    replace h : rB2 .iushr (pc + 1) L st M = some x := h
    have hd : decode cc pc = .ok (.iushr, 1) := by rw [hd, hl 1 rfl]
    exact ok_B2 h F k (fun y z v rs hv w => by cases hv; exact lv_iushr hx hb hd rfl w)
  | idiv =>
    replace h : rB2 .idiv (pc + 1) L st M = some x := h
    have hd : decode cc pc = .ok (.idiv, 1) := by rw [hd, hl 1 rfl]
    refine ok_B2 h F k (fun y z v rs hv w => ?_)
    by_cases hy : y = 0
    · rw [rBin, if_pos hy] at hv
      cases hv
    · rw [rBin, if_neg hy] at hv
      cases hv
      exact lv_idiv hx hb hd hy w
  | irem =>
    replace h : rB2 .irem (pc + 1) L st M = some x := h
    have hd : decode cc pc = .ok (.irem, 1) := by rw [hd, hl 1 rfl]
    refine ok_B2 h F k (fun y z v rs hv w => ?_)
    by_cases hy : y = 0
    · rw [rBin, if_pos hy] at hv
      cases hv
    · rw [rBin, if_neg hy] at hv
      cases hv
      exact lv_irem hx hb hd hy w
  | i2l =>
    replace h : rI2l (pc + 1) L st M = some x := h
    have hd : decode cc pc = .ok (.i2l, 1) := by rw [hd, hl 1 rfl]
    have h' := h
    clear h
    unfold rI2l at h'
    split at h'
    next z rs =>
      cases h'
      exact lv_i2l hx hb hd rfl (kon_same (st' := .long _ :: rs) F (List.forall_mem_cons.mpr ⟨trivial, rF_tl F⟩) k)
    next => cases h'
  | lcmp =>
    replace h : rLcm (pc + 1) L st M = some x := h
    have hd : decode cc pc = .ok (.lcmp, 1) := by rw [hd, hl 1 rfl]
    have h' := h
    clear h
    unfold rLcm at h'
    split at h'
    next y z rs =>
      cases h'
      exact W.lcmp hx hb hd (kon_same (st' := .int _ :: rs) F (List.forall_mem_cons.mpr ⟨trivial, fun w hw => rF_tl F w (List.mem_cons_of_mem _ hw)⟩) k)
    next => cases h'
  | dup =>
    replace h : rDup (pc + 1) L st M = some x := h
    have hd : decode cc pc = .ok (.dup, 1) := by rw [hd, hl 1 rfl]
    have h' := h
    clear h
    unfold rDup at h'
    split at h'
    next v rs =>
      split at h'
      next hv =>
        cases h'
        exact lv_dup hx hb hd (by rw [rv_cat]; exact hv) (kon_same (st' := v :: v :: rs) F (List.forall_mem_cons.mpr ⟨rF_hd F, F.2.1⟩) k)
      next => cases h'
    next => cases h'
  | dup2 =>
    replace h : rDu2 (pc + 1) L st M = some x := h
    have hd : decode cc pc = .ok (.dup2, 1) := by rw [hd, hl 1 rfl]
    have h' := h
    clear h
    unfold rDu2 at h'
    split at h'
    next v w rs =>
      split at h'
      next hv =>
        cases h'
        exact lv_dup2_11 hx hb hd (by rw [rv_cat]; exact hv.1) (by rw [rv_cat]; exact hv.2) (kon_same (st' := v :: w :: v :: w :: rs) F (List.forall_mem_cons.mpr ⟨rF_hd F, List.forall_mem_cons.mpr ⟨rF_tl F w List.mem_cons_self, F.2.1⟩⟩) k)
      next => cases h'
    next => cases h'
  | pop =>
    replace h : rPop (pc + 1) L st M = some x := h
    have hd : decode cc pc = .ok (.pop, 1) := by rw [hd, hl 1 rfl]
    have h' := h
    clear h
    unfold rPop at h'
    split at h'
    next v rs =>
      split at h'
      next hv =>
        cases h'
        exact lv_pop hx hb hd (by rw [rv_cat]; exact hv) (kon_same (st' := rs) F (rF_tl F) k)
      next => cases h'
    next => cases h'
  | goto off =>
    replace h : rTo (rJ pc off) L st M = some x := h
    have hd : decode cc pc = .ok (.goto off, 3) := by rw [hd, hl 3 rfl]
    obtain ⟨tgt, ht, w⟩ := ok_To (st1 := st) h F F.2.1 k
    exact lv_goto hx hb hd ht w
  | ifCond k0 off =>
    replace h : rIf1 k0 off pc L st M = some x := h
    have hd : decode cc pc = .ok (.ifCond k0 off, 3) := by rw [hd, hl 3 rfl]
    have h' := h
    clear h
    unfold rIf1 at h'
    split at h'
    next z rs =>
      split at h'
      next hc =>
        obtain ⟨tgt, ht, w⟩ := ok_To (st1 := rs) h' F (rF_tl F) k
        have hc := rCmp_eq.mp hc
        cases k0
        case eq => exact lv_if_eq hx hb hd ht (fun _ => w) (fun hn => absurd hc hn)
        case ne => exact lv_if_ne hx hb hd ht (fun _ => w) (fun hn => absurd hn hc)
        case lt => exact lv_if_lt hx hb hd ht (fun _ => w) (fun hn => absurd hc hn)
        case ge => exact lv_if_ge hx hb hd ht (fun _ => w) (fun hn => absurd hc hn)
        case gt => exact lv_if_gt hx hb hd ht (fun _ => w) (fun hn => absurd hc hn)
        case le => exact lv_if_le hx hb hd ht (fun _ => w) (fun hn => absurd hc hn)
      next hc =>
        cases h'
        have w := kon_same (st' := rs) F (rF_tl F) k
        have hc := fun z => hc (rCmp_eq.mpr z)
        have hp : 0 ≤ (pc : Int) + off := of_decide_eq_true hres
        cases k0
        case eq => exact lv_if_eq hx hb hd (Int.toNat_of_nonneg hp).symm (fun hn => absurd hn hc) (fun _ => w)
        case ne => exact lv_if_ne hx hb hd (Int.toNat_of_nonneg hp).symm (fun hn => absurd hn hc) (fun _ => w)
        case lt => exact lv_if_lt hx hb hd (Int.toNat_of_nonneg hp).symm (fun hn => absurd hn hc) (fun _ => w)
        case ge => exact lv_if_ge hx hb hd (Int.toNat_of_nonneg hp).symm (fun hn => absurd hn hc) (fun _ => w)
        case gt => exact lv_if_gt hx hb hd (Int.toNat_of_nonneg hp).symm (fun hn => absurd hn hc) (fun _ => w)
        case le => exact lv_if_le hx hb hd (Int.toNat_of_nonneg hp).symm (fun hn => absurd hn hc) (fun _ => w)
    next => cases h'
  | if_icmp k0 off =>
    replace h : rIf2 k0 off pc L st M = some x := h
    have hd : decode cc pc = .ok (.if_icmp k0 off, 3) := by rw [hd, hl 3 rfl]
    have h' := h
    clear h
    unfold rIf2 at h'
    split at h'
    next y z rs =>
      split at h'
      next hc =>
        obtain ⟨tgt, ht, w⟩ := ok_To (st1 := rs) h' F (fun w hw => rF_tl F w (List.mem_cons_of_mem _ hw)) k
        have hc := rCmp_eq.mp hc
        cases k0
        case eq => exact lv_icmp_eq hx hb hd ht (fun _ => w) (fun hn => absurd hc hn)
        case ne => exact lv_icmp_ne hx hb hd ht (fun _ => w) (fun hn => absurd hn hc)
        case lt => exact lv_icmp_lt hx hb hd ht (fun _ => w) (fun hn => absurd hc hn)
        case ge => exact lv_icmp_ge hx hb hd ht (fun _ => w) (fun hn => absurd hc hn)
        case gt => exact lv_icmp_gt hx hb hd ht (fun _ => w) (fun hn => absurd hc hn)
        case le => exact lv_icmp_le hx hb hd ht (fun _ => w) (fun hn => absurd hc hn)
      next hc =>
        cases h'
        have w := kon_same (st' := rs) F (fun w hw => rF_tl F w (List.mem_cons_of_mem _ hw)) k
        have hc := fun z => hc (rCmp_eq.mpr z)
        have hp : 0 ≤ (pc : Int) + off := of_decide_eq_true hres
        cases k0
        case eq => exact lv_icmp_eq hx hb hd (Int.toNat_of_nonneg hp).symm (fun hn => absurd hn hc) (fun _ => w)
        case ne => exact lv_icmp_ne hx hb hd (Int.toNat_of_nonneg hp).symm (fun hn => absurd hn hc) (fun _ => w)
        case lt => exact lv_icmp_lt hx hb hd (Int.toNat_of_nonneg hp).symm (fun hn => absurd hn hc) (fun _ => w)
        case ge => exact lv_icmp_ge hx hb hd (Int.toNat_of_nonneg hp).symm (fun hn => absurd hn hc) (fun _ => w)
        case gt => exact lv_icmp_gt hx hb hd (Int.toNat_of_nonneg hp).symm (fun hn => absurd hn hc) (fun _ => w)
        case le => exact lv_icmp_le hx hb hd (Int.toNat_of_nonneg hp).symm (fun hn => absurd hn hc) (fun _ => w)
    next => cases h'
  | if_acmp k0 off =>
    cases k0 with
    | eq => cases h
    | ne =>
      have hd : decode cc pc = .ok (.if_acmp .ne off, 3) := by rw [hd, hl 3 rfl]
      have h' : rAcm off pc L st M = some x := h
      clear h
      unfold rAcm at h'
      split at h'
      next y z rs =>
        split at h'
        next h8 =>
          split at h'
          next he =>
            cases h'
            subst he
            have hp : 0 ≤ (pc : Int) + off := of_decide_eq_true hres
            exact lv_acmp_ne (rx := some (ad z)) (ry := some (ad z)) hx hb hd (Int.toNat_of_nonneg hp).symm (fun hn => absurd rfl hn) (fun _ => kon_same (st' := rs) F (fun w hw => rF_tl F w (List.mem_cons_of_mem _ hw)) k)
          next he =>
            obtain ⟨tgt, ht, w⟩ := ok_To (st1 := rs) h' F (fun w hw => rF_tl F w (List.mem_cons_of_mem _ hw)) k
            exact lv_acmp_ne (rx := some (ad z)) (ry := some (ad y)) hx hb hd ht (fun _ => w) (fun hn => absurd (hC.1.2.2.2 z y h8.1 h8.2 (Option.some.inj hn)) he)
        next => cases h'
      next => cases h'
  | ifnull off =>
    replace h : rInl off pc L st M = some x := h
    have hd : decode cc pc = .ok (.ifnull off, 3) := by rw [hd, hl 3 rfl]
    have h' := h
    clear h
    unfold rInl at h'
    split at h'
    next z rs =>
      cases h'
      exact lv_ifnull hx hb hd (kon_same (st' := rs) F (rF_tl F) k)
    next rs =>
      obtain ⟨tgt, ht, w⟩ := ok_To (st1 := rs) h' F (rF_tl F) k
      exact lv_ifnullN hx hb hd ht w
    next => cases h'
  | tableswitch dflt lo hi offs =>
    replace h : rTsw dflt lo hi offs pc L st M = some x := h
    have h' := h
    clear h
    unfold rTsw at h'
    split at h'
    next z rs =>
      split at h'
      next hz =>
        obtain ⟨tgt, ht, w⟩ := ok_To (st1 := rs) h' F (rF_tl F) k
        exact lv_tableOut hx hb hd hz ht w
      next hz =>
        split at h'
        next off ho =>
          obtain ⟨tgt, ht, w⟩ := ok_To (st1 := rs) h' F (rF_tl F) k
          exact lv_tableIn hx hb hd (fun z => hz (Or.inl z)) (fun z => hz (Or.inr z)) ho ht w
        next => cases h'
    next => cases h'
  | lookupswitch dflt ps =>
    replace h : rLsw dflt ps pc L st M = some x := h
    have h' := h
    clear h
    unfold rLsw at h'
    split at h'
    next z rs =>
      obtain ⟨tgt, ht, w⟩ := ok_To (st1 := rs) h' F (rF_tl F) k
      exact lv_lookup hx hb hd hres rfl ht w
    next => cases h'
  | getfield i =>
    replace h : rGet a b (pc + 3) L st M = some x := h
    have hd : decode cc pc = .ok (.getfield i, 3) := by rw [hd, hl 3 rfl]
    have hres' : (if a < 100 then rLk rFt (rKj r) i a b else (a == 100 && rKj r == 7 && b == 0 && i == 47) || (a == 101 && rKj r == 10 && b == 1 && i == 61)) = true := hres
    by_cases ha : a < 100
    · rw [if_pos ha] at hres'
      obtain ⟨q, hq, hbn, hlk⟩ := res_F hres' hKn
      exact ok_Get hx hb h ha F k hts hq (cl_ok hq).1 hown hbn (hts _ hlk) hd
    · rw [if_neg ha] at hres'
      refine ok_GetC (idx := i) hx hb h ha F h100 hC.2.1 k (fun hb1 y v rs hv w => ?_) (fun hb1 y v rs hv w => ?_)
      · subst hb1
        simp only [Bool.or_eq_true, Bool.and_eq_true, beq_iff_eq] at hres'
        rcases hres' with ⟨⟨⟨-, h7⟩, -⟩, rfl⟩ | ⟨⟨-, h1⟩, -⟩
        · rw [h7] at hKn
          have hcl : r.1.cls = "FanHouse$Step" := (Option.some.inj hKn).symm
          rw [hcl] at hown
          exact vk_getf hx hb hv F.2.2.2 hown (hts _ rWw_ok.1) (fun _ h9 => h9) hd w
        · cases h1
      · simp only [Bool.or_eq_true, Bool.and_eq_true, beq_iff_eq] at hres'
        rcases hres' with ⟨⟨-, h0⟩, -⟩ | ⟨⟨⟨-, h10⟩, -⟩, rfl⟩
        · exact absurd h0 hb1
        · rw [h10] at hKn
          have hcl : r.1.cls = "FanHouse$Work" := (Option.some.inj hKn).symm
          rw [hcl] at hown
          obtain ⟨cf, kf, fi, f, cell, g1, g2, g3, g4, g5, g6⟩ := hv.kept F.2.2.2.2.1
          exact va_Wgetf hx hb hown (va_Nw.use rfl (hC.1.1 _ rWw_ok.2)) g1 g2 g3 g4 g5 rfl rfl hd w
  | putfield i =>
    replace h : rPut a b (pc + 3) L st M = some x := h
    have hd : decode cc pc = .ok (.putfield i, 3) := by rw [hd, hl 3 rfl]
    have hres' : (rLk rFt (rKj r) i a b && (match rCl[a]? with
      | some q => if (q.2.1 b).2.2.2 = true then decide (r.1.name = "<init>") && decide ((q.2.1 b).1 = r.1.cls) else true
      | none => false)) = true := hres
    rw [Bool.and_eq_true] at hres'
    obtain ⟨q, hq, hbn, hlk⟩ := res_F hres'.1 hKn
    have h5 := hres'.2
    rw [hq] at h5
    refine ok_Put hx hb h F hb0 k hts hq (cl_ok hq).1 hown hbn (hts _ hlk) (cl_ty hq) (cl_nm hq) ?_ (cl_ty hq b hbn) (cl_kd hq hbn) hd
    cases hf : (q.2.1 b).2.2.2 with
    | false => exact Or.inl rfl
    | true =>
      dsimp only at h5
      rw [if_pos hf] at h5
      simp only [Bool.and_eq_true, decide_eq_true_eq] at h5
      exact Or.inr ⟨rfl, by rw [hmn]; exact h5.1, h5.2⟩
  | getstatic i =>
    replace h : rGts a (pc + 3) L st M = some x := h
    have hd : decode cc pc = .ok (.getstatic i, 3) := by rw [hd, hl 3 rfl]
    obtain ⟨g0, g1, g2⟩ := res_S hres hKn
    have h' := h
    clear h
    unfold rGts at h'
    by_cases a0 : a = 0
    · rw [if_pos a0] at h'
      cases h'
      exact va_gets hx hb hC.2.1.1 F.2.2.2 hown (hts _ (g0 a0)) (fun _ h9 => h9) hd (kon_same (st' := .ref 8 :: st) F (List.forall_mem_cons.mpr ⟨(by show 8 < M.1; omega), F.2.1⟩) k)
    · rw [if_neg a0] at h'
      by_cases a1 : a = 1
      · rw [if_pos a1] at h'
        cases h'
        exact va_gets hx hb hC.2.1.2.1 F.2.2.2 hown (hts _ (g1 a1)) (fun _ h9 => h9) hd (kon_same (st' := .ref 7 :: st) F (List.forall_mem_cons.mpr ⟨(by show 7 < M.1; omega), F.2.1⟩) k)
      · rw [if_neg a1] at h'
        by_cases a2 : a = 2
        · rw [if_pos a2] at h'
          cases h'
          exact va_gets hx hb hC.2.1.2.2.1 F.2.2.2 hown (hts _ (g2 a2)) (fun _ h9 => h9) hd (kon_same (st' := .ref 9 :: st) F (List.forall_mem_cons.mpr ⟨(by show 9 < M.1; omega), F.2.1⟩) k)
        · rw [if_neg a2] at h'
          cases h'
  | iaload =>
    replace h : rIald a (pc + 1) L st M = some x := h
    have hd : decode cc pc = .ok (.iaload, 1) := by rw [hd, hl 1 rfl]
    by_cases ha : a = 0
    · subst ha
      exact ok_Iald hx hb h F k hd
    · exact ok_IaldC hx hb h ha F hC.2.1 k hd
  | aaload =>
    replace h : rAald a (pc + 1) L st M = some x := h
    have hd : decode cc pc = .ok (.aaload, 1) := by rw [hd, hl 1 rfl]
    by_cases ha : a = 0
    · subst ha
      exact ok_Aald hx hb h F k hd
    · exact ok_AaldC hx hb h ha F h100 hC.2.1 k hd
  | arraylength =>
    replace h : rAlen a (pc + 1) L st M = some x := h
    have hd : decode cc pc = .ok (.arraylength, 1) := by rw [hd, hl 1 rfl]
    by_cases ha : a = 0
    · subst ha
      exact ok_Alen hx hb h F k hd
    · exact ok_AlenC hx hb h ha F hC.2.1 k hd
  | iastore =>
    replace h : rIast (pc + 1) L st M = some x := h
    have hd : decode cc pc = .ok (.iastore, 1) := by rw [hd, hl 1 rfl]
    exact ok_Iast hx hb h F hb0 k hd
  | laload =>
    replace h : rLald (pc + 1) L st M = some x := h
    have hd : decode cc pc = .ok (.laload, 1) := by rw [hd, hl 1 rfl]
    exact ok_Lald hx hb h F k hd
  | lastore =>
    replace h : rLast (pc + 1) L st M = some x := h
    have hd : decode cc pc = .ok (.lastore, 1) := by rw [hd, hl 1 rfl]
    exact ok_Last hx hb h F hb0 k hd
  | aastore =>
    replace h : rAast (pc + 1) L st M = some x := h
    have hd : decode cc pc = .ok (.aastore, 1) := by rw [hd, hl 1 rfl]
    refine ok_Aast hx hb h F hb0 (fun v hv => ?_) k hd
    obtain ⟨cell, c1, c2, c3, c4⟩ := (hC.2.1.2.2.2.2.2 v hv).1.kept F.2.2.2.2.1
    obtain ⟨kC, hkC, -⟩ := Vm.findClass_spec c3
    exact ⟨cell, c1, c2, ⟨kC, hkC⟩, fun comp hc => by cases Option.some.inj (c3.symm.trans hc); exact va_asg _ _⟩
  | new i =>
    replace h : rNew a (pc + 3) L st M = some x := h
    have hd : decode cc pc = .ok (.new i, 3) := by rw [hd, hl 3 rfl]
    have ha : a < 12 := by
      by_cases ha : a < 12
      · exact ha
      · have h' := h
        rw [rNew, if_neg ha] at h'
        cases h'
    have hres' : rLk rNt (rKj r) i a b = true := hres
    obtain ⟨q, hq, w1, w2, w3⟩ := res_N hres' hKn (by omega)
    exact ok_New hx hb h F hb0 k hts hq (cl_ok hq).1 hown (hts _ w1) (hts _ (List.mem_filter.mpr ⟨w2, rfl⟩)) (hts _ (List.mem_filter.mpr ⟨w3, rfl⟩)) hcells hslots hd
  | newarray at0 =>
    replace h : rNwa a (pc + 2) L st M = some x := h
    have hd : decode cc pc = .ok (.newarray at0, 2) := by rw [hd, hl 2 rfl]
    cases at0 with
    | int =>
      have hr : (a == 0) = true := hres
      exact ok_Nwa hx hb h F hb0 k (Or.inl ⟨rfl, by simpa using hr⟩) (hts _ rAr_ok.1) hcells hslots hd
    | long =>
      have hr : (a == 1) = true := hres
      exact ok_Nwa hx hb h F hb0 k (Or.inr ⟨rfl, by simpa using hr⟩) (hts _ rAr_ok.2) hcells hslots hd
    | _ =>
      have hr : false = true := hres
      cases hr
  | anewarray i =>
    replace h : rNwq a (pc + 3) L st M = some x := h
    have hd : decode cc pc = .ok (.anewarray i, 3) := by rw [hd, hl 3 rfl]
    exact ok_Nwq hx hb h F hb0 k hown (fun C hTC => hts _ (res_A hres hKn hTC)) hC.1 hcells hslots hd
  | _ => cases h
end RowsD
