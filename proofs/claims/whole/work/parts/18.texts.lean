/-! ===== String.length, charAt, Enum.ordinal over constants: nothing changes ===== -/
def jN (c n d : String) : MethodName := ⟨c, n, d⟩
abbrev jS : String := "java/lang/String"
def jy_coder : MethodName := ⟨"java/lang/String", "coder", "()B"⟩
def jy_length : MethodName := ⟨"java/lang/String", "length", "()I"⟩
def jy_latin : MethodName := ⟨"java/lang/String", "isLatin1", "()Z"⟩
def jy_ck : MethodName := ⟨"java/lang/String", "checkIndex", "(II)V"⟩
def jy_charAt : MethodName := ⟨"java/lang/String", "charAt", "(I)C"⟩
def jy_l1 : MethodName := ⟨"java/lang/StringLatin1", "charAt", "([BI)C"⟩
def jy_ck3 : MethodName := ⟨"jdk/internal/util/Preconditions", "checkIndex", "(IILjava/util/function/BiFunction;)I"⟩
def jy_ord : MethodName := ⟨"java/lang/Enum", "ordinal", "()I"⟩
def jx_ord : MethodName := ⟨"FanHouse$Step", "ordinal", "()I"⟩

abbrev jc_coder : ByteArray := prog_25_method_152_code
def jw_coder : List Jvm.Cond := .code jy_coder jc_coder 1 (some .byte) :: rWs
abbrev jc_length : ByteArray := prog_25_method_54_code
def jw_length : List Jvm.Cond := .code jy_length jc_length 1 (some .int) :: rWs
abbrev jc_latin : ByteArray := prog_25_method_154_code
def jw_latin : List Jvm.Cond := .code jy_latin jc_latin 1 (some .boolean) :: rWs
abbrev jc_ck : ByteArray := prog_25_method_155_code
def jw_ck : List Jvm.Cond := .code jy_ck jc_ck 2 none :: rWs
abbrev jc_charAt : ByteArray := prog_25_method_56_code
def jw_charAt : List Jvm.Cond := .code jy_charAt jc_charAt 2 (some .char) :: rWs
abbrev jc_l1 : ByteArray := prog_26_method_2_code
def jw_l1 : List Jvm.Cond := .code jy_l1 jc_l1 2 (some .char) :: rWs
abbrev jc_ck3 : ByteArray := prog_34_method_11_code
def jw_ck3 : List Jvm.Cond := .code jy_ck3 jc_ck3 3 (some .int) :: rWs
abbrev jc_ord : ByteArray := prog_19_method_2_code
def jw_ord : List Jvm.Cond := .code jy_ord jc_ord 1 (some .int) :: rWs
def jWd : List Jvm.Cond := [Jvm.Cond.code jy_coder jc_coder 1 (some .byte), Jvm.Cond.code jy_length jc_length 1 (some .int), Jvm.Cond.code jy_latin jc_latin 1 (some .boolean), Jvm.Cond.code jy_ck jc_ck 2 none, Jvm.Cond.code jy_charAt jc_charAt 2 (some .char), Jvm.Cond.code jy_l1 jc_l1 2 (some .char), Jvm.Cond.code jy_ck3 jc_ck3 3 (some .int), Jvm.Cond.code jy_ord jc_ord 1 (some .int), .fieldLink "java/lang/String" 38 "java/lang/String" "COMPACT_STRINGS" "Z", .fieldLink "java/lang/String" 15 "java/lang/String" "coder" "B", .fieldLink "java/lang/String" 9 "java/lang/String" "value" "[B", .fieldLink "java/lang/String" 1053 "jdk/internal/util/Preconditions" "SIOOBE_FORMATTER" "Ljava/util/function/BiFunction;", .fieldLink "java/lang/Enum" 7 "java/lang/Enum" "ordinal" "I", .methodLink "java/lang/String" 335 jy_coder, .instanceMethod jy_coder, .selects jS jy_coder jy_coder, .initialized jS, .methodLink "java/lang/String" 492 jy_latin, .instanceMethod jy_latin, .selects jS jy_latin jy_latin, .methodLink "java/lang/String" 495 jy_l1, .static jy_l1, .initialized "java/lang/StringLatin1", .methodLink "java/lang/StringLatin1" 9 jy_ck, .static jy_ck, .methodLink "java/lang/String" 1059 jy_ck3, .static jy_ck3, .initialized "jdk/internal/util/Preconditions", .instanceMethod jy_length, .selects jS jy_length jy_length, .instanceMethod jy_charAt, .selects jS jy_charAt jy_charAt, .sameMethod "FanHouse$Step" "java/lang/Enum" "ordinal" "()I", .selects "FanHouse$Step" jx_ord jy_ord, .instanceMethod jy_ord, .initialized "java/lang/Enum"]
set_option maxRecDepth 100000 in
theorem jWd_ok : ∀ w ∈ jWd, w ∈ rWs := by decide +kernel
theorem jG {w0 : Jvm.Cond} (h : w0 ∈ jWd) : GoodIn rWs (w0 :: rWs) := by
  intro w hw
  have hw2 : w ∈ rWs := by
    rcases List.mem_cons.mp hw with h1 | h1
    · rw [h1]; exact jWd_ok _ h
    · exact h1
  exact ⟨hw2, good_of_word (List.mem_filter.mp hw2).2⟩
theorem jG2 {w0 w1 : Jvm.Cond} (h : w0 ∈ jWd) : GoodIn (w1 :: rWs) (w0 :: rWs) := fun w hw => ⟨List.mem_cons_of_mem _ (jG h w hw).1, (jG h w hw).2⟩
/-- a constant text at q: its bytes at v, n of them -/
def jF (A : Nat → Prop) (q v n : Nat) (f : Nat → Int32) (U : State) (H : Heap) : Prop :=
  va_O "java/lang/String" q A U H ∧ va_OF "java/lang/String" "coder" "B" (.int 0) q A U H ∧ va_OF "java/lang/String" "value" "[B" (.ref v) q A U H ∧ va_T .byte v n (fun j => .int (f j)) A U H ∧ va_Z "java/lang/String" "COMPACT_STRINGS" "Z" (.int 1) A U H ∧ va_Zq "jdk/internal/util/Preconditions" "SIOOBE_FORMATTER" "Ljava/util/function/BiFunction;" A U H
theorem jF_moved {A : Nat → Prop} {q v n : Nat} {f : Nat → Int32} {u U : State} {H : Heap} (hvm : u.vm.Alike U.vm) (h : jF A q v n f u H) : jF A q v n f U H :=
  ⟨va_O.moved hvm h.1, va_OF.moved hvm h.2.1, va_OF.moved hvm h.2.2.1, va_T.moved hvm h.2.2.2.1, va_Z.moved hvm h.2.2.2.2.1, va_Zq.moved hvm h.2.2.2.2.2⟩
theorem jF_kept {A : Nat → Prop} {q v n : Nat} {f : Nat → Int32} {U : State} {H H1 : Heap} (hq : ∀ a : Nat, a < H.size → ¬ A a → H1[a]? = H[a]?) (h : jF A q v n f U H) : jF A q v n f U H1 :=
  ⟨h.1.kept hq, h.2.1.kept hq, h.2.2.1.kept hq, h.2.2.2.1.kept hq, h.2.2.2.2.1.kept hq, h.2.2.2.2.2.kept hq⟩
def jP (As : List Value) (B : State → Prop) : Array Value → State → Prop := fun a U => a = As.toArray ∧ B U
def jQ (v : Option Value) : Array Value → State → Outcome → State → Prop := fun _ st oc t => oc = .returned v ∧ t.heap = st.heap
theorem jP_blind {As : List Value} {A : Nat → Prop} {q v n : Nat} {f : Nat → Int32} : FrameBlind (jP As (fun U => jF A q v n f U U.heap)) := fun a U g mk h => ⟨h.1, jF_moved (u := U) (U := U.calling g mk a) (Vm.Alike.refl U.vm) h.2⟩
section RowsJ
variable {p : Program} {l : Launch} {e : Env} {R : Room} {s : State} {m : MethodId} {args : Array Value} {below : List Frame} {meth : Method} {c : Code} {H : Heap} {locs : List Loc} {cells slots : Nat} {Q : State → Prop}
variable {cc : ByteArray} {D : va_G} {base nL pc : Nat} {ad : Nat → Nat} {ls : Array Slot} {L : rLoc} {st : List Value} {M : rMem}

theorem quiet_go {v : Option Value} {rest stR : List Value} {a0 : Array Value} (hr : va_Run p l e R s m args below meth c H locs cells slots 0 0 (F0 m pc ls stR) rest (jQ v a0) (fun _ => False)) (k : W p l e R s m args below meth c H locs cells slots Q (F0 m (pc + 3) ls (v.toList ++ rest))) : W p l e R s m args below meth c H locs cells slots Q (F0 m pc ls (stR)) := by
  intro T hT X
  obtain ⟨v1, st₀, t, T', L0, h0, X', hL, e1, e2, ⟨hv, hh⟩, stp⟩ := hr T hT X
  cases hv
  have hn : L0 = [] := List.eq_nil_iff_forall_not_mem.mpr hL
  subst hn
  rw [List.append_nil] at X'
  obtain ⟨t2, a1, b1⟩ := k T' (by rw [e1, hh, h0]) X'
  exact ⟨t2, stp t2 a1, b1⟩
end RowsJ

set_option maxRecDepth 100000 in
set_option maxHeartbeats 4000000 in
theorem jm_coder (l : Launch) (A : Nat → Prop) (q v n : Nat) (f : Nat → Int32) : Met l jy_coder jw_coder { frames := 0, cells := 0, slots := 0, locals := 0 } (jP [.ref q] (fun U => jF A q v n f U U.heap)) (jQ (some (.int 0))) 0 0 (fun _ => False) := by
  refine Met.ofW (cc := jc_coder) (maxL := 1) (ret := (some .byte)) (by decide) rfl ?_
  intro p e s m args below meth c s₁ B hml hv
  obtain ⟨rfl, hF⟩ := hv
  have hx := B.exec
  have hb := B.bytes
  have hr := B.returns
  have hts := atoms_spec (ws := jw_coder) B.pre
  have htr : ∀ w ∈ rWs, w.before _ s = true := fun w hw => hts w (List.mem_cons_of_mem _ hw)
  have htw : ∀ w ∈ jWd, w.before _ s = true := fun w hw => htr w (jWd_ok w hw)
  have hown : s.vm.findClass "java/lang/String" = some m.cls := findClass_of_methodNamed B.named
  have hlocks := B.notSynchronized
  have hS : va_S A s.heap s.heap [] := va_S.rf
  have hl := lv_entry [.ref q] (n := 1) (Nat.le_of_ble_eq_true rfl)
  rw [lg_entry_eq]
  generalize (lg_sl [.ref q] ++ List.replicate (1 - (lg_sl [.ref q]).length) Slot.unset).toArray = ls at hl ⊢
  have hl : lv_has ls 1 [(0, .ref q)] := hl
  refine va_gets hx hb hF.2.2.2.2.1 hS hown (htw _ (List.mem_of_getElem? (i := 8) rfl)) (fun _ h9 => h9) (index := 38) (by decide +kernel) ?_
  refine lv_if_eq (tgt := 13) hx hb (pc := 3) (off := 10) (by decide +kernel) (by decide) (fun h => absurd h (by decide)) (fun _ => ?_)
  refine lv_aload_n hx hb (pc := 6) (k := 0) (by decide +kernel) rfl (lv_at hl 0 rfl) ?_
  refine vk_getf hx hb hF.2.1 hS hown (htw _ (List.mem_of_getElem? (i := 9) rfl)) (fun _ h9 => h9) (index := 15) (by decide +kernel) ?_
  refine lv_goto (tgt := 14) hx hb (off := 4) (by decide +kernel) (by decide) ?_
  exact W.zret (v := 0) hx hb hr rfl (fun t ht hW => ⟨rfl, ht⟩) (fun _ h => nomatch h) (by decide +kernel)

set_option maxRecDepth 100000 in
set_option maxHeartbeats 4000000 in
theorem jm_latin (l : Launch) (A : Nat → Prop) (q v n : Nat) (f : Nat → Int32) : Met l jy_latin jw_latin { frames := 0, cells := 0, slots := 0, locals := 0 } (jP [.ref q] (fun U => jF A q v n f U U.heap)) (jQ (some (.int 1))) 0 0 (fun _ => False) := by
  refine Met.ofW (cc := jc_latin) (maxL := 1) (ret := (some .boolean)) (by decide) rfl ?_
  intro p e s m args below meth c s₁ B hml hv
  obtain ⟨rfl, hF⟩ := hv
  have hx := B.exec
  have hb := B.bytes
  have hr := B.returns
  have hts := atoms_spec (ws := jw_latin) B.pre
  have htr : ∀ w ∈ rWs, w.before _ s = true := fun w hw => hts w (List.mem_cons_of_mem _ hw)
  have htw : ∀ w ∈ jWd, w.before _ s = true := fun w hw => htr w (jWd_ok w hw)
  have hown : s.vm.findClass "java/lang/String" = some m.cls := findClass_of_methodNamed B.named
  have hlocks := B.notSynchronized
  have hS : va_S A s.heap s.heap [] := va_S.rf
  have hl := lv_entry [.ref q] (n := 1) (Nat.le_of_ble_eq_true rfl)
  rw [lg_entry_eq]
  generalize (lg_sl [.ref q] ++ List.replicate (1 - (lg_sl [.ref q]).length) Slot.unset).toArray = ls at hl ⊢
  have hl : lv_has ls 1 [(0, .ref q)] := hl
  refine va_gets hx hb hF.2.2.2.2.1 hS hown (htw _ (List.mem_of_getElem? (i := 8) rfl)) (fun _ h9 => h9) (index := 38) (by decide +kernel) ?_
  refine lv_if_eq (tgt := 17) hx hb (pc := 3) (off := 14) (by decide +kernel) (by decide) (fun h => absurd h (by decide)) (fun _ => ?_)
  refine lv_aload_n hx hb (pc := 6) (k := 0) (by decide +kernel) rfl (lv_at hl 0 rfl) ?_
  refine vk_getf hx hb hF.2.1 hS hown (htw _ (List.mem_of_getElem? (i := 9) rfl)) (fun _ h9 => h9) (index := 15) (by decide +kernel) ?_
  refine lv_if_ne (tgt := 17) hx hb (off := 7) (by decide +kernel) (by decide) (fun h => absurd rfl h) (fun _ => ?_)
  refine lv_iconst (n := 1) (v := 1) hx hb (by decide +kernel) (by decide) ?_
  refine lv_goto (tgt := 18) hx hb (off := 4) (by decide +kernel) (by decide) ?_
  exact W.zret (v := 1) hx hb hr rfl (fun t ht hW => ⟨rfl, ht⟩) (fun _ h => nomatch h) (by decide +kernel)

set_option maxRecDepth 100000 in
set_option maxHeartbeats 4000000 in
theorem jm_length (l : Launch) (A : Nat → Prop) (q v n : Nat) (f : Nat → Int32) : Met l jy_length jw_length { frames := 1, cells := 0, slots := 0, locals := 20 } (jP [.ref q] (fun U => jF A q v n f U U.heap)) (jQ (some (.int (Int32.ofNat n)))) 0 0 (fun _ => False) := by
  refine Met.ofW (cc := jc_length) (maxL := 1) (ret := (some .int)) (by decide) rfl ?_
  intro p e s m args below meth c s₁ B hml hv
  obtain ⟨rfl, hF⟩ := hv
  have hx := B.exec
  have hb := B.bytes
  have hr := B.returns
  have hts := atoms_spec (ws := jw_length) B.pre
  have htr : ∀ w ∈ rWs, w.before _ s = true := fun w hw => hts w (List.mem_cons_of_mem _ hw)
  have htw : ∀ w ∈ jWd, w.before _ s = true := fun w hw => htr w (jWd_ok w hw)
  have hown : s.vm.findClass "java/lang/String" = some m.cls := findClass_of_methodNamed B.named
  have hlocks := B.notSynchronized
  have hS : va_S A s.heap s.heap [] := va_S.rf
  have hl := lv_entry [.ref q] (n := 1) (Nat.le_of_ble_eq_true rfl)
  rw [lg_entry_eq]
  generalize (lg_sl [.ref q] ++ List.replicate (1 - (lg_sl [.ref q]).length) Slot.unset).toArray = ls at hl ⊢
  have hl : lv_has ls 1 [(0, .ref q)] := hl
  refine lv_aload_n hx hb (k := 0) (by decide +kernel) rfl (lv_at hl 0 rfl) ?_
  refine vk_getf hx hb hF.2.2.1 hS hown (htw _ (List.mem_of_getElem? (i := 10) rfl)) (fun _ h9 => h9) (index := 9) (by decide +kernel) ?_
  refine va_tlen hx hb hF.2.2.2.1 hS rfl (by decide +kernel) ?_
  refine lv_aload_n hx hb (k := 0) (by decide +kernel) rfl (lv_at hl 0 rfl) ?_
  have cb := callB_of (R := (headSpec jw_length { frames := 1, cells := 0, slots := 0, locals := 20 }).room) (args := #[.ref q]) (index := 335) (mc := 0) (ms := 0) (ws := jw_coder) (rm := { frames := 0, cells := 0, slots := 0, locals := 0 }) (own := "java/lang/String") 0 hts (jG2 (List.mem_of_getElem? (i := 0) rfl)) rfl rfl rfl (htw _ (List.mem_of_getElem? (i := 16) rfl)) (htw _ (List.mem_of_getElem? (i := 13) rfl)) ⟨by decide, by decide, by decide +kernel⟩ ⟨Nat.le_refl _, Nat.le_refl _⟩
  refine quiet_go (v := some (.int 0)) (va_runV (C := "java/lang/String") (b := q) (As := []) (rest := [.int (Int32.ofNat n)]) ⟨hx, hb, hml, hown, hts⟩ (jm_coder l A q v n f) ⟨cb, (htw _ (List.mem_of_getElem? (i := 14) rfl)), (htw _ (List.mem_of_getElem? (i := 15) rfl))⟩ ⟨jP_blind, hF.1.imp fun _ h => ⟨h.1, h.2.1, h.2.2.1⟩, fun U hU hW => ⟨rfl, by show jF A q v n f U U.heap; rw [hU]; exact jF_moved hW.alike hF⟩⟩ rfl rfl hl.1 rfl (lv_room (Nat.le_of_ble_eq_true rfl)) (show decode jc_length 6 = .ok (.invokevirtual 335, 3) by decide +kernel) ⟨Nat.le_refl _, Nat.le_refl _⟩) ?_
  refine lv_ishr hx hb (by decide +kernel) ?_
  have he : Int32.ofNat n >>> ((0 : Int32) &&& 31) = Int32.ofNat n := by
    have h0 : ((0 : Int32) &&& 31) = 0 := by decide
    rw [h0]
    exact Int32.shiftRight_zero
  rw [he]
  exact W.iret (v := Int32.ofNat n) hx hb hr (fun t ht hW => ⟨rfl, ht⟩) (fun _ h => nomatch h) (by decide +kernel)

set_option maxRecDepth 100000 in
set_option maxHeartbeats 4000000 in
theorem jm_ck3 (l : Launch) (A : Nat → Prop) (i k : Int32)  : Met l jy_ck3 jw_ck3 { frames := 0, cells := 0, slots := 0, locals := 0 } (jP [.int i, .int k, .null] (fun _ => ¬ i < 0 ∧ i < k)) (jQ (some (.int i))) 0 0 (fun _ => False) := by
  refine Met.ofW (cc := jc_ck3) (maxL := 3) (ret := (some .int)) (by decide) rfl ?_
  intro p e s m args below meth c s₁ B hml hv
  obtain ⟨rfl, hF⟩ := hv
  have hx := B.exec
  have hb := B.bytes
  have hr := B.returns
  have hts := atoms_spec (ws := jw_ck3) B.pre
  have htr : ∀ w ∈ rWs, w.before _ s = true := fun w hw => hts w (List.mem_cons_of_mem _ hw)
  have htw : ∀ w ∈ jWd, w.before _ s = true := fun w hw => htr w (jWd_ok w hw)
  have hown : s.vm.findClass "jdk/internal/util/Preconditions" = some m.cls := findClass_of_methodNamed B.named
  have hlocks := B.notSynchronized
  have hS : va_S A s.heap s.heap [] := va_S.rf
  have hl := lv_entry [.int i, .int k, .null] (n := 3) (Nat.le_of_ble_eq_true rfl)
  rw [lg_entry_eq]
  generalize (lg_sl [.int i, .int k, .null] ++ List.replicate (3 - (lg_sl [.int i, .int k, .null]).length) Slot.unset).toArray = ls at hl ⊢
  have hl : lv_has ls 3 [(0, .int i), (1, .int k), (2, .null)] := hl
  refine lv_iload_n hx hb (k := 0) (show decode jc_ck3 0 = .ok (.iload_n 0, 1) by decide +kernel) rfl (lv_at hl 0 rfl) ?_
  refine lv_if_lt (tgt := 9) hx hb (off := 8) (show decode jc_ck3 1 = .ok (.ifCond .lt 8, 3) by decide +kernel) (by decide) (fun h => absurd h hF.1) (fun _ => ?_)
  refine lv_iload_n hx hb (k := 0) (show decode jc_ck3 4 = .ok (.iload_n 0, 1) by decide +kernel) rfl (lv_at hl 0 rfl) ?_
  refine lv_iload_n hx hb (k := 1) (show decode jc_ck3 5 = .ok (.iload_n 1, 1) by decide +kernel) rfl (lv_at hl 1 rfl) ?_
  refine lv_icmp_lt (tgt := 16) hx hb (off := 10) (show decode jc_ck3 6 = .ok (.if_icmp .lt 10, 3) by decide +kernel) (by decide) (fun _ => ?_) (fun h => absurd hF.2 h)
  refine lv_iload_n hx hb (k := 0) (show decode jc_ck3 16 = .ok (.iload_n 0, 1) by decide +kernel) rfl (lv_at hl 0 rfl) ?_
  exact W.iret (v := i) hx hb hr (fun t ht hW => ⟨rfl, ht⟩) (fun _ h => nomatch h) (show decode jc_ck3 17 = .ok (.ireturn, 1) by decide +kernel)

set_option maxRecDepth 100000 in
set_option maxHeartbeats 4000000 in
theorem jm_ck3r (l : Launch) (A : Nat → Prop) (i k : Int32) (t9 : Nat) : Met l jy_ck3 jw_ck3 { frames := 0, cells := 0, slots := 0, locals := 0 } (jP [.int i, .int k, .ref t9] (fun _ => ¬ i < 0 ∧ i < k)) (jQ (some (.int i))) 0 0 (fun _ => False) := by
  refine Met.ofW (cc := jc_ck3) (maxL := 3) (ret := (some .int)) (by decide) rfl ?_
  intro p e s m args below meth c s₁ B hml hv
  obtain ⟨rfl, hF⟩ := hv
  have hx := B.exec
  have hb := B.bytes
  have hr := B.returns
  have hts := atoms_spec (ws := jw_ck3) B.pre
  have htr : ∀ w ∈ rWs, w.before _ s = true := fun w hw => hts w (List.mem_cons_of_mem _ hw)
  have htw : ∀ w ∈ jWd, w.before _ s = true := fun w hw => htr w (jWd_ok w hw)
  have hown : s.vm.findClass "jdk/internal/util/Preconditions" = some m.cls := findClass_of_methodNamed B.named
  have hlocks := B.notSynchronized
  have hS : va_S A s.heap s.heap [] := va_S.rf
  have hl := lv_entry [.int i, .int k, .ref t9] (n := 3) (Nat.le_of_ble_eq_true rfl)
  rw [lg_entry_eq]
  generalize (lg_sl [.int i, .int k, .ref t9] ++ List.replicate (3 - (lg_sl [.int i, .int k, .ref t9]).length) Slot.unset).toArray = ls at hl ⊢
  have hl : lv_has ls 3 [(0, .int i), (1, .int k), (2, .ref t9)] := hl
  refine lv_iload_n hx hb (k := 0) (show decode jc_ck3 0 = .ok (.iload_n 0, 1) by decide +kernel) rfl (lv_at hl 0 rfl) ?_
  refine lv_if_lt (tgt := 9) hx hb (off := 8) (show decode jc_ck3 1 = .ok (.ifCond .lt 8, 3) by decide +kernel) (by decide) (fun h => absurd h hF.1) (fun _ => ?_)
  refine lv_iload_n hx hb (k := 0) (show decode jc_ck3 4 = .ok (.iload_n 0, 1) by decide +kernel) rfl (lv_at hl 0 rfl) ?_
  refine lv_iload_n hx hb (k := 1) (show decode jc_ck3 5 = .ok (.iload_n 1, 1) by decide +kernel) rfl (lv_at hl 1 rfl) ?_
  refine lv_icmp_lt (tgt := 16) hx hb (off := 10) (show decode jc_ck3 6 = .ok (.if_icmp .lt 10, 3) by decide +kernel) (by decide) (fun _ => ?_) (fun h => absurd hF.2 h)
  refine lv_iload_n hx hb (k := 0) (show decode jc_ck3 16 = .ok (.iload_n 0, 1) by decide +kernel) rfl (lv_at hl 0 rfl) ?_
  exact W.iret (v := i) hx hb hr (fun t ht hW => ⟨rfl, ht⟩) (fun _ h => nomatch h) (show decode jc_ck3 17 = .ok (.ireturn, 1) by decide +kernel)

theorem jP_blind2 {As : List Value} {A : Nat → Prop} {q v n : Nat} {f : Nat → Int32} {Pr : Prop} : FrameBlind (jP As (fun U => jF A q v n f U U.heap ∧ Pr)) := fun a U g mk h => ⟨h.1, jF_moved (u := U) (U := U.calling g mk a) (Vm.Alike.refl U.vm) h.2.1, h.2.2⟩
theorem jP_blind3 {As : List Value} {Pr : Prop} : FrameBlind (jP As (fun _ => Pr)) := fun a U g mk h => h
set_option maxRecDepth 100000 in
set_option maxHeartbeats 4000000 in
theorem jm_ck (l : Launch) (A : Nat → Prop) (q v n : Nat) (f : Nat → Int32) (i k : Int32) : Met l jy_ck jw_ck { frames := 1, cells := 0, slots := 0, locals := 22 } (jP [.int i, .int k] (fun U => jF A q v n f U U.heap ∧ (¬ i < 0 ∧ i < k))) (jQ none) 0 0 (fun _ => False) := by
  refine Met.ofW (cc := jc_ck) (maxL := 2) (ret := none) (by decide) rfl ?_
  intro p e s m args below meth c s₁ B hml hv
  obtain ⟨rfl, hF⟩ := hv
  have hx := B.exec
  have hb := B.bytes
  have hr := B.returns
  have hts := atoms_spec (ws := jw_ck) B.pre
  have htr : ∀ w ∈ rWs, w.before _ s = true := fun w hw => hts w (List.mem_cons_of_mem _ hw)
  have htw : ∀ w ∈ jWd, w.before _ s = true := fun w hw => htr w (jWd_ok w hw)
  have hown : s.vm.findClass "java/lang/String" = some m.cls := findClass_of_methodNamed B.named
  have hlocks := B.notSynchronized
  have hS : va_S A s.heap s.heap [] := va_S.rf
  have hl := lv_entry [.int i, .int k] (n := 2) (Nat.le_of_ble_eq_true rfl)
  rw [lg_entry_eq]
  generalize (lg_sl [.int i, .int k] ++ List.replicate (2 - (lg_sl [.int i, .int k]).length) Slot.unset).toArray = ls at hl ⊢
  have hl : lv_has ls 2 [(0, .int i), (1, .int k)] := hl
  refine lv_iload_n hx hb (k := 0) (show decode jc_ck 0 = .ok (.iload_n 0, 1) by decide +kernel) rfl (lv_at hl 0 rfl) ?_
  refine lv_iload_n hx hb (k := 1) (show decode jc_ck 1 = .ok (.iload_n 1, 1) by decide +kernel) rfl (lv_at hl 1 rfl) ?_
  have cb := callB_of (R := (headSpec jw_ck { frames := 1, cells := 0, slots := 0, locals := 22 }).room) (args := #[.int i, .int k]) (index := 1059) (mc := 0) (ms := 0) (ws := jw_ck3) (rm := { frames := 0, cells := 0, slots := 0, locals := 0 }) (own := "java/lang/String") 3 hts (jG2 (List.mem_of_getElem? (i := 6) rfl)) rfl rfl rfl (htw _ (List.mem_of_getElem? (i := 27) rfl)) (htw _ (List.mem_of_getElem? (i := 25) rfl)) ⟨by decide, by decide, by decide +kernel⟩ ⟨Nat.le_of_ble_eq_true rfl, Nat.le_of_ble_eq_true rfl⟩
  rcases hF.1.2.2.2.2.2 with hz | ⟨t9, hz⟩
  · refine va_gets hx hb hz hS hown (htw _ (List.mem_of_getElem? (i := 11) rfl)) (fun _ h9 => h9) (index := 1053) (show decode jc_ck 2 = .ok (.getstatic 1053, 3) by decide +kernel) ?_
    refine quiet_go (v := some (.int i)) (va_runS (As := [.int i, .int k, .null]) (rest := []) ⟨hx, hb, hml, hown, hts⟩ (jm_ck3 l A i k) ⟨cb, (htw _ (List.mem_of_getElem? (i := 26) rfl))⟩ ⟨jP_blind3, fun U hU hW => ⟨rfl, hF.2⟩⟩ rfl rfl hl.1 rfl (lv_room (Nat.le_of_ble_eq_true rfl)) (show decode jc_ck 5 = .ok (.invokestatic 1059, 3) by decide +kernel) ⟨Nat.le_refl _, Nat.le_refl _⟩) ?_
    refine lv_pop hx hb (show decode jc_ck 8 = .ok (.pop, 1) by decide +kernel) rfl ?_
    exact W.vret hx hb hr (fun t ht hW => ⟨rfl, ht⟩) (fun _ h => nomatch h) (show decode jc_ck 9 = .ok (.return_, 1) by decide +kernel)
  · refine va_gets hx hb hz hS hown (htw _ (List.mem_of_getElem? (i := 11) rfl)) (fun _ h9 => h9) (index := 1053) (show decode jc_ck 2 = .ok (.getstatic 1053, 3) by decide +kernel) ?_
    refine quiet_go (v := some (.int i)) (va_runS (As := [.int i, .int k, .ref t9]) (rest := []) ⟨hx, hb, hml, hown, hts⟩ (jm_ck3r l A i k t9) ⟨cb, (htw _ (List.mem_of_getElem? (i := 26) rfl))⟩ ⟨jP_blind3, fun U hU hW => ⟨rfl, hF.2⟩⟩ rfl rfl hl.1 rfl (lv_room (Nat.le_of_ble_eq_true rfl)) (show decode jc_ck 5 = .ok (.invokestatic 1059, 3) by decide +kernel) ⟨Nat.le_refl _, Nat.le_refl _⟩) ?_
    refine lv_pop hx hb (show decode jc_ck 8 = .ok (.pop, 1) by decide +kernel) rfl ?_
    exact W.vret hx hb hr (fun t ht hW => ⟨rfl, ht⟩) (fun _ h => nomatch h) (show decode jc_ck 9 = .ok (.return_, 1) by decide +kernel)

set_option maxRecDepth 100000 in
set_option maxHeartbeats 4000000 in
theorem jm_l1 (l : Launch) (A : Nat → Prop) (q v n : Nat) (f : Nat → Int32) (k r : Int32) : Met l jy_l1 jw_l1 { frames := 2, cells := 0, slots := 0, locals := 43 } (jP [.ref v, .int k] (fun U => jF A q v n f U U.heap ∧ ((¬ k < 0 ∧ k < Int32.ofNat n) ∧ vp_in k n ∧ ((f k.toNatClampNeg &&& 255).toUInt32 % 65536).toInt32 = r ∧ narrow .char (.int r) = .int r))) (jQ (some (.int r))) 0 0 (fun _ => False) := by
  refine Met.ofW (cc := jc_l1) (maxL := 2) (ret := (some .char)) (by decide) rfl ?_
  intro p e s m args below meth c s₁ B hml hv
  obtain ⟨rfl, hF⟩ := hv
  have hx := B.exec
  have hb := B.bytes
  have hr := B.returns
  have hts := atoms_spec (ws := jw_l1) B.pre
  have htr : ∀ w ∈ rWs, w.before _ s = true := fun w hw => hts w (List.mem_cons_of_mem _ hw)
  have htw : ∀ w ∈ jWd, w.before _ s = true := fun w hw => htr w (jWd_ok w hw)
  have hown : s.vm.findClass "java/lang/StringLatin1" = some m.cls := findClass_of_methodNamed B.named
  have hlocks := B.notSynchronized
  have hS : va_S A s.heap s.heap [] := va_S.rf
  have hl := lv_entry [.ref v, .int k] (n := 2) (Nat.le_of_ble_eq_true rfl)
  rw [lg_entry_eq]
  generalize (lg_sl [.ref v, .int k] ++ List.replicate (2 - (lg_sl [.ref v, .int k]).length) Slot.unset).toArray = ls at hl ⊢
  have hl : lv_has ls 2 [(0, .ref v), (1, .int k)] := hl
  refine lv_iload_n hx hb (k := 1) (show decode jc_l1 0 = .ok (.iload_n 1, 1) by decide +kernel) rfl (lv_at hl 1 rfl) ?_
  refine lv_aload_n hx hb (k := 0) (show decode jc_l1 1 = .ok (.aload_n 0, 1) by decide +kernel) rfl (lv_at hl 0 rfl) ?_
  refine va_tlen hx hb hF.1.2.2.2.1 hS rfl (show decode jc_l1 2 = .ok (.arraylength, 1) by decide +kernel) ?_
  have cb := callB_of (R := (headSpec jw_l1 { frames := 2, cells := 0, slots := 0, locals := 43 }).room) (args := #[.ref v, .int k]) (index := 9) (mc := 0) (ms := 0) (ws := jw_ck) (rm := { frames := 1, cells := 0, slots := 0, locals := 22 }) (own := "java/lang/StringLatin1") 2 hts (jG2 (List.mem_of_getElem? (i := 3) rfl)) rfl rfl rfl (htw _ (List.mem_of_getElem? (i := 16) rfl)) (htw _ (List.mem_of_getElem? (i := 23) rfl)) ⟨by decide, by decide, by decide +kernel⟩ ⟨Nat.le_of_ble_eq_true rfl, Nat.le_of_ble_eq_true rfl⟩
  refine quiet_go (v := none) (va_runS (As := [.int k, .int (Int32.ofNat n)]) (rest := []) ⟨hx, hb, hml, hown, hts⟩ (jm_ck l A q v n f k (Int32.ofNat n)) ⟨cb, (htw _ (List.mem_of_getElem? (i := 24) rfl))⟩ ⟨jP_blind2, fun U hU hW => ⟨rfl, by show jF A q v n f U U.heap; rw [hU]; exact jF_moved hW.alike hF.1, hF.2.1⟩⟩ rfl rfl hl.1 rfl (lv_room (Nat.le_of_ble_eq_true rfl)) (show decode jc_l1 3 = .ok (.invokestatic 9, 3) by decide +kernel) ⟨Nat.le_refl _, Nat.le_refl _⟩) ?_
  refine lv_aload_n hx hb (k := 0) (show decode jc_l1 6 = .ok (.aload_n 0, 1) by decide +kernel) rfl (lv_at hl 0 rfl) ?_
  refine lv_iload_n hx hb (k := 1) (show decode jc_l1 7 = .ok (.iload_n 1, 1) by decide +kernel) rfl (lv_at hl 1 rfl) ?_
  refine va_tb hx hb hF.1.2.2.2.1 hS hF.2.2.1 rfl (show decode jc_l1 8 = .ok (.baload, 1) by decide +kernel) ?_
  refine lv_sipush (v := 255) hx hb (show decode jc_l1 9 = .ok (.sipush 255, 3) by decide +kernel) (by decide) ?_
  refine lv_iand hx hb (show decode jc_l1 12 = .ok (.iand, 1) by decide +kernel) ?_
  refine lv_i2c (v := r) hx hb (show decode jc_l1 13 = .ok (.i2c, 1) by decide +kernel) hF.2.2.2.1 ?_
  exact W.zret (v := r) hx hb hr hF.2.2.2.2 (fun t ht hW => ⟨rfl, ht⟩) (fun _ h => nomatch h) (show decode jc_l1 14 = .ok (.ireturn, 1) by decide +kernel)

set_option maxRecDepth 100000 in
set_option maxHeartbeats 4000000 in
theorem jm_charAt (l : Launch) (A : Nat → Prop) (q v n : Nat) (f : Nat → Int32) (k r : Int32) : Met l jy_charAt jw_charAt { frames := 3, cells := 0, slots := 0, locals := 64 } (jP [.ref q, .int k] (fun U => jF A q v n f U U.heap ∧ ((¬ k < 0 ∧ k < Int32.ofNat n) ∧ vp_in k n ∧ ((f k.toNatClampNeg &&& 255).toUInt32 % 65536).toInt32 = r ∧ narrow .char (.int r) = .int r))) (jQ (some (.int r))) 0 0 (fun _ => False) := by
  refine Met.ofW (cc := jc_charAt) (maxL := 2) (ret := (some .char)) (by decide) rfl ?_
  intro p e s m args below meth c s₁ B hml hv
  obtain ⟨rfl, hF⟩ := hv
  have hx := B.exec
  have hb := B.bytes
  have hr := B.returns
  have hts := atoms_spec (ws := jw_charAt) B.pre
  have htr : ∀ w ∈ rWs, w.before _ s = true := fun w hw => hts w (List.mem_cons_of_mem _ hw)
  have htw : ∀ w ∈ jWd, w.before _ s = true := fun w hw => htr w (jWd_ok w hw)
  have hown : s.vm.findClass "java/lang/String" = some m.cls := findClass_of_methodNamed B.named
  have hlocks := B.notSynchronized
  have hS : va_S A s.heap s.heap [] := va_S.rf
  have hl := lv_entry [.ref q, .int k] (n := 2) (Nat.le_of_ble_eq_true rfl)
  rw [lg_entry_eq]
  generalize (lg_sl [.ref q, .int k] ++ List.replicate (2 - (lg_sl [.ref q, .int k]).length) Slot.unset).toArray = ls at hl ⊢
  have hl : lv_has ls 2 [(0, .ref q), (1, .int k)] := hl
  refine lv_aload_n hx hb (k := 0) (show decode jc_charAt 0 = .ok (.aload_n 0, 1) by decide +kernel) rfl (lv_at hl 0 rfl) ?_
  have cb := callB_of (R := (headSpec jw_charAt { frames := 3, cells := 0, slots := 0, locals := 64 }).room) (args := #[.ref q, .int k]) (index := 492) (mc := 0) (ms := 0) (ws := jw_latin) (rm := { frames := 0, cells := 0, slots := 0, locals := 0 }) (own := "java/lang/String") 0 hts (jG2 (List.mem_of_getElem? (i := 2) rfl)) rfl rfl rfl (htw _ (List.mem_of_getElem? (i := 16) rfl)) (htw _ (List.mem_of_getElem? (i := 17) rfl)) ⟨by decide, by decide, by decide +kernel⟩ ⟨Nat.le_of_ble_eq_true rfl, Nat.le_of_ble_eq_true rfl⟩
  refine quiet_go (v := some (.int 1)) (va_runV (C := "java/lang/String") (b := q) (As := []) (rest := []) ⟨hx, hb, hml, hown, hts⟩ (jm_latin l A q v n f) ⟨cb, (htw _ (List.mem_of_getElem? (i := 18) rfl)), (htw _ (List.mem_of_getElem? (i := 19) rfl))⟩ ⟨jP_blind, hF.1.1.imp fun _ h => ⟨h.1, h.2.1, h.2.2.1⟩, fun U hU hW => ⟨rfl, by show jF A q v n f U U.heap; rw [hU]; exact jF_moved hW.alike hF.1⟩⟩ rfl rfl hl.1 rfl (lv_room (Nat.le_of_ble_eq_true rfl)) (show decode jc_charAt 1 = .ok (.invokevirtual 492, 3) by decide +kernel) ⟨Nat.le_refl _, Nat.le_refl _⟩) ?_
  refine lv_if_eq (tgt := 16) hx hb (off := 12) (show decode jc_charAt 4 = .ok (.ifCond .eq 12, 3) by decide +kernel) (by decide) (fun h => absurd h (by decide)) (fun _ => ?_)
  refine lv_aload_n hx hb (k := 0) (show decode jc_charAt 7 = .ok (.aload_n 0, 1) by decide +kernel) rfl (lv_at hl 0 rfl) ?_
  refine vk_getf hx hb hF.1.2.2.1 hS hown (htw _ (List.mem_of_getElem? (i := 10) rfl)) (fun _ h9 => h9) (index := 9) (show decode jc_charAt 8 = .ok (.getfield 9, 3) by decide +kernel) ?_
  refine lv_iload_n hx hb (k := 1) (show decode jc_charAt 11 = .ok (.iload_n 1, 1) by decide +kernel) rfl (lv_at hl 1 rfl) ?_
  have cb := callB_of (R := (headSpec jw_charAt { frames := 3, cells := 0, slots := 0, locals := 64 }).room) (args := #[.ref q, .int k]) (index := 495) (mc := 0) (ms := 0) (ws := jw_l1) (rm := { frames := 2, cells := 0, slots := 0, locals := 43 }) (own := "java/lang/String") 2 hts (jG2 (List.mem_of_getElem? (i := 5) rfl)) rfl rfl rfl (htw _ (List.mem_of_getElem? (i := 22) rfl)) (htw _ (List.mem_of_getElem? (i := 20) rfl)) ⟨by decide, by decide, by decide +kernel⟩ ⟨Nat.le_of_ble_eq_true rfl, Nat.le_of_ble_eq_true rfl⟩
  refine quiet_go (v := some (.int r)) (va_runS (As := [.ref v, .int k]) (rest := []) ⟨hx, hb, hml, hown, hts⟩ (jm_l1 l A q v n f k r) ⟨cb, (htw _ (List.mem_of_getElem? (i := 21) rfl))⟩ ⟨jP_blind2, fun U hU hW => ⟨rfl, by show jF A q v n f U U.heap; rw [hU]; exact jF_moved hW.alike hF.1, hF.2⟩⟩ rfl rfl hl.1 rfl (lv_room (Nat.le_of_ble_eq_true rfl)) (show decode jc_charAt 12 = .ok (.invokestatic 495, 3) by decide +kernel) ⟨Nat.le_refl _, Nat.le_refl _⟩) ?_
  exact W.zret (v := r) hx hb hr hF.2.2.2.2 (fun t ht hW => ⟨rfl, ht⟩) (fun _ h => nomatch h) (show decode jc_charAt 15 = .ok (.ireturn, 1) by decide +kernel)

set_option maxRecDepth 100000 in
set_option maxHeartbeats 4000000 in
theorem jm_ord (l : Launch) (A : Nat → Prop) (q : Nat) (r : Int32) : Met l jy_ord jw_ord { frames := 0, cells := 0, slots := 0, locals := 0 } (jP [.ref q] (fun U => va_OF "java/lang/Enum" "ordinal" "I" (.int r) q A U U.heap)) (jQ (some (.int r))) 0 0 (fun _ => False) := by
  refine Met.ofW (cc := jc_ord) (maxL := 1) (ret := (some .int)) (by decide) rfl ?_
  intro p e s m args below meth c s₁ B hml hv
  obtain ⟨rfl, hF⟩ := hv
  have hx := B.exec
  have hb := B.bytes
  have hr := B.returns
  have hts := atoms_spec (ws := jw_ord) B.pre
  have htr : ∀ w ∈ rWs, w.before _ s = true := fun w hw => hts w (List.mem_cons_of_mem _ hw)
  have htw : ∀ w ∈ jWd, w.before _ s = true := fun w hw => htr w (jWd_ok w hw)
  have hown : s.vm.findClass "java/lang/Enum" = some m.cls := findClass_of_methodNamed B.named
  have hlocks := B.notSynchronized
  have hS : va_S A s.heap s.heap [] := va_S.rf
  have hl := lv_entry [.ref q] (n := 1) (Nat.le_of_ble_eq_true rfl)
  rw [lg_entry_eq]
  generalize (lg_sl [.ref q] ++ List.replicate (1 - (lg_sl [.ref q]).length) Slot.unset).toArray = ls at hl ⊢
  have hl : lv_has ls 1 [(0, .ref q)] := hl
  refine lv_aload_n hx hb (k := 0) (show decode jc_ord 0 = .ok (.aload_n 0, 1) by decide +kernel) rfl (lv_at hl 0 rfl) ?_
  refine vk_getf hx hb hF hS hown (htw _ (List.mem_of_getElem? (i := 12) rfl)) (fun _ h9 => h9) (index := 7) (show decode jc_ord 1 = .ok (.getfield 7, 3) by decide +kernel) ?_
  exact W.iret (v := r) hx hb hr (fun t ht hW => ⟨rfl, ht⟩) (fun _ h => nomatch h) (show decode jc_ord 4 = .ok (.ireturn, 1) by decide +kernel)
