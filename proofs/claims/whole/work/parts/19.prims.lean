/-! ===== Object(), arraycopy, length, charAt, ordinal ===== -/
theorem res_P {K i a b : Nat} {own : String} (h : rLk rMt K i a b = true) (hK : rKn[K]? = some own) : (a = 10 → Jvm.Cond.methodLink own i Lib.objectInit ∈ rWs) ∧ (a = 11 → Jvm.Cond.methodLink own i arraycopyName ∈ rWs) ∧ (a = 12 → Jvm.Cond.methodLink own i jy_length ∈ rWs) ∧ (a = 13 → Jvm.Cond.methodLink own i jy_charAt ∈ rWs) ∧ (a = 14 → Jvm.Cond.methodLink own i jx_ord ∈ rWs) ∧ (a = 15 → Jvm.Cond.methodLink own i Lib.Math.min.name ∈ rWs) ∧ (a = 16 → Jvm.Cond.methodLink own i Lib.Math.max.name ∈ rWs) := by
  obtain ⟨w, hw⟩ := rLk_mem h
  have h2 := List.all_eq_true.mp rMt_ok _ hw
  unfold rOkM at h2
  dsimp only at h2
  rw [hK] at h2
  refine ⟨?_, ?_, ?_, ?_, ?_, ?_, ?_⟩ <;> intro ha <;> subst ha <;> exact rIn_mem h2
set_option maxRecDepth 100000 in
theorem rPw_ok : Jvm.Cond.instanceMethod Lib.objectInit ∈ rWs ∧ Jvm.Cond.code Lib.objectInit ⟨#[0xb1]⟩ 1 none ∈ rWs ∧ Jvm.Cond.native arraycopyName ∈ rWs ∧ Jvm.Cond.static arraycopyName ∈ rWs ∧ Jvm.Cond.initialized "java/lang/System" ∈ rWs := by decide +kernel
set_option maxRecDepth 100000 in
theorem rMw_ok : Jvm.Cond.static Lib.Math.min.name ∈ rWs ∧ Jvm.Cond.static Lib.Math.max.name ∈ rWs ∧ Jvm.Cond.initialized "java/lang/Math" ∈ rWs ∧ Jvm.Cond.code Lib.Math.min.name Lib.Math.min.code 2 (some .int) ∈ rWs ∧ Jvm.Cond.code Lib.Math.max.name Lib.Math.max.code 2 (some .int) ∈ rWs := by decide +kernel
theorem rTx_small : ∀ l ∈ rTx, l.length < 16 ∧ ∀ c ∈ l, c < 128 := by decide +kernel
theorem ch_ok : ∀ c, c < 128 → (((Int32.ofNat c &&& 255).toUInt32 % 65536).toInt32 = Int32.ofNat c ∧ narrow .char (.int (Int32.ofNat c)) = .int (Int32.ofNat c)) := by decide +kernel
theorem rTxt_ok {y : Nat} {l : List Nat} (h : rTxt y = some l) : 10 ≤ y ∧ y - 10 < rTx.length ∧ rTx.getD (y - 10) [] = l ∧ l ∈ rTx := by
  unfold rTxt at h
  split at h
  next => cases h
  next hy => exact ⟨by omega, (List.getElem?_eq_some_iff.mp h).1, by rw [List.getD_eq_getElem?_getD, h]; rfl, List.mem_of_getElem? h⟩
theorem rTxt_jF {base y : Nat} {ad : Nat → Nat} {l : List Nat} {U : State} {H : Heap} (h : rTxt y = some l) (hC : rCs base ad U H) : ∃ v, jF (rA base) (ad y) v l.length (fun j => Int32.ofNat (l.getD j 0)) U H := by
  obtain ⟨h10, hlt, hl, -⟩ := rTxt_ok h
  obtain ⟨a1, a2, v, a3, a4⟩ := hC.1 (y - 10) hlt
  rw [hl] at a4
  rw [show 10 + (y - 10) = y by omega] at a1 a2 a3
  exact ⟨v, a1, a2, a3, a4, hC.2.1, hC.2.2⟩
section RowsP
variable {p : Program} {l : Launch} {e : Env} {R : Room} {s : State} {m : MethodId} {args : Array Value} {below : List Frame} {meth : Method} {c : Code} {H : Heap} {locs : List Loc} {cells slots : Nat} {Q : State → Prop}
variable {cc : ByteArray} {D : va_G} {base nL pc : Nat} {ad : Nat → Nat} {ls : Array Slot} {L : rLoc} {st : List Value} {M : rMem}

theorem ok_Prm {a b idx : Nat} {r : rRow} {x : rNx} (hx : p.tables.exec = Jvm.exec) (hb : c.code = cc) (hml : c.maxLocals = nL) (hown : s.vm.findClass r.1.cls = some m.cls) (hKn : rKn[rKj r]? = some r.1.cls)
    (hts : ∀ w ∈ rWs, w.before args s = true) (hC : rCn base ad s s.heap) (hb0 : base ≤ s.heap.size) (F : rF D base ad nL ls L st M s H locs)
    (hI : (a = 10 ∧ decode cc pc = .ok (.invokespecial idx, 3)) ∨ ((a = 11 ∨ a = 15 ∨ a = 16) ∧ decode cc pc = .ok (.invokestatic idx, 3)) ∨ ((a = 12 ∨ a = 13 ∨ a = 14) ∧ decode cc pc = .ok (.invokevirtual idx, 3)))
    (hlk : rLk rMt (rKj r) idx a b = true) (hRf : 10 ≤ R.frames) (hRl : 400 ≤ R.locals) (hsum : (st.map (fun v => v.category)).sum ≤ 8) (hcell : cells ≤ R.cells) (hslot : slots ≤ R.slots) (h : rPrm a (pc + 3) L st M = some x) (k : rKon p l e R s m args below meth c Q D base nL ad M cells slots x) : W p l e R s m args below meth c H locs cells slots Q (F0 m pc ls (st.map (rv ad))) := by
  obtain ⟨p10, p11, p12, p13, p14, p15, p16⟩ := res_P hlk hKn
  have S : CallFix p m c cc nL s args rWs r.1.cls := ⟨hx, hb, hml, hown, hts⟩
  have hsz : ls.size = nL := F.1.1.1
  have hcat : ∀ vs : List Value, ((vs.map (rv ad)).map (fun v => v.category)).sum = (vs.map (fun v => v.category)).sum := fun vs => by
    rw [List.map_map, show ((fun v : Value => v.category) ∘ rv ad) = (fun v => v.category) from funext fun v => rv_cat]
  unfold rPrm at h
  split at h
  next =>
    have hd : decode cc pc = .ok (.invokespecial idx, 3) := by rcases hI with h | h | h <;> first | exact h.2 | omega
    split at h
    next y rs =>
      cases h
      rw [List.map_cons, List.sum_cons] at hsum
      refine W.objInit hx hb hown (hts _ (p10 rfl)) (hts _ rPw_ok.1) (hts _ rPw_ok.2.1) (a := ad y) (rest := rs.map (rv ad)) rfl (by show ls.size = _; rw [hsz, hml]) rfl hd (by omega) (by
        have := hcat rs
        show 2 * 0 + _ + 12 ≤ _
        omega) ?_
      exact kon_same (st' := rs) F (rF_tl F) k
    next => cases h
  next =>
    have hd : decode cc pc = .ok (.invokestatic idx, 3) := by rcases hI with h | h | h <;> first | exact h.2 | omega
    split at h
    next n dp y sp z rs =>
      split at h
      next t n0 f t2 n1 g hMz hMy =>
        split at h
        next hc =>
          obtain ⟨rfl, rfl, h1, h2, h3, h4, h5⟩ := hc
          cases h
          obtain ⟨ws, tys, k1, e1, hP, hD, hK, hk1, ⟨cA, htm, rfl⟩, hco, hal, hset⟩ := Rp_at F.2.2.1 hMy
          obtain ⟨k0, e0, hk0, cB, htm0, rfl⟩ := hal z _ hMz
          obtain ⟨t1, ht1⟩ := List.getElem?_of_mem htm
          obtain ⟨t0, ht0⟩ := List.getElem?_of_mem htm0
          have hnw : nativeFrameWords "java/lang/System" "arraycopy" 5 ≤ 100 := by decide +kernel
          have htl : ∀ w ∈ rs, vok M.1 w := fun w hw => F.2.1 w (List.mem_cons_of_mem _ (List.mem_cons_of_mem _ (List.mem_cons_of_mem _ (List.mem_cons_of_mem _ (List.mem_cons_of_mem _ hw)))))
          simp only [List.map_cons, List.sum_cons] at hsum
          exact va_copyi (ty := .int) (rest := rs.map (rv ad)) hx hb (hml.trans hsz.symm) hown (hts _ (p11 rfl)) (hts _ rPw_ok.2.2.1) (hts _ rPw_ok.2.2.2.1) (hts _ rPw_ok.2.2.2.2) hK hP hD F.2.2.2 k0 k1 t0 t1 hk0 hk1 ht0 ht1 rfl h1 h2 h3 h4 h5 (fun i hi => rfl) (by omega) (by rw [hcat]; omega) hd
            (fun H1 locs1 hP1 hD1 hS1 => kon_mem (st' := rs) (M' := rSet M y (.inl (0, (n1, .inl (va_cpy f g sp.toNatClampNeg dp.toNatClampNeg n.toNatClampNeg))))) F htl rfl (hset H1 (.inl (0, (n1, .inl (va_cpy f g sp.toNatClampNeg dp.toNatClampNeg n.toNatClampNeg)))) _ hP1 hD1 ⟨cA, htm, rfl⟩ trivial (Nat.le_trans hb0 hS1.1)) hS1 k)
        next => cases h
      next => cases h
    next => cases h
  next =>
    have hd : decode cc pc = .ok (.invokevirtual idx, 3) := by rcases hI with h | h | h <;> first | exact h.2 | omega
    split at h
    next y rs =>
      split at h
      next l9 hl9 =>
        cases h
        obtain ⟨v, hF⟩ := rTxt_jF hl9 hC.2.2.1
        rw [List.map_cons, List.sum_cons] at hsum
        have hsr : ((rs.map (rv ad)).map (fun v => v.category)).sum ≤ 8 := by rw [hcat]; omega
        have cb := callB_of (R := R) (index := idx) (mc := 0) (ms := 0) (ws := jw_length) (rm := { frames := 1, cells := 0, slots := 0, locals := 20 }) 0 hts (jG (List.mem_of_getElem? (i := 1) rfl)) rfl rfl rfl (hts _ (jWd_ok _ (List.mem_of_getElem? (i := 16) rfl))) (hts _ (p12 rfl)) ⟨by decide, by decide, by decide +kernel⟩ ⟨by show 1 + 1 ≤ _; omega, by show 8 + (1 + 11) + 20 ≤ _; omega⟩
        have hK := jF_kept F.2.2.2.2.1 hF
        refine quiet_go (v := some (.int (Int32.ofNat l9.length))) (rest := rs.map (rv ad)) (va_runV (C := "java/lang/String") (b := ad y) (As := []) (rest := rs.map (rv ad)) S (jm_length l (rA base) (ad y) v l9.length _) ⟨cb, hts _ (jWd_ok _ (List.mem_of_getElem? (i := 28) rfl)), hts _ (jWd_ok _ (List.mem_of_getElem? (i := 29) rfl))⟩ ⟨jP_blind, hK.1.imp fun _ h => ⟨h.1, h.2.1, h.2.2.1⟩, fun U hU hW => ⟨rfl, by show jF _ _ _ _ _ U U.heap; rw [hU]; exact jF_moved hW.alike hK⟩⟩ rfl rfl hsz rfl (lv_room hsr) hd ⟨hcell, hslot⟩) ?_
        exact kon_same (st' := .int _ :: rs) F (List.forall_mem_cons.mpr ⟨trivial, rF_tl F⟩) k
      next => cases h
    next => cases h
  next =>
    have hd : decode cc pc = .ok (.invokevirtual idx, 3) := by rcases hI with h | h | h <;> first | exact h.2 | omega
    split at h
    next i y rs =>
      split at h
      next l9 hl9 =>
        split at h
        next => cases h
        next hin =>
          cases h
          obtain ⟨v, hF⟩ := rTxt_jF hl9 hC.2.2.1
          obtain ⟨-, -, -, hmem⟩ := rTxt_ok hl9
          obtain ⟨hsm, hch⟩ := rTx_small l9 hmem
          simp only [List.map_cons, List.sum_cons] at hsum
          have hsr : ((rs.map (rv ad)).map (fun v => v.category)).sum ≤ 8 := by rw [hcat]; omega
          have hlt : i.toNatClampNeg < l9.length := Nat.not_le.mp fun z => hin (Or.inr z)
          have hi0 : ¬ i < 0 := fun z => hin (Or.inl z)
          have hcl : l9.getD i.toNatClampNeg 0 < 128 := by
            rw [List.getD_eq_getElem?_getD, List.getElem?_eq_getElem hlt]
            exact hch _ (List.getElem_mem hlt)
          obtain ⟨c1, c2⟩ := ch_ok _ hcl
          have hik : i < Int32.ofNat l9.length := by
            obtain ⟨j, hj, hij⟩ := vp_in_of (x := i) (n := l9.length) hin (by omega)
            rw [hij]
            exact nI_lt hj (by omega)
          have cb := callB_of (R := R) (index := idx) (mc := 0) (ms := 0) (ws := jw_charAt) (rm := { frames := 3, cells := 0, slots := 0, locals := 64 }) 1 hts (jG (List.mem_of_getElem? (i := 4) rfl)) rfl rfl rfl (hts _ (jWd_ok _ (List.mem_of_getElem? (i := 16) rfl))) (hts _ (p13 rfl)) ⟨by decide, by decide, by decide +kernel⟩ ⟨by show 3 + 1 ≤ _; omega, by show 8 + (2 + 11) + 64 ≤ _; omega⟩
          have hK := jF_kept F.2.2.2.2.1 hF
          refine quiet_go (v := some (.int (Int32.ofNat (l9.getD i.toNatClampNeg 0)))) (rest := rs.map (rv ad)) (va_runV (C := "java/lang/String") (b := ad y) (As := [.int i]) (rest := rs.map (rv ad)) S (jm_charAt l (rA base) (ad y) v l9.length (fun j => Int32.ofNat (l9.getD j 0)) i (Int32.ofNat (l9.getD i.toNatClampNeg 0))) ⟨cb, hts _ (jWd_ok _ (List.mem_of_getElem? (i := 30) rfl)), hts _ (jWd_ok _ (List.mem_of_getElem? (i := 31) rfl))⟩ ⟨jP_blind2, hK.1.imp fun _ h => ⟨h.1, h.2.1, h.2.2.1⟩, fun U hU hW => ⟨rfl, by show jF _ _ _ _ _ U U.heap; rw [hU]; exact jF_moved hW.alike hK, ⟨hi0, hik⟩, hin, c1, c2⟩⟩ rfl rfl hsz rfl (lv_room hsr) hd ⟨hcell, hslot⟩) ?_
          exact kon_same (st' := .int _ :: rs) F (List.forall_mem_cons.mpr ⟨trivial, fun w hw => rF_tl F w (List.mem_cons_of_mem _ hw)⟩) k
      next => cases h
    next => cases h
  next =>
    have hd : decode cc pc = .ok (.invokevirtual idx, 3) := by rcases hI with h | h | h <;> first | exact h.2 | omega
    split at h
    next y rs =>
      split at h
      next hy8 =>
        cases h
        obtain ⟨hO, -, -, hF⟩ := hC.2.1.2.2.2.2.2 y hy8
        rw [List.map_cons, List.sum_cons] at hsum
        have hsr : ((rs.map (rv ad)).map (fun v => v.category)).sum ≤ 8 := by rw [hcat]; omega
        have hG : GoodIn rWs (va_wsU r.1.cls idx "FanHouse$Step" "java/lang/Enum" jx_ord jy_ord jw_ord) := by
          intro w hw
          rcases List.mem_append.mp hw with h | h
          · have : w ∈ rWs := by
              simp only [List.mem_cons, List.not_mem_nil, or_false] at h
              rcases h with rfl | rfl | rfl | rfl | rfl
              · exact p14 rfl
              · exact jWd_ok _ (List.mem_of_getElem? (i := 32) rfl)
              · exact jWd_ok _ (List.mem_of_getElem? (i := 33) rfl)
              · exact jWd_ok _ (List.mem_of_getElem? (i := 34) rfl)
              · exact jWd_ok _ (List.mem_of_getElem? (i := 35) rfl)
            exact ⟨this, good_of_word (List.mem_filter.mp this).2⟩
          · exact jG (List.mem_of_getElem? (i := 7) rfl) w h
        have cb := va_cwU (R := R) (mc := 0) (ms := 0) (ws' := rWs) (rm := { frames := 0, cells := 0, slots := 0, locals := 0 }) (s := s) (args := args) 0 hts hG rfl rfl rfl rfl ⟨by decide, by decide, by decide +kernel⟩ ⟨by show 0 + 1 ≤ _; omega, by show 8 + (1 + 11) + 0 ≤ _; omega⟩
        have hOk := hO.kept F.2.2.2.2.1
        have hFk := hF.kept F.2.2.2.2.1
        refine quiet_go (v := some (.int (Int32.ofNat y))) (rest := rs.map (rv ad)) (va_runU (C := "FanHouse$Step") (b := ad y) (As := []) (rest := rs.map (rv ad)) S (jm_ord l (rA base) (ad y) (Int32.ofNat y)) cb ⟨fun a U g mk h => ⟨h.1, va_OF.moved (u := U) (U := U.calling g mk a) (Vm.Alike.refl U.vm) h.2⟩, hOk.imp fun _ h => ⟨h.1, h.2.1, h.2.2.1⟩, fun U hU hW => ⟨rfl, by show va_OF _ _ _ _ _ _ U U.heap; rw [hU]; exact va_OF.moved hW.alike hFk⟩⟩ rfl rfl hsz rfl (lv_room hsr) hd ⟨hcell, hslot⟩) ?_
        exact kon_same (st' := .int _ :: rs) F (List.forall_mem_cons.mpr ⟨trivial, rF_tl F⟩) k
      next => cases h
    next => cases h
  next =>
    have hd : decode cc pc = .ok (.invokestatic idx, 3) := by rcases hI with h | h | h <;> first | exact h.2 | omega
    split at h
    next y z rs =>
      cases h
      simp only [List.map_cons, List.sum_cons] at hsum
      refine va_mmin (rest := rs.map (rv ad)) hx hb (hml.trans hsz.symm) hown (hts _ (p15 rfl)) (hts _ rMw_ok.1) (hts _ rMw_ok.2.2.1) (hts _ rMw_ok.2.2.2.1) (by omega) (by
        have := hcat rs
        omega) hcell hslot hd ?_
      exact kon_same (st' := .int _ :: rs) F (List.forall_mem_cons.mpr ⟨trivial, fun w hw => rF_tl F w (List.mem_cons_of_mem _ hw)⟩) k
    next => cases h
  next =>
    have hd : decode cc pc = .ok (.invokestatic idx, 3) := by rcases hI with h | h | h <;> first | exact h.2 | omega
    split at h
    next y z rs =>
      cases h
      simp only [List.map_cons, List.sum_cons] at hsum
      refine va_mmax (rest := rs.map (rv ad)) hx hb (hml.trans hsz.symm) hown (hts _ (p16 rfl)) (hts _ rMw_ok.2.1) (hts _ rMw_ok.2.2.1) (hts _ rMw_ok.2.2.2.2) (by omega) (by
        have := hcat rs
        omega) hcell hslot hd ?_
      exact kon_same (st' := .int _ :: rs) F (List.forall_mem_cons.mpr ⟨trivial, fun w hw => rF_tl F w (List.mem_cons_of_mem _ hw)⟩) k
    next => cases h
  next => cases h
end RowsP
