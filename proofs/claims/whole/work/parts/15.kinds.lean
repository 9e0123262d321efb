/-! ===== calls by their kinds ===== -/
theorem arg_split {As st : List Value} {n : Nat} (h : (st.take n).reverse = As) : st = As.reverse ++ st.drop n := by
  rw [← h, List.reverse_reverse, List.take_append_drop]
theorem rArg_ok {a : Nat} {q : rRow} {st As rest : List Value} {M : rMem} (h : rArg a q st M = some (As, rest)) : st = As.reverse ++ rest ∧ As.length = rNa q ∧ (rest.map (fun v => v.category)).sum ≤ 8 ∧
    ((a = 2 ∨ a = 5) → ∃ x As', As = .ref x :: As') ∧ (a = 0 → ∃ x As' ci fs, As = .ref x :: As' ∧ M.2 x = some (.inr (ci, fs)) ∧ rKc[ci]? = some (rKj q)) := by
  unfold rArg at h
  split at h
  next => cases h
  next hn =>
    have hl : rNa q ≤ st.length := Nat.not_lt.mp fun z => hn (Or.inl z)
    have h8 : ((st.drop (rNa q)).map (fun v => v.category)).sum ≤ 8 := Nat.not_lt.mp fun z => hn (Or.inr z)
    have hlen : ((st.take (rNa q)).reverse).length = rNa q := by rw [List.length_reverse, List.length_take]; omega
    generalize hg : (st.take (rNa q)).reverse = Bs at h hlen
    have hsp := arg_split hg
    split at h
    next As1 =>
      cases h
      exact ⟨hsp, hlen, h8, fun z => by omega, fun z => by omega⟩
    next As1 =>
      cases h
      exact ⟨hsp, hlen, h8, fun z => by omega, fun z => by omega⟩
    next As1 =>
      cases h
      exact ⟨hsp, hlen, h8, fun z => by omega, fun z => by omega⟩
    next x As1 =>
      cases h
      exact ⟨hsp, hlen, h8, fun z => ⟨x, As1, rfl⟩, fun z => by omega⟩
    next x As1 =>
      cases h
      exact ⟨hsp, hlen, h8, fun z => ⟨x, As1, rfl⟩, fun z => by omega⟩
    next x As1 =>
      split at h
      next ci fs hM =>
        split at h
        next hk =>
          cases h
          exact ⟨hsp, hlen, h8, fun z => by omega, fun z => ⟨x, As1, ci, fs, rfl, hM, hk⟩⟩
        next => cases h
      next => cases h
    next => cases h
section RowsF
variable {p : Program} {l : Launch} {e : Env} {R : Room} {s : State} {m : MethodId} {args : Array Value} {below : List Frame} {meth : Method} {c : Code} {H : Heap} {locs : List Loc} {cells slots : Nat} {Q : State → Prop}
variable {cc : ByteArray} {D : va_G} {base nL pc : Nat} {ad : Nat → Nat} {ls : Array Slot} {L : rLoc} {st : List Value} {M : rMem}

theorem call_ok {a b idx d dk dn : Nat} {r q : rRow} {As rest : List Value} {out : rOut} {M' : rMem} (hx : p.tables.exec = Jvm.exec) (hb : c.code = cc) (hml : c.maxLocals = nL) (hown : s.vm.findClass r.1.cls = some m.cls) (hKn : rKn[rKj r]? = some r.1.cls)
    (hts : ∀ w ∈ rWs, w.before args s = true) (hC : rCn base ad s s.heap) (F : rF D base ad nL ls L st M s H locs)
    (hI : (a = 0 ∧ decode cc pc = .ok (.invokevirtual idx, 3)) ∨ ((a = 1 ∨ a = 4 ∨ a = 6) ∧ decode cc pc = .ok (.invokestatic idx, 3)) ∨ ((a = 2 ∨ a = 5) ∧ decode cc pc = .ok (.invokespecial idx, 3)))
    (hlk : rLk rMt (rKj r) idx a b = true) (hq : rMs[b]? = some q) (hqo : rOkR q = true) (harg : rArg a q st M = some (As, rest))
    (hcon : vx_Met l q.1 (rWS q) (rRm d dk dn) (rPc D base ad As M) (rQc D base ad M out M') (rXC D base ad M out M') dk dn (rA base))
    (hRf : d + 1 ≤ R.frames) (hRl : 40 * d + 40 ≤ R.locals) (hRc : cells + dk ≤ R.cells ∧ slots + dn ≤ R.slots) :
    ∃ As0, vx_Run p l e R s m args below meth c H locs cells slots dk dn (F0 m pc ls (st.map (rv ad))) (rest.map (rv ad)) (rQc D base ad M out M' As0) (rXC D base ad M out M') (rA base) := by
  obtain ⟨hst, hlen, h8, hq25, hq0⟩ := rArg_ok harg
  have ha10 : a < 10 := by omega
  obtain ⟨q2, hq2, hkind⟩ := res_M hlk hKn ha10
  cases Option.some.inj (hq.symm.trans hq2)
  obtain ⟨hqK, -, hml20, -, hwc, hini, hcls, hst1, hs0, hs1, hs2, -⟩ := row_ok hqo
  have S : CallFix p m c cc nL s args rWs r.1.cls := ⟨hx, hb, hml, hown, hts⟩
  have hG := rWs_good hwc
  have h8' : ((rest.map (rv ad)).map (fun v => v.category)).sum ≤ 8 := by
    rw [List.map_map, show ((fun v : Value => v.category) ∘ rv ad) = (fun v => v.category) from funext fun v => rv_cat]; exact h8
  have hR : (rRm d dk dn).frames + 1 ≤ R.frames ∧ 8 + (q.2.2.1 + 11) + (rRm d dk dn).locals ≤ R.locals := ⟨hRf, by show 8 + (q.2.2.1 + 11) + 40 * d ≤ _; omega⟩
  have hstm : st.map (rv ad) = (As.map (rv ad)).reverse ++ rest.map (rv ad) := by rw [hst, List.map_append, List.map_reverse]
  have hwq : rHh q = [] → rWS q = Jvm.Cond.code q.1 q.2.1 q.2.2.1 q.2.2.2.1 :: rWs := fun hh => by unfold rWS rWc; rw [hh]
  have hsz : (F0 m pc ls (st.map (rv ad))).locals.size = nL := F.1.1.1
  have hlc : (As.map (rv ad)).length = rNa q := by rw [List.length_map]; exact hlen
  rcases hkind with ⟨rfl, hl, h1, hh⟩ | ⟨rfl, hl, h1, hh⟩ | ⟨rfl, hl, h1, hh⟩ | ⟨rfl, hl, h1, hh⟩ | ⟨rfl, hl, h1, hh⟩ | ⟨rfl, hl, h1, hh⟩
  · have hd : decode cc pc = .ok (.invokevirtual idx, 3) := by rcases hI with h | h | h <;> first | exact h.2 | omega
    obtain ⟨x, As', ci, fs, rfl, hM, hk⟩ := hq0 rfl
    obtain ⟨hin, hse⟩ := hs1 h1
    have hd9 := hcls
    rw [h1] at hd9
    have cb := callB_of (R := R) (index := idx) (mc := dk) (ms := dn) (rNa q - 1) hts hG (hwq hh) rfl rfl (hts _ hini) (hts _ hl) hd9 hR
    obtain ⟨ws, tys, k0, e0, hP, hD, hK, hk0, hr0, hco, -, -⟩ := Rp_at F.2.2.1 hM
    cases hr0
    have hci : ci < 12 := by
      have := (List.getElem?_eq_some_iff.mp hk).1
      exact this
    obtain ⟨rc, hrc⟩ : ∃ rc, rCl[ci]? = some rc := ⟨_, List.getElem?_eq_getElem hci⟩
    obtain ⟨-, l0, K0, -, hK0, hKn0, -, -⟩ := cl_ok hrc
    have hcn : rc.1 = q.1.cls := by
      rw [hK0] at hk
      cases hk
      exact Option.some.inj (hKn0.symm.trans hqK)
    have hrecv := va_recv hK hP hrc hk0
    rw [hcn] at hrecv
    have hpre := pre_ok (As := .ref x :: As') F hC
    refine ⟨_, vx_runV (C := q.1.cls) (b := ad x) (As := As'.map (rv ad)) (rest := rest.map (rv ad)) S hcon ⟨cb, hts _ hin, hts _ hse⟩ ⟨hpre.1, hrecv, hpre.2⟩ rfl ?_ hsz ?_ (lv_room h8') hd hRc⟩
    · rw [List.length_map] at hlc ⊢
      rw [List.length_cons] at hlc
      omega
    · show st.map (rv ad) = _
      rw [hstm, List.map_cons, List.reverse_cons, List.append_assoc]
      rfl
  · have hd : decode cc pc = .ok (.invokestatic idx, 3) := by rcases hI with h | h | h <;> first | exact h.2 | omega
    have hd9 := hcls
    rw [h1] at hd9
    have cb := callB_of (R := R) (index := idx) (mc := dk) (ms := dn) (rNa q) hts hG (hwq hh) rfl rfl (hts _ hini) (hts _ hl) hd9 hR
    exact ⟨_, vx_runS (As := As.map (rv ad)) (rest := rest.map (rv ad)) S hcon ⟨cb, hts _ (hs0 h1)⟩ (pre_ok F hC) rfl hlc hsz (by show st.map (rv ad) = _; rw [hstm]) (lv_room h8') hd hRc⟩
  · have hd : decode cc pc = .ok (.invokespecial idx, 3) := by rcases hI with h | h | h <;> first | exact h.2 | omega
    obtain ⟨x, As', rfl⟩ := hq25 (Or.inl rfl)
    obtain ⟨hin, hnm, hrn⟩ := hs2 (by omega)
    have hd9 := hcls
    rw [h1] at hd9
    have hwq' := hwq hh
    rw [hrn] at hwq'
    have cb := callB_of (R := R) (index := idx) (mc := dk) (ms := dn) (rNa q - 1) hts hG hwq' rfl rfl (hts _ hini) (hts _ hl) hd9 hR
    refine ⟨_, vx_runI (b := ad x) (As := As'.map (rv ad)) (rest := rest.map (rv ad)) S hcon ⟨cb, hnm, hts _ hin⟩ (pre_ok (As := .ref x :: As') F hC) rfl ?_ hsz ?_ (lv_room h8') hd hRc⟩
    · rw [List.length_map] at hlc ⊢
      rw [List.length_cons] at hlc
      omega
    · show st.map (rv ad) = _
      rw [hstm, List.map_cons, List.reverse_cons, List.append_assoc]
      rfl
  · have hd : decode cc pc = .ok (.invokestatic idx, 3) := by rcases hI with h | h | h <;> first | exact h.2 | omega
    have hd9 := hcls
    rw [h1] at hd9
    have cb := va_cnB (R := R) (index := idx) (mc := dk) (ms := dn) (rNa q) hts hG (hwq hh) rfl rfl (hC.1.1 _ hl) (hts _ hini) hd9 hR
    exact ⟨_, vx_runSN (As := As.map (rv ad)) (rest := rest.map (rv ad)) S hcon ⟨cb, hts _ (hs0 h1), trivial⟩ (pre_ok F hC) rfl hlc hsz (by show st.map (rv ad) = _; rw [hstm]) (lv_room h8') hd hRc⟩
  · have hd : decode cc pc = .ok (.invokespecial idx, 3) := by rcases hI with h | h | h <;> first | exact h.2 | omega
    obtain ⟨x, As', rfl⟩ := hq25 (Or.inr rfl)
    obtain ⟨hin, hnm, hrn⟩ := hs2 (by omega)
    have hd9 := hcls
    rw [h1] at hd9
    have hwq' := hwq hh
    rw [hrn] at hwq'
    have cb := va_cnB (R := R) (index := idx) (mc := dk) (ms := dn) (rNa q - 1) hts hG hwq' rfl rfl (hC.1.1 _ hl) (hts _ hini) hd9 hR
    refine ⟨_, vx_runIN (b := ad x) (As := As'.map (rv ad)) (rest := rest.map (rv ad)) S hcon ⟨cb, hnm, hts _ hin⟩ (pre_ok (As := .ref x :: As') F hC) rfl ?_ hsz ?_ (lv_room h8') hd hRc⟩
    · rw [List.length_map] at hlc ⊢
      rw [List.length_cons] at hlc
      omega
    · show st.map (rv ad) = _
      rw [hstm, List.map_cons, List.reverse_cons, List.append_assoc]
      rfl
  · have hd : decode cc pc = .ok (.invokestatic idx, 3) := by rcases hI with h | h | h <;> first | exact h.2 | omega
    have hd9 := hcls
    rw [h1] at hd9
    have hwh : rWS q = Jvm.Cond.codeWith q.1 q.2.1 q.2.2.1 q.2.2.2.1 (rHh q) :: rWs := by
      unfold rWS rWc
      cases hz : rHh q with
      | nil => exact absurd hz hh
      | cons y ys => rfl
    have hc9 : Jvm.Cond.codeWith q.1 q.2.1 q.2.2.1 q.2.2.2.1 (rHh q) ∈ rWS q := by rw [hwh]; exact List.mem_cons_self
    have cw : vx_CSW R s args r.1.cls idx q.1 q.2.1 q.2.2.1 q.2.2.2.1 (rHh q) (rWS q) (rRm d dk dn) dk dn (rNa q) := by
      refine vx_cwSW (ws' := rWs) (rNa q) hts (fun w hw => ?_) hwh rfl rfl hd9 hR
      rcases List.mem_append.mp hw with h | h
      · have : w ∈ rWs := by
          simp only [List.mem_cons, List.not_mem_nil, or_false] at h
          rcases h with rfl | rfl | rfl
          · exact hl
          · exact hs0 h1
          · exact hini
        exact ⟨this, good_of_word (List.mem_filter.mp this).2⟩
      · exact hG w h
    exact ⟨_, vx_runSX (As := As.map (rv ad)) (rest := rest.map (rv ad)) S hcon cw (pre_ok F hC) rfl hlc hsz (by show st.map (rv ad) = _; rw [hstm]) (lv_room h8') hd hRc⟩
end RowsF
