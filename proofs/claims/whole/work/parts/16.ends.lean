/-! ===== ends, throws, handlers ===== -/
set_option maxRecDepth 100000 in
theorem rThr_w : Jvm.Cond.classLink "FanHouse" 357 "java/lang/IllegalArgumentException" ∈ rWs ∧ Jvm.Cond.initialized "java/lang/IllegalArgumentException" ∈ rWs ∧ Jvm.Cond.classLink "FanHouse" 364 "java/util/NoSuchElementException" ∈ rWs ∧ Jvm.Cond.initialized "java/util/NoSuchElementException" ∈ rWs := by decide +kernel
set_option maxRecDepth 100000 in
theorem rThr_g : (∀ w ∈ Jvm.Cond.classLink "FanHouse" 357 "java/lang/IllegalArgumentException" :: Jvm.Cond.initialized "java/lang/IllegalArgumentException" :: rXa, vx_ot w = true) ∧ (∀ w ∈ Jvm.Cond.classLink "FanHouse" 364 "java/util/NoSuchElementException" :: Jvm.Cond.initialized "java/util/NoSuchElementException" :: rXb, vx_ot w = true) := by decide +kernel
theorem Rp_keep {D : va_G} {base : Nat} {M : rMem} {ad : Nat → Nat} {u U : State} {H : Heap} (hvm : u.vm.Alike U.vm) (hz : H.size ≤ U.heap.size) (hq : ∀ q : Nat, q < H.size → U.heap[q]? = H[q]?) (h : Rp D base M ad u H) : Rp D base M ad U U.heap := by
  obtain ⟨hb, h100, hok, hinj, ws, tys, hP, hD, hK, hall⟩ := h
  exact ⟨Nat.le_trans hb hz, h100, hok, hinj, ws, tys, hP.kept (fun k q hk => hq _ (hP k q hk).lt), hD, va_K.moved hvm hK, hall⟩
section RowsG
variable {p : Program} {l : Launch} {e : Env} {R : Room} {s : State} {m : MethodId} {args : Array Value} {below : List Frame} {meth : Method} {c : Code} {H : Heap} {locs : List Loc} {cells slots : Nat} {Q : State → Prop}
variable {cc : ByteArray} {D : va_G} {base nL pc : Nat} {ad : Nat → Nat} {ls : Array Slot} {L : rLoc} {st : List Value} {M : rMem}
variable {ad0 : Nat → Nat} {M0 : rMem}

theorem end_Q {v : Option Value} {t : State} (F : rF D base ad nL ls L st M s H locs) (hE : rEqv M0.1 ad0 ad) (hle : M0.1 ≤ M.1) (hv : ∀ w, v = some w → vok M.1 w) (ht : t.heap = H) (hW : s.WarmedH t.vm) {a : Array Value} :
    rQc D base ad0 M0 (.inl v) M a s (.returned (v.map (rv ad))) t :=
  ⟨v, ad, rfl, hE, hle, rfl, hv, by rw [ht]; exact Rp_moved hW.alike F.2.2.1, F.2.2.2.F ht⟩
theorem ok_RtI {r : rRow} {res : rRes} (hx : p.tables.exec = Jvm.exec) (hb : c.code = cc) (h : rRtI r st M = some (.inr res)) (hret : meth.sig.returnType = r.2.2.2.1) (hlocks : meth.locks = false) (F : rF D base ad nL ls L st M s H locs) (hE : rEqv M0.1 ad0 ad) (hle : M0.1 ≤ M.1)
    (hd : decode cc pc = .ok (.ireturn, 1)) : W p l e R s m args below meth c H locs cells slots (vx_MQ below (rQc D base ad0 M0 res.1 res.2.1) (rXC D base ad0 M0 res.1 res.2.1) args s (cells + res.2.2.1) (slots + res.2.2.2) (rA base)) (F0 m pc ls (st.map (rv ad))) := by
  unfold rRtI at h
  split at h
  next v hr =>
    cases h
    exact vx_ret (W.zret (v := v) hx hb (hret.trans hr) rfl (fun t ht hW => end_Q (v := some (.int v)) F hE hle (fun w hw => by cases hw; trivial) ht hW) F.2.2.2.2.2 hd hlocks)
  next v hr =>
    split at h
    next hv =>
      cases h
      have hn : narrow .boolean (.int v) = .int v := by rcases hv with rfl | rfl <;> rfl
      exact vx_ret (W.zret (v := v) hx hb (hret.trans hr) hn (fun t ht hW => end_Q (v := some (.int v)) F hE hle (fun w hw => by cases hw; trivial) ht hW) F.2.2.2.2.2 hd hlocks)
    next => cases h
  next => cases h
theorem ok_RtA {r : rRow} {res : rRes} (hx : p.tables.exec = Jvm.exec) (hb : c.code = cc) (h : rRtA r st M = some (.inr res)) (hret : meth.sig.returnType = r.2.2.2.1) (hlocks : meth.locks = false) (F : rF D base ad nL ls L st M s H locs) (hE : rEqv M0.1 ad0 ad) (hle : M0.1 ≤ M.1)
    (hd : decode cc pc = .ok (.areturn, 1)) : W p l e R s m args below meth c H locs cells slots (vx_MQ below (rQc D base ad0 M0 res.1 res.2.1) (rXC D base ad0 M0 res.1 res.2.1) args s (cells + res.2.2.1) (slots + res.2.2.2) (rA base)) (F0 m pc ls (st.map (rv ad))) := by
  unfold rRtA at h
  split at h
  next z C hr =>
    cases h
    exact vx_ret (W.aret (v := .ref (ad z)) hx hb (hret.trans hr) (Or.inl ⟨C, rfl⟩) (Or.inr ⟨_, rfl⟩) (fun t ht hW => end_Q (v := some (.ref z)) F hE hle (fun w hw => by cases hw; exact rF_hd F) ht hW) F.2.2.2.2.2 hd hlocks)
  next C hr =>
    cases h
    exact vx_ret (W.aret (v := .null) hx hb (hret.trans hr) (Or.inl ⟨C, rfl⟩) (Or.inl rfl) (fun t ht hW => end_Q (v := some .null) F hE hle (fun w hw => by cases hw; trivial) ht hW) F.2.2.2.2.2 hd hlocks)
  next => cases h
theorem ok_RtV {r : rRow} {res : rRes} (hx : p.tables.exec = Jvm.exec) (hb : c.code = cc) (h : rRtV r st M = some (.inr res)) (hret : meth.sig.returnType = r.2.2.2.1) (hlocks : meth.locks = false) (F : rF D base ad nL ls L st M s H locs) (hE : rEqv M0.1 ad0 ad) (hle : M0.1 ≤ M.1)
    (hd : decode cc pc = .ok (.return_, 1)) : W p l e R s m args below meth c H locs cells slots (vx_MQ below (rQc D base ad0 M0 res.1 res.2.1) (rXC D base ad0 M0 res.1 res.2.1) args s (cells + res.2.2.1) (slots + res.2.2.2) (rA base)) (F0 m pc ls (st.map (rv ad))) := by
  unfold rRtV at h
  split at h
  next hr =>
    cases h
    exact vx_ret (W.vret hx hb (hret.trans hr) (fun t ht hW => end_Q (v := none) F hE hle (fun w hw => by cases hw) ht hW) F.2.2.2.2.2 hd hlocks)
  next => cases h
theorem end_X {x : Nat} {E : String} {t : State} {H1 : Heap} {locs1 : List Loc} {ad' : Nat → Nat} {M' : rMem} (hEx : rEx[x]? = some E) (hE : rEqv M0.1 ad0 ad') (hle : M0.1 ≤ M'.1) (hR : Rp D base M' ad' s H1) (hS : va_S (rA base) s.heap H1 locs1) (ht : t.heap = H1) (hvm : s.vm.Alike t.vm) :
    rXC D base ad0 M0 (.inr x) M' E s t :=
  ⟨x, ad', rfl, hEx, hE, hle, by rw [ht]; exact Rp_moved hvm hR, hS.F ht⟩
theorem rEqv_tr {n n' : Nat} {f g h : Nat → Nat} (h1 : rEqv n f g) (h2 : rEqv n' g h) (hn : n ≤ n') : rEqv n f h := fun i hi => (h2 i (Nat.lt_of_lt_of_le hi hn)).trans (h1 i hi)
/-- the throw in allow, in demand -/
theorem ok_Thr {r : rRow} {a d : Nat} {res : rRes} {i : Nat} (hx : p.tables.exec = Jvm.exec) (hb : c.code = cc) (hcc : r.2.1 = cc) (hl9 : l.stackTraces = false) (h : rThr d r a pc st M = some (.inr res)) (hown : s.vm.findClass r.1.cls = some m.cls) (hts : ∀ w ∈ rWs, w.before args s = true) (hC : rCn base ad s s.heap) (hlocks : meth.locks = false) (hml : c.maxLocals = nL)
    (hxt : c.exceptionTable.toList = tableOf (rHh r)) (F : rF D base ad nL ls L st M s H locs) (hE : rEqv M0.1 ad0 ad) (hle : M0.1 ≤ M.1) (hRf : 10 ≤ R.frames) (hRl : 400 ≤ R.locals) (hRc : cells + res.2.2.1 ≤ R.cells) (hRs : slots + res.2.2.2 ≤ R.slots)
    (hdec : (r.1 = ⟨"FanHouse", "allow", "(Z)V"⟩ → cc = cX12_allow) ∧ (r.1 = ⟨"FanHouse", "demand", "(Z)V"⟩ → cc = cX12_demand)) : W p l e R s m args below meth c H locs cells slots (vx_MQ below (rQc D base ad0 M0 res.1 res.2.1) (rXC D base ad0 M0 res.1 res.2.1) args s (cells + res.2.2.1) (slots + res.2.2.2) (rA base)) (F0 m pc ls (st.map (rv ad))) := by
  unfold rThr at h
  split at h
  next hc =>
    obtain ⟨hd10, hcase, rfl, hh⟩ := hc
    cases h
    have hsize : ls.size = c.maxLocals := F.1.1.1.trans hml.symm
    have hout : ∀ x ∈ c.exceptionTable.toList, covers x (pc + 10) = false := by
      rw [hxt, hh]
      intro x hx
      cases hx
    rcases hcase with ⟨rfl, rfl, hn⟩ | ⟨rfl, rfl, hn⟩
    · have hcX := hdec.1 hn
      subst hcX
      rw [hn] at hown
      obtain ⟨⟨sa, hsa⟩, -, hU, hN, hxw, -⟩ := hC.2.2.2
      have hat : ∀ w ∈ rXa, w.before args s = true := vx_hat (B := rXw) (fun w hw => hts w (List.mem_filter.mpr ⟨rXg_in w (List.mem_filter.mpr ⟨List.mem_append_left _ (List.mem_filter.mp hw).1, (List.mem_filter.mp hw).2⟩), (List.mem_filter.mp hw).2⟩))
        (fun w hw => List.mem_filter.mpr ⟨List.mem_append_left _ (List.mem_filter.mp hw).1, (List.mem_filter.mp hw).2⟩) (fun w hw => va_Nw.use (rDC_tab (List.all_eq_true.mp rXw_ok w hw)) (hxw w hw))
      exact vx_throwSW (own := "FanHouse") (cls := "java/lang/IllegalArgumentException") (names := ["java/lang/RuntimeException", "java/lang/Exception"]) (ik := 357) (is := 359) (ic := 361) (text := "an argument is outside what the document allows") hx hb hl9 hown (by decide +kernel) (by decide +kernel) (hts _ rThr_w.1) (hts _ rThr_w.2.1) hsa hat rThr_g.1 hU hN F.2.2.2 hsize
        (by decide +kernel) (by decide +kernel) (by decide +kernel) (by decide +kernel) (by decide +kernel) hout (by show 2 + 3 < _; omega) (by show 0 + (13 * (2 + 1) + 43) ≤ _; omega) hRc hRs hlocks
        (fun t hvm hz hq => ⟨0, ad, rfl, rfl, hE, hle, Rp_keep hvm hz hq F.2.2.1, Nat.le_trans F.2.2.2.1 hz, fun q h1 h2 => by rw [hq q (Nat.lt_of_lt_of_le h1 F.2.2.2.1)]; exact F.2.2.2.2.1 q h1 h2⟩) F.2.2.2.2.2 (Nat.le_refl _) (Nat.le_refl _)
    · have hcX := hdec.2 hn
      subst hcX
      rw [hn] at hown
      obtain ⟨-, ⟨sa, hsa⟩, hU, hN, hxw, -⟩ := hC.2.2.2
      have hat : ∀ w ∈ rXb, w.before args s = true := vx_hat (B := rXw) (fun w hw => hts w (List.mem_filter.mpr ⟨rXg_in w (List.mem_filter.mpr ⟨List.mem_append_right _ (List.mem_filter.mp hw).1, (List.mem_filter.mp hw).2⟩), (List.mem_filter.mp hw).2⟩))
        (fun w hw => List.mem_filter.mpr ⟨List.mem_append_right _ (List.mem_filter.mp hw).1, (List.mem_filter.mp hw).2⟩) (fun w hw => va_Nw.use (rDC_tab (List.all_eq_true.mp rXw_ok w hw)) (hxw w hw))
      refine nx_makeSW (own := "FanHouse") (cls := "java/util/NoSuchElementException") (names := ["java/lang/RuntimeException", "java/lang/Exception"]) (ik := 364) (is := 366) (ic := 368) (text := "there is no such stick or place") hx hb hl9 (ix := 13) (rx := prog_33_method_4_code) (by decide +kernel) (by decide +kernel) (by decide +kernel) (by decide +kernel) hown (by decide +kernel) (by decide +kernel) (hts _ rThr_w.2.2.1) (hts _ rThr_w.2.2.2) hsa hat rThr_g.2 hU hN F.2.2.2 hsize
        (by decide +kernel) (by decide +kernel) (by decide +kernel) (by decide +kernel) (by show 2 + 3 < _; omega) (by show 0 + (13 * (2 + 1) + 43) ≤ _; omega) hRc hRs (fun q H1 ce hce hcv hcl hz hq => ?_)
      have hS1 : va_S (rA base) s.heap H1 locs := ⟨Nat.le_trans F.2.2.2.1 hz, fun q h1 h2 => by rw [hq q (Nat.lt_of_lt_of_le h1 F.2.2.2.1)]; exact F.2.2.2.2.1 q h1 h2, F.2.2.2.2.2⟩
      refine vx_athrow hx hb (by decide +kernel) (vx_out hout hlocks hce hcv hcl (fun t ht hvm => ?_) F.2.2.2.2.2 (Nat.le_refl _) (Nat.le_refl _))
      exact ⟨1, ad, rfl, rfl, hE, hle, Rp_keep hvm (by rw [ht]; exact hz) (fun q h9 => by rw [ht]; exact hq q h9) F.2.2.1, hS1.F ht⟩
  next => cases h
end RowsG
