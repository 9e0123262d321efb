/-! ===== the machine follows the pure machine ===== -/
theorem no_RtI {r : rRow} {st : List Value} {M : rMem} {x : rNx} (h : rRtI r st M = some (.inl x)) : False := by
  unfold rRtI at h
  split at h
  next => cases h
  next =>
    split at h
    next => cases h
    next => cases h
  next => cases h
theorem no_RtA {r : rRow} {st : List Value} {M : rMem} {x : rNx} (h : rRtA r st M = some (.inl x)) : False := by
  unfold rRtA at h
  split at h <;> cases h
theorem no_RtV {r : rRow} {st : List Value} {M : rMem} {x : rNx} (h : rRtV r st M = some (.inl x)) : False := by
  unfold rRtV at h
  split at h <;> cases h
theorem no_Thr {d : Nat} {r : rRow} {a pc : Nat} {st : List Value} {M : rMem} {x : rNx} (h : rThr d r a pc st M = some (.inl x)) : False := by
  unfold rThr at h
  split at h <;> cases h
theorem no_Hdl {r : rRow} {pc z dk dn : Nat} {M : rMem} {x : rNx} (h : rHdl r pc z M dk dn = some (.inl x)) : False := by
  unfold rHdl at h
  split at h
  next => cases h
  next =>
    split at h
    next => cases h
    next => split at h <;> cases h
section RowsK
variable {p : Program} {l : Launch} {e : Env} {R : Room} {s : State} {m : MethodId} {args : Array Value} {below : List Frame} {meth : Method} {c : Code} {H : Heap} {locs : List Loc} {cells slots : Nat} {Q : State → Prop}
variable {cc : ByteArray} {D : va_G} {base nL pc : Nat} {ad : Nat → Nat} {ls : Array Slot} {L : rLoc} {st : List Value} {M : rMem}
variable {ad0 : Nat → Nat} {M0 : rMem}

theorem inv_ok {call : Nat → List Value → rMem → Option rRes} {d0 a b idx : Nat} {r : rRow} {y : rNx ⊕ rRes} (hcall : ∀ j As M res, call j As M = some res → rCon l D base d0 j As M res) (hrows : ∀ r ∈ rMs, rOkR r = true)
    (hKn : rKn[rKj r]? = some r.1.cls) (hchk : (rTi r).all (rChk r) = true) (hhc : rHh r = [] ∨ r.1.cls = "FanHouseLaw") (hx : p.tables.exec = Jvm.exec) (hb : c.code = r.2.1) (hml : c.maxLocals = r.2.2.1) (hown : s.vm.findClass r.1.cls = some m.cls) (hret : meth.sig.returnType = r.2.2.2.1) (hlocks : meth.locks = false)
    (hts : ∀ w ∈ rWs, w.before args s = true) (hxt : c.exceptionTable.toList = tableOf (rHh r)) (hb0 : base ≤ s.heap.size) (hC : rCn base ad s s.heap) (F : rF D base ad r.2.2.1 ls L st M s H locs) (hE : rEqv M0.1 ad0 ad) (hle : M0.1 ≤ M.1) (hRf : R.frames = d0 + 1) (hRl : R.locals = 40 * (d0 + 1))
    (hI : (((a = 0 ∨ a = 12 ∨ a = 13 ∨ a = 14)) ∧ decode r.2.1 pc = .ok (.invokevirtual idx, 3)) ∨ ((a = 1 ∨ a = 4 ∨ a = 6 ∨ a = 11 ∨ a = 15 ∨ a = 16) ∧ decode r.2.1 pc = .ok (.invokestatic idx, 3)) ∨ ((a = 2 ∨ a = 5 ∨ a = 10 ∨ a = 20) ∧ decode r.2.1 pc = .ok (.invokespecial idx, 3)))
    (hlk : rLk rMt (rKj r) idx a b = true) (h : rInv call (d0 + 1) r a b pc L st M = some y) :
    (∀ x : rNx, y = .inl x → cells + x.2.1 ≤ R.cells → slots + x.2.2 ≤ R.slots → rKon p l e R s m args below meth c Q D base r.2.2.1 ad M cells slots x → W p l e R s m args below meth c H locs cells slots Q (F0 m pc ls (st.map (rv ad)))) ∧
    (∀ res : rRes, y = .inr res → cells + res.2.2.1 ≤ R.cells → slots + res.2.2.2 ≤ R.slots → W p l e R s m args below meth c H locs cells slots (vx_MQ below (rQc D base ad0 M0 res.1 res.2.1) (rXC D base ad0 M0 res.1 res.2.1) args s (cells + res.2.2.1) (slots + res.2.2.2) (rA base)) (F0 m pc ls (st.map (rv ad)))) := by
  unfold rInv at h
  split at h
  next ha10 =>
    split at h
    next hd10 =>
      obtain ⟨hd10, hs8⟩ := hd10
      cases hp : rPrm a (pc + 3) L st M with
      | none => rw [hp] at h; cases h
      | some x0 =>
        rw [hp] at h
        cases h
        refine ⟨fun x hy hc hs k => ?_, fun res hy => nomatch hy⟩
        cases hy
        have ha20 : a ≠ 20 := by
          intro hz
          subst hz
          cases hp
        exact ok_Prm hx hb hml hown hKn hts hC hb0 F (by
          rcases hI with ⟨h1, h2⟩ | ⟨h1, h2⟩ | ⟨h1, h2⟩
          · exact Or.inr (Or.inr ⟨by omega, h2⟩)
          · exact Or.inr (Or.inl ⟨by omega, h2⟩)
          · exact Or.inl ⟨by omega, h2⟩) hlk (by omega) (by omega) hs8 (by omega) (by omega) hp k
    next => cases h
  next ha10 =>
    split at h
    next => cases h
    next q hq =>
      split at h
      next => cases h
      next As rest harg =>
        have hqm : q ∈ rMs := List.mem_of_getElem? hq
        obtain ⟨hst, -, -, -, -⟩ := rArg_ok harg
        have hAs : ∀ v ∈ As, vok M.1 v := fun v hv => F.2.1 v (by rw [hst]; exact List.mem_append_left _ (List.mem_reverse.mpr hv))
        have hrest : ∀ v ∈ rest, vok M.1 v := fun v hv => F.2.1 v (by rw [hst]; exact List.mem_append_right _ hv)
        have hI' : (a = 0 ∧ decode r.2.1 pc = .ok (.invokevirtual idx, 3)) ∨ ((a = 1 ∨ a = 4 ∨ a = 6) ∧ decode r.2.1 pc = .ok (.invokestatic idx, 3)) ∨ ((a = 2 ∨ a = 5) ∧ decode r.2.1 pc = .ok (.invokespecial idx, 3)) := by
          rcases hI with ⟨h1, h2⟩ | ⟨h1, h2⟩ | ⟨h1, h2⟩
          · exact Or.inl ⟨by omega, h2⟩
          · exact Or.inr (Or.inl ⟨by omega, h2⟩)
          · exact Or.inr (Or.inr ⟨by omega, h2⟩)
        split at h
        next => cases h
        next v M' dk dn hcl =>
          cases h
          refine ⟨fun x hy hc hs k => ?_, fun res hy => nomatch hy⟩
          cases hy
          obtain ⟨As0, hrun⟩ := call_ok (R := R) (cells := cells) (slots := slots) (d := d0) hx hb hml hown hKn hts hC F hI' hlk hq (hrows q hqm) harg (hcall _ _ _ _ hcl q hq ad hAs) (by omega) (by omega) ⟨hc, hs⟩
          exact run_ok hrun F hrest (fun v1 hv1 => by cases hv1; exact k) (fun x E ce q9 H1 locs1 ad' hx9 => nomatch hx9)
        next z M' dk dn hcl =>
          refine ⟨fun x hy => ?_, fun res hy hc hs => ?_⟩
          · subst hy
            exact absurd h (fun h => (no_Hdl h).elim)
          · subst hy
            have hdk : res.2.2.1 = dk ∧ res.2.2.2 = dn := by
              have h9 := h
              unfold rHdl at h9
              split at h9
              next => cases h9; exact ⟨rfl, rfl⟩
              next =>
                split at h9
                next => cases h9
                next =>
                  split at h9
                  next => cases h9; exact ⟨rfl, rfl⟩
                  next => cases h9
            obtain ⟨As0, hrun⟩ := call_ok (R := R) (cells := cells) (slots := slots) (d := d0) hx hb hml hown hKn hts hC F hI' hlk hq (hrows q hqm) harg (hcall _ _ _ _ hcl q hq ad hAs) (by omega) (by omega) (by rw [← hdk.1, ← hdk.2]; exact ⟨hc, hs⟩)
            refine run_ok hrun F hrest (fun v1 hv1 => nomatch hv1) (fun x E ce q9 H1 locs1 ad' hx9 hEx hE' hle' hR' hS' hce hcv hcl9 => ?_)
            cases hx9
            exact ok_Hdl hx hb hown hret hlocks rfl hts hxt hC hhc hchk h F.1.1 hEx (rEqv_tr hE hE' hle) (Nat.le_trans hle hle') hR' hS' hce hcv hcl9
theorem one_ok {call : Nat → List Value → rMem → Option rRes} {d0 : Nat} {r : rRow} {y : rNx ⊕ rRes} (hcall : ∀ j As M res, call j As M = some res → rCon l D base d0 j As M res) (hrows : ∀ r ∈ rMs, rOkR r = true) (hl9 : l.stackTraces = false)
    (hKn : rKn[rKj r]? = some r.1.cls) (hchk : (rTi r).all (rChk r) = true) (hhc : rHh r = [] ∨ r.1.cls = "FanHouseLaw") (hdx : (r.1 = ⟨"FanHouse", "allow", "(Z)V"⟩ → r.2.1 = cX12_allow) ∧ (r.1 = ⟨"FanHouse", "demand", "(Z)V"⟩ → r.2.1 = cX12_demand)) (hx : p.tables.exec = Jvm.exec) (hb : c.code = r.2.1) (hml : c.maxLocals = r.2.2.1) (hown : s.vm.findClass r.1.cls = some m.cls) (hmn : meth.name = r.1.name) (hret : meth.sig.returnType = r.2.2.2.1) (hlocks : meth.locks = false)
    (hts : ∀ w ∈ rWs, w.before args s = true) (hxt : c.exceptionTable.toList = tableOf (rHh r)) (hb0 : base ≤ s.heap.size) (hC : rCn base ad s s.heap) (F : rF D base ad r.2.2.1 ls L st M s H locs) (hE : rEqv M0.1 ad0 ad) (hle : M0.1 ≤ M.1) (hRf : R.frames = d0 + 1) (hRl : R.locals = 40 * (d0 + 1))
    (h : rOne call (d0 + 1) r pc L st M = some y) :
    (∀ x : rNx, y = .inl x → cells + x.2.1 ≤ R.cells → slots + x.2.2 ≤ R.slots → rKon p l e R s m args below meth c Q D base r.2.2.1 ad M cells slots x → W p l e R s m args below meth c H locs cells slots Q (F0 m pc ls (st.map (rv ad)))) ∧
    (∀ res : rRes, y = .inr res → cells + res.2.2.1 ≤ R.cells → slots + res.2.2.2 ≤ R.slots → W p l e R s m args below meth c H locs cells slots (vx_MQ below (rQc D base ad0 M0 res.1 res.2.1) (rXC D base ad0 M0 res.1 res.2.1) args s (cells + res.2.2.1) (slots + res.2.2.2) (rA base)) (F0 m pc ls (st.map (rv ad)))) := by
  unfold rOne at h
  split at h
  next => cases h
  next I ln a b hf =>
    have hck : rChk r (pc, (I, (ln, (a, b)))) = true := List.all_eq_true.mp hchk _ (rFind_mem hf)
    obtain ⟨hd, hln, hres⟩ := rChk_ok hck
    have hplain : ∀ y0 : rNx ⊕ rRes, (rStp I a b pc L st M).map Sum.inl = some y0 →
        (∀ x : rNx, y0 = .inl x → cells + x.2.1 ≤ R.cells → slots + x.2.2 ≤ R.slots → rKon p l e R s m args below meth c Q D base r.2.2.1 ad M cells slots x → W p l e R s m args below meth c H locs cells slots Q (F0 m pc ls (st.map (rv ad)))) ∧
        (∀ res : rRes, y0 = .inr res → cells + res.2.2.1 ≤ R.cells → slots + res.2.2.2 ≤ R.slots → W p l e R s m args below meth c H locs cells slots (vx_MQ below (rQc D base ad0 M0 res.1 res.2.1) (rXC D base ad0 M0 res.1 res.2.1) args s (cells + res.2.2.1) (slots + res.2.2.2) (rA base)) (F0 m pc ls (st.map (rv ad)))) := by
      intro y0 h0
      cases hs0 : rStp I a b pc L st M with
      | none => rw [hs0] at h0; cases h0
      | some x0 =>
        rw [hs0] at h0
        cases h0
        refine ⟨fun x hy hc hs k => ?_, fun res hy => nomatch hy⟩
        cases hy
        exact rStp_ok hx hb hck rfl hown hKn hmn hts hC hb0 F hs0 hc hs k
    split at h
    next =>
      have hd1 : decode r.2.1 pc = .ok (.ireturn, 1) := by rw [hd, hln 1 rfl]
      exact ⟨fun x hy => by subst hy; exact (no_RtI h).elim, fun res hy hc hs => by subst hy; exact ok_RtI hx hb h hret hlocks F hE hle hd1⟩
    next =>
      have hd1 : decode r.2.1 pc = .ok (.areturn, 1) := by rw [hd, hln 1 rfl]
      exact ⟨fun x hy => by subst hy; exact (no_RtA h).elim, fun res hy hc hs => by subst hy; exact ok_RtA hx hb h hret hlocks F hE hle hd1⟩
    next =>
      have hd1 : decode r.2.1 pc = .ok (.return_, 1) := by rw [hd, hln 1 rfl]
      exact ⟨fun x hy => by subst hy; exact (no_RtV h).elim, fun res hy hc hs => by subst hy; exact ok_RtV hx hb h hret hlocks F hE hle hd1⟩
    next i =>
      split at h
      next =>
        refine ⟨fun x hy => by subst hy; exact (no_Thr h).elim, fun res hy hc hs => ?_⟩
        subst hy
        have hd10 : 10 ≤ d0 + 1 := by
          have h9 := h
          unfold rThr at h9
          split at h9
          next h8 => exact h8.1
          next => cases h9
        exact ok_Thr (i := i) hx hb rfl hl9 h hown hts hC hlocks hml hxt F hE hle (by omega) (by omega) hc hs hdx
      next => exact hplain _ h
    next i =>
      have hd1 : decode r.2.1 pc = .ok (.invokevirtual i, 3) := by rw [hd, hln 3 rfl]
      have hr2 : (rLk rMt (rKj r) i a b && (a == 0 || a == 12 || a == 13 || a == 14)) = true := hres
      simp only [Bool.and_eq_true, Bool.or_eq_true, beq_iff_eq] at hr2
      exact inv_ok hcall hrows hKn hchk hhc hx hb hml hown hret hlocks hts hxt hb0 hC F hE hle hRf hRl (Or.inl ⟨by omega, hd1⟩) hr2.1 h
    next i =>
      have hd1 : decode r.2.1 pc = .ok (.invokestatic i, 3) := by rw [hd, hln 3 rfl]
      have hr2 : (rLk rMt (rKj r) i a b && (a == 1 || a == 4 || a == 6 || a == 11 || a == 15 || a == 16)) = true := hres
      simp only [Bool.and_eq_true, Bool.or_eq_true, beq_iff_eq] at hr2
      exact inv_ok hcall hrows hKn hchk hhc hx hb hml hown hret hlocks hts hxt hb0 hC F hE hle hRf hRl (Or.inr (Or.inl ⟨by omega, hd1⟩)) hr2.1 h
    next i =>
      have hd1 : decode r.2.1 pc = .ok (.invokespecial i, 3) := by rw [hd, hln 3 rfl]
      have hr2 : (rLk rMt (rKj r) i a b && (a == 2 || a == 5 || a == 10 || a == 20)) = true := hres
      simp only [Bool.and_eq_true, Bool.or_eq_true, beq_iff_eq] at hr2
      exact inv_ok hcall hrows hKn hchk hhc hx hb hml hown hret hlocks hts hxt hb0 hC F hE hle hRf hRl (Or.inr (Or.inr ⟨by omega, hd1⟩)) hr2.1 h
    next => exact hplain _ h

theorem go_ok {call : Nat → List Value → rMem → Option rRes} {d0 k9 n9 : Nat} {r : rRow} (hcall : ∀ j As M res, call j As M = some res → rCon l D base d0 j As M res) (hrows : ∀ r ∈ rMs, rOkR r = true) (hl9 : l.stackTraces = false)
    (hKn : rKn[rKj r]? = some r.1.cls) (hchk : (rTi r).all (rChk r) = true) (hhc : rHh r = [] ∨ r.1.cls = "FanHouseLaw") (hdx : (r.1 = ⟨"FanHouse", "allow", "(Z)V"⟩ → r.2.1 = cX12_allow) ∧ (r.1 = ⟨"FanHouse", "demand", "(Z)V"⟩ → r.2.1 = cX12_demand)) (hx : p.tables.exec = Jvm.exec) (hb : c.code = r.2.1) (hml : c.maxLocals = r.2.2.1) (hown : s.vm.findClass r.1.cls = some m.cls) (hmn : meth.name = r.1.name) (hret : meth.sig.returnType = r.2.2.2.1) (hlocks : meth.locks = false)
    (hts : ∀ w ∈ rWs, w.before args s = true) (hxt : c.exceptionTable.toList = tableOf (rHh r)) (hb0 : base ≤ s.heap.size) (hC0 : rCn base ad0 s s.heap) (h100 : 100 ≤ M0.1) (hR : R = rRm (d0 + 1) k9 n9) (out : rOut) (M9 : rMem) :
    ∀ (f pc : Nat) (ad : Nat → Nat) (ls : Array Slot) (L : rLoc) (st : List Value) (M : rMem) (H : Heap) (locs : List Loc) (cells slots : Nat), rGo call (d0 + 1) r f pc L st M cells slots = some (out, (M9, (k9, n9))) → rF D base ad r.2.2.1 ls L st M s H locs → rEqv M0.1 ad0 ad → M0.1 ≤ M.1 →
      W p l e R s m args below meth c H locs cells slots (vx_MQ below (rQc D base ad0 M0 out M9) (rXC D base ad0 M0 out M9) args s k9 n9 (rA base)) (F0 m pc ls (st.map (rv ad))) := by
  intro f
  induction f with
  | zero => intro pc ad ls L st M H locs cells slots h; cases h
  | succ f ih =>
    intro pc ad ls L st M H locs cells slots h F hE hle
    have hmono := rGo_mono _ _ _ _ _ _ _ _ _ _ _ h
    unfold rGo at h
    have hC : rCn base ad s s.heap := rCn_eqv (fun i hi => hE i (Nat.lt_of_lt_of_le hi h100)) hC0
    have hRf : R.frames = d0 + 1 := by rw [hR]; rfl
    have hRl : R.locals = 40 * (d0 + 1) := by rw [hR]; rfl
    have hRc : R.cells = k9 := by rw [hR]; rfl
    have hRs : R.slots = n9 := by rw [hR]; rfl
    split at h
    next => cases h
    next pc2 L2 st2 M2 dk dn h1 =>
      have hm2 := rGo_mono _ _ _ _ _ _ _ _ _ _ _ h
      have h2 := one_ok (e := e) (below := below) (locs := locs) (H := H) (ad0 := ad0) (M0 := M0) (cells := cells) (slots := slots) (Q := vx_MQ below (rQc D base ad0 M0 out M9) (rXC D base ad0 M0 out M9) args s k9 n9 (rA base)) hcall hrows hl9 hKn hchk hhc hdx hx hb hml hown hmn hret hlocks hts hxt hb0 hC F hE hle hRf hRl h1
      refine h2.1 _ rfl (by show cells + dk ≤ _; omega) (by show slots + dn ≤ _; omega) ?_
      intro ad' ls' H' locs' hE' hle' F'
      exact ih pc2 ad' ls' L2 st2 M2 H' locs' (cells + dk) (slots + dn) h F' (rEqv_tr hE hE' hle) (Nat.le_trans hle hle')
    next o2 M2 dk dn h1 =>
      cases h
      have h2 := one_ok (e := e) (below := below) (locs := locs) (H := H) (ad0 := ad0) (M0 := M0) (cells := cells) (slots := slots) (Q := fun _ => True) hcall hrows hl9 hKn hchk hhc hdx hx hb hml hown hmn hret hlocks hts hxt hb0 hC F hE hle hRf hRl h1
      exact h2.2 _ rfl (by show cells + dk ≤ _; omega) (by show slots + dn ≤ _; omega)
end RowsK
