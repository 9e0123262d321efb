/-! ===== the law's body on the machine ===== -/
def lw_Q (_ : Array Value) (s : State) (o : Outcome) (t : State) : Prop := o = .returned (some (.int 1)) ∧ Framed s o t [] 601024 7293034
def lw_Z (below : List Frame) (a : Array Value) (s : State) : State → Prop := fun t => ∃ o, t.status = .running ∧ Ended t below o ∧ lw_Q a s o t
section LW
variable {p : Program} {l : Launch} {e : Env} {R : Room} {s : State} {m : MethodId} {args : Array Value} {below : List Frame} {meth : Method} {c : Code} {H : Heap} {locs : List Loc} {cells slots : Nat} {Q : State → Prop}
theorem lw_retR {b : Nat} (hx : p.tables.exec = Jvm.exec) (hb : c.code = code) (hr : meth.sig.returnType = ret) (hlocks : meth.locks = false) {pc : Nat} {ls : Array Slot} (hdg : decode code pc = .ok (.ireturn, 1)) : W p l e R s m #[Value.ref b] below meth c H [] 601024 7293034 (lw_Z below #[Value.ref b] s) (F0 m pc ls [.int 1]) := by
  intro T hT X
  obtain ⟨fs, hret, hrun, hended, hW, hframe⟩ := X.leave (v := some (.int 1)) (hlocks := hlocks) (fun h => by rw [hr] at h; cases h)
  have hmeth' : T.vm.method? m = some meth := X.method'
  refine ⟨T.setFrames fs, ?_, .returned (some (.int 1)), hrun, hended, rfl, ⟨_, rfl⟩, hW, hframe⟩
  jvm_step X.here [X.here.top, hx, hb, hdg, hmeth', hr, ret, narrow_b1]
  (try refine ⟨rfl, ?_⟩); (try refine ⟨rfl, ?_⟩)
  first | (intro acts; rw [hret _ acts rfl rfl rfl]) | rw [hret _ _ rfl rfl rfl]
  exact Steps.refl _
theorem W_room {R2 : Room} (h : s.hasRoom e.platform R = true → s.hasRoom e.platform R2 = true) {g : JFrame} (k : W p l e R2 s m args below meth c H locs cells slots Q g) : W p l e R s m args below meth c H locs cells slots Q g := fun T hT X => k T hT { X with room := h X.room }
theorem room_ok {pl : Platform} (h : s.hasRoom pl room_1 = true) : s.hasRoom pl (rRm 2048 601024 7293034) = true := by
  have f1 : (rRm 2048 601024 7293034).frames = room_1.frames := rfl
  have f2 : (rRm 2048 601024 7293034).cells = room_1.cells := rfl
  have f3 : (rRm 2048 601024 7293034).slots = room_1.slots := rfl
  have f4 : (rRm 2048 601024 7293034).locals ≤ room_1.locals := Nat.le_of_ble_eq_true rfl
  simp only [State.hasRoom, Bool.and_eq_true, decide_eq_true_eq] at h ⊢
  rw [f1, f2, f3]
  obtain ⟨⟨⟨⟨h1, h2, h3, h4, h5, h6⟩, h7⟩, h8⟩, h9⟩ := h
  exact ⟨⟨⟨⟨by omega, h2, h3, by omega, by omega, h6⟩, h7⟩, h8⟩, h9⟩
/-- the judgement that the law's rows keep -/
def lwG (p : Program) (l : Launch) (e : Env) (s : State) (m : MethodId) (below : List Frame) (meth : Method) (c : Code) (D : va_G) (ad0 : Nat → Nat) (b : Nat) (Q : State → Prop) : lG := fun pc L st M K N =>
  ∀ (ad : Nat → Nat) (ls : Array Slot) (H : Heap) (locs : List Loc) (cells slots : Nat), rF D s.heap.size ad 7 ls L st M s H locs → rEqv 100 ad0 ad → 100 ≤ M.1 → cells + K ≤ 601024 → slots + N ≤ 7293034 →
    W p l e (rRm 2048 601024 7293034) s m #[Value.ref b] below meth c H locs cells slots Q (F0 m pc ls (st.map (rv ad)))
theorem lw_cl {D : va_G} {ad0 : Nat → Nat} {b n : Nat} {xs : Nat → Int32} (hl9 : l.stackTraces = false) (hx : p.tables.exec = Jvm.exec) (hb : c.code = code) (hml : c.maxLocals = 7) (hown : s.vm.findClass "FanHouseLaw" = some m.cls) (hmn : meth.name = "law") (hret : meth.sig.returnType = some .boolean) (hlocks : meth.locks = false) (hts : ∀ w ∈ lw_tbl, w.before #[Value.ref b] s = true) (hxt : c.exceptionTable.toList = []) (hC : rCn s.heap.size ad0 s s.heap) (hX : va_X b n xs s s.heap) (hbl : b < s.heap.size) (hn : n ≤ 100000) (h99 : ad0 99 = b) : lCl 2047 n (fun j => (xs j).toInt) (lwG p l e s m below meth c D ad0 b Q) := by
  have hts' : ∀ w ∈ rWs, w.before #[Value.ref b] s = true := fun w hw => hts w (List.mem_filter.mp hw).1
  refine ⟨?_, ?_, ?_, ?_⟩
  · intro pc L st M pc' L' st' M' dk dn K N h1 k ad ls H locs cells slots F hE hle hc hs
    have hC' : rCn s.heap.size ad s s.heap := rCn_eqv hE hC
    have h2 := one_ok (R := rRm 2048 601024 7293034) (d0 := 2047) (r := rLaw) (e := e) (below := below) (locs := locs) (H := H) (ad0 := ad0) (M0 := ((100, fun _ => none) : rMem)) (cells := cells) (slots := slots) (Q := Q) (fun j As M res h => by
      obtain ⟨f, hf⟩ := ev_iff.mp h
      exact run_con l hl9 D s.heap.size rMs_ok 2047 f j As M res hf) rMs_ok hl9 rfl rLaw_chk (Or.inl rfl) ⟨fun h => absurd h (by decide), fun h => absurd h (by decide)⟩ hx hb hml hown hmn hret hlocks hts' hxt (Nat.le_refl _) hC' F hE hle rfl rfl h1
    refine h2.1 _ rfl (by show cells + dk ≤ 601024; omega) (by show slots + dn ≤ 7293034; omega) ?_
    intro ad' ls' H' locs' hE' hle' F'
    exact k ad' ls' H' locs' (cells + dk) (slots + dn) F' (rEqv_tr hE hE' hle) (Nat.le_trans hle hle') (by omega) (by omega)
  · intro pc L z rest M K N ab hf h0 h1 k ad ls H locs cells slots F hE hle hc hs
    have ha : ad 99 = b := by rw [hE 99 (by decide)]; exact h99
    have hck := rChk_ok (List.all_eq_true.mp rLaw_chk _ (rFind_mem hf))
    have hd : decode code pc = .ok (.iaload, 1) := hck.1
    show W p l e (rRm 2048 601024 7293034) s m #[Value.ref b] below meth c H locs cells slots Q (F0 m pc ls (.int (iI z) :: .ref (ad 99) :: rest.map (rv ad)))
    rw [ha]
    refine va_sld (A := rA s.heap.size) (H0 := s.heap) hx hb hX hbl (Nat.not_le.mpr hbl) F.2.2.2 (iI_in h0 h1 hn) hd ?_
    have h9 := k ad ls H locs cells slots ⟨F.1, fun v hv => by
      rcases List.mem_cons.mp hv with h | h
      · rw [h]
        trivial
      · exact F.2.1 v (List.mem_cons_of_mem _ (List.mem_cons_of_mem _ h)), F.2.2.1, F.2.2.2⟩ hE hle hc hs
    rw [iI_nat h0 (by omega)]
    have h9 : W p l e (rRm 2048 601024 7293034) s m #[Value.ref b] below meth c H locs cells slots Q (F0 m (pc + 1) ls (.int (iI (xs z.toNat).toInt) :: rest.map (rv ad))) := h9
    rw [iI_toInt] at h9
    exact h9
  · intro pc L rest M K N ab hf k ad ls H locs cells slots F hE hle hc hs
    have ha : ad 99 = b := by rw [hE 99 (by decide)]; exact h99
    have hck := rChk_ok (List.all_eq_true.mp rLaw_chk _ (rFind_mem hf))
    have hd : decode code pc = .ok (.arraylength, 1) := hck.1
    show W p l e (rRm 2048 601024 7293034) s m #[Value.ref b] below meth c H locs cells slots Q (F0 m pc ls (.ref (ad 99) :: rest.map (rv ad)))
    rw [ha]
    refine va_slen (A := rA s.heap.size) (H0 := s.heap) hx hb hX hbl (Nat.not_le.mpr hbl) F.2.2.2 hd ?_
    have h9 := k ad ls H locs cells slots ⟨F.1, fun v hv => by
      rcases List.mem_cons.mp hv with h | h
      · rw [h]
        trivial
      · exact F.2.1 v (List.mem_cons_of_mem _ h), F.2.2.1, F.2.2.2⟩ hE hle hc hs
    rw [ofNat_iI]
    exact h9
  · intro pc L st M K N K' N' hk hn' k ad ls H locs cells slots F hE hle hc hs
    exact k ad ls H locs cells slots F hE hle (by omega) (by omega)
/-- the law's end -/
theorem lw_end {D : va_G} {ad0 : Nat → Nat} {b n : Nat} {xs : Nat → Int} (hx : p.tables.exec = Jvm.exec) (hb : c.code = code) (hret : meth.sig.returnType = ret) (hlocks : meth.locks = false) (hG : lCl 2047 n xs (lwG p l e s m below meth c D ad0 b (lw_Z below #[Value.ref b] s))) {L : rLoc} {M : rMem} : lwG p l e s m below meth c D ad0 b (lw_Z below #[Value.ref b] s) 2321 L [] M 0 0 := by
  refine l_con hG (z_38 rfl) ?_
  intro ad ls H locs cells slots F hE hle hc hs
  refine va_forget (fun q hq => F.2.2.2.2.2 q hq) ?_
  refine W.widen (k := 601024) (n := 7293034) (by omega) (by omega) ?_
  have hck := rChk_ok (List.all_eq_true.mp rLaw_chk _ (rFind_mem (z_38 (pc := 2322) (v := (.ireturn, (1, (0, 0)))) rfl)))
  exact lw_retR hx hb hret hlocks hck.1
end LW
