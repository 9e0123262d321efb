/-! ===== calls and ends ===== -/
def rWc (r : rRow) : Jvm.Cond := match rHh r with
  | [] => .code r.1 r.2.1 r.2.2.1 r.2.2.2.1
  | hh => .codeWith r.1 r.2.1 r.2.2.1 r.2.2.2.1 hh
def rWS (r : rRow) : List Jvm.Cond := rWc r :: rWs
def rRm (d k n : Nat) : Room := { frames := d, cells := k, slots := n, locals := 40 * d }
def rPc (D : va_G) (base : Nat) (ad : Nat → Nat) (As : List Value) (M : rMem) : Array Value → State → Prop := fun a U => a = (As.map (rv ad)).toArray ∧ Rp D base M ad U U.heap ∧ rCn base ad U U.heap
def rQc (D : va_G) (base : Nat) (ad : Nat → Nat) (M : rMem) (out : rOut) (M' : rMem) : Array Value → State → Outcome → State → Prop := fun _ st oc t =>
  ∃ (v : Option Value) (ad' : Nat → Nat), out = .inl v ∧ rEqv M.1 ad ad' ∧ M.1 ≤ M'.1 ∧ oc = .returned (v.map (rv ad')) ∧ (∀ w, v = some w → vok M'.1 w) ∧ Rp D base M' ad' t t.heap ∧ va_F (rA base) st t
def rXC (D : va_G) (base : Nat) (ad : Nat → Nat) (M : rMem) (out : rOut) (M' : rMem) : String → State → State → Prop := fun E st t =>
  ∃ (x : Nat) (ad' : Nat → Nat), out = .inr x ∧ rEx[x]? = some E ∧ rEqv M.1 ad ad' ∧ M.1 ≤ M'.1 ∧ Rp D base M' ad' t t.heap ∧ va_F (rA base) st t
/-- what a run of method j says of the machine -/
def rCon (l : Launch) (D : va_G) (base d j : Nat) (As : List Value) (M : rMem) (res : rRes) : Prop :=
  ∀ r, rMs[j]? = some r → ∀ ad : Nat → Nat, (∀ v ∈ As, vok M.1 v) → vx_Met l r.1 (rWS r) (rRm d res.2.2.1 res.2.2.2) (rPc D base ad As M) (rQc D base ad M res.1 res.2.1) (rXC D base ad M res.1 res.2.1) res.2.2.1 res.2.2.2 (rA base)
theorem rPc_blind {D : va_G} {base : Nat} {ad : Nat → Nat} {As : List Value} {M : rMem} : FrameBlind (rPc D base ad As M) := by
  rintro a U g mk ⟨h1, h2, h3⟩
  exact ⟨h1, Rp_moved (u := U) (U := U.calling g mk a) (Vm.Alike.refl U.vm) h2, rCn_kept (u := U) (U := U.calling g mk a) (State.WarmedH.refl U) (fun _ _ _ => rfl) h3⟩

theorem rWs_good {q : rRow} (h : rWc q ∈ rWs) : GoodIn rWs (rWS q) := by
  intro w hw
  have hw2 : w ∈ rWs := by
    rcases List.mem_cons.mp hw with h1 | h1
    · rw [h1]; exact h
    · exact h1
  exact ⟨hw2, good_of_word (List.mem_filter.mp hw2).2⟩
/-- what the checks say of a method -/
theorem row_ok {r : rRow} (h : rOkR r = true) : rKn[rKj r]? = some r.1.cls ∧ plainName r.1.cls = true ∧ r.2.2.1 ≤ 20 ∧ rNa r ≤ r.2.2.1 ∧ rWc r ∈ rWs ∧ Jvm.Cond.initialized r.1.cls ∈ rWs ∧
    (r.1.cls ≠ "java/lang/invoke/MethodHandle" ∧ r.1.cls ≠ "java/lang/invoke/VarHandle" ∧ (parseMethodDescriptor r.1.desc).map (fun d => d.parameters.length) = some (rNa r - (if rSt9 r = 0 then 0 else 1))) ∧ (rSt9 r = 0 ∨ 1 ≤ rNa r) ∧
    (rSt9 r = 0 → Jvm.Cond.static r.1 ∈ rWs) ∧ (rSt9 r = 1 → Jvm.Cond.instanceMethod r.1 ∈ rWs ∧ Jvm.Cond.selects r.1.cls r.1 r.1 ∈ rWs) ∧ (2 ≤ rSt9 r → Jvm.Cond.instanceMethod r.1 ∈ rWs ∧ r.1.name = "<init>" ∧ r.2.2.2.1 = none) ∧ (rTi r).all (rChk r) = true := by
  unfold rOkR at h
  rw [Bool.and_eq_true] at h
  obtain ⟨h, hi⟩ := h
  unfold rOkW at h
  cases hK : rKn[rKj r]? with
  | none => rw [hK] at h; cases h
  | some own =>
    rw [hK] at h
    simp only [Bool.and_eq_true, decide_eq_true_eq] at h
    obtain ⟨h1, h2, h3, h4, h5, h6, h7, h8, h9, h10, h11⟩ := h
    refine ⟨by rw [h1], h2, h3, h4, rIn_mem h5, rIn_mem h6, ⟨h7, h8, h9⟩, h10, ?_, ?_, ?_, hi⟩
    · intro h0
      rw [h0] at h11
      exact rIn_mem h11
    · intro h0
      rw [h0] at h11
      have h12 : (rIn (.instanceMethod r.1) (rWd r).2.2.1 && rIn (.selects r.1.cls r.1 r.1) (rWd r).2.2.2) = true := h11
      rw [Bool.and_eq_true] at h12
      exact ⟨rIn_mem h12.1, rIn_mem h12.2⟩
    · intro h0
      split at h11
      next h9 => omega
      next h9 => omega
      next =>
        rw [Bool.and_eq_true, Bool.and_eq_true, decide_eq_true_eq] at h11
        exact ⟨rIn_mem h11.1, h11.2.1, Option.isNone_iff_eq_none.mp h11.2.2⟩
theorem res_M {K i a b : Nat} {own : String} (h : rLk rMt K i a b = true) (hK : rKn[K]? = some own) (ha : a < 10) : ∃ q, rMs[b]? = some q ∧ ((a = 0 ∧ Jvm.Cond.methodLink own i q.1 ∈ rWs ∧ rSt9 q = 1 ∧ rHh q = []) ∨ (a = 1 ∧ Jvm.Cond.methodLink own i q.1 ∈ rWs ∧ rSt9 q = 0 ∧ rHh q = []) ∨ (a = 2 ∧ Jvm.Cond.methodLink own i q.1 ∈ rWs ∧ rSt9 q = 2 ∧ rHh q = []) ∨
    (a = 4 ∧ Jvm.Cond.methodLinkNest own i q.1 "FanHouse" ∈ rNw ∧ rSt9 q = 0 ∧ rHh q = []) ∨ (a = 5 ∧ Jvm.Cond.methodLinkNest own i q.1 "FanHouse" ∈ rNw ∧ rSt9 q = 2 ∧ rHh q = []) ∨ (a = 6 ∧ Jvm.Cond.methodLink own i q.1 ∈ rWs ∧ rSt9 q = 0 ∧ rHh q ≠ [])) := by
  obtain ⟨w, hw⟩ := rLk_mem h
  have h2 := List.all_eq_true.mp rMt_ok _ hw
  unfold rOkM at h2
  dsimp only at h2
  rw [hK] at h2
  dsimp only at h2
  have ha' : a = 0 ∨ a = 1 ∨ a = 2 ∨ a = 3 ∨ a = 4 ∨ a = 5 ∨ a = 6 ∨ a = 7 ∨ a = 8 ∨ a = 9 := by omega
  cases hq : rMs[b]? with
  | none => rcases ha' with rfl | rfl | rfl | rfl | rfl | rfl | rfl | rfl | rfl | rfl <;> (rw [hq] at h2; cases h2)
  | some q =>
    refine ⟨q, rfl, ?_⟩
    rcases ha' with rfl | rfl | rfl | rfl | rfl | rfl | rfl | rfl | rfl | rfl <;> rw [hq] at h2
    · have h3 : (rIn (.methodLink own i q.1) w && (Nat.beq (rSt9 q) 1 && (rHh q).isEmpty)) = true := h2
      rw [Bool.and_eq_true, Bool.and_eq_true] at h3
      exact Or.inl ⟨rfl, rIn_mem h3.1, Nat.beq_eq.mp h3.2.1, List.isEmpty_iff.mp h3.2.2⟩
    · have h3 : (rIn (.methodLink own i q.1) w && (Nat.beq (rSt9 q) 0 && (rHh q).isEmpty)) = true := h2
      rw [Bool.and_eq_true, Bool.and_eq_true] at h3
      exact Or.inr (Or.inl ⟨rfl, rIn_mem h3.1, Nat.beq_eq.mp h3.2.1, List.isEmpty_iff.mp h3.2.2⟩)
    · have h3 : (rIn (.methodLink own i q.1) w && (Nat.beq (rSt9 q) 2 && (rHh q).isEmpty)) = true := h2
      rw [Bool.and_eq_true, Bool.and_eq_true] at h3
      exact Or.inr (Or.inr (Or.inl ⟨rfl, rIn_mem h3.1, Nat.beq_eq.mp h3.2.1, List.isEmpty_iff.mp h3.2.2⟩))
    · exact absurd (show false = true from h2) (by decide)
    · have h3 : (decide (Jvm.Cond.methodLinkNest own i q.1 "FanHouse" ∈ rNw) && (Nat.beq (rSt9 q) 0 && (rHh q).isEmpty)) = true := h2
      rw [Bool.and_eq_true, Bool.and_eq_true] at h3
      exact Or.inr (Or.inr (Or.inr (Or.inl ⟨rfl, of_decide_eq_true h3.1, Nat.beq_eq.mp h3.2.1, List.isEmpty_iff.mp h3.2.2⟩)))
    · have h3 : (decide (Jvm.Cond.methodLinkNest own i q.1 "FanHouse" ∈ rNw) && (Nat.beq (rSt9 q) 2 && (rHh q).isEmpty)) = true := h2
      rw [Bool.and_eq_true, Bool.and_eq_true] at h3
      exact Or.inr (Or.inr (Or.inr (Or.inr (Or.inl ⟨rfl, of_decide_eq_true h3.1, Nat.beq_eq.mp h3.2.1, List.isEmpty_iff.mp h3.2.2⟩))))
    · have h3 : (rIn (.methodLink own i q.1) w && (Nat.beq (rSt9 q) 0 && !(rHh q).isEmpty)) = true := h2
      rw [Bool.and_eq_true, Bool.and_eq_true] at h3
      exact Or.inr (Or.inr (Or.inr (Or.inr (Or.inr ⟨rfl, rIn_mem h3.1, Nat.beq_eq.mp h3.2.1, (fun hz => by have h4 := h3.2.2; rw [hz] at h4; cases h4)⟩))))
    · exact absurd (show false = true from h2) (by decide)
    · exact absurd (show false = true from h2) (by decide)
    · exact absurd (show false = true from h2) (by decide)
section RowsE
variable {p : Program} {l : Launch} {e : Env} {R : Room} {s : State} {m : MethodId} {args : Array Value} {below : List Frame} {meth : Method} {c : Code} {H : Heap} {locs : List Loc} {cells slots : Nat} {Q : State → Prop}
variable {cc : ByteArray} {D : va_G} {base nL pc : Nat} {ad : Nat → Nat} {ls : Array Slot} {L : rLoc} {st : List Value} {M : rMem}

/-- a call has run: the caller goes on, or what was thrown comes to its frame -/
theorem run_ok {As0 : Array Value} {rest stR : List Value} {out : rOut} {M' : rMem} {dk dn : Nat} (hrun : vx_Run p l e R s m args below meth c H locs cells slots dk dn (F0 m pc ls stR) (rest.map (rv ad)) (rQc D base ad M out M' As0) (rXC D base ad M out M') (rA base))
    (F : rF D base ad nL ls L st M s H locs) (hrest : ∀ v ∈ rest, vok M.1 v)
    (k : ∀ v, out = .inl v → rKon p l e R s m args below meth c Q D base nL ad M cells slots ((pc + 3, (L, (v.toList ++ rest, M'))), (dk, dn)))
    (kx : ∀ (x : Nat) (E : String) (ce : Cell) (q9 : Addr) (H1 : Heap) (locs1 : List Loc) (ad' : Nat → Nat), out = .inr x → rEx[x]? = some E → rEqv M.1 ad ad' → M.1 ≤ M'.1 → Rp D base M' ad' s H1 → va_S (rA base) s.heap H1 locs1 → H1[q9]? = some ce → ce.vm = .none → s.vm.findClass E = some ce.cls →
      vx_W p l e R s m args below meth c H1 locs1 (cells + dk) (slots + dn) Q (F0 m pc ls (rest.map (rv ad))) q9) : W p l e R s m args below meth c H locs cells slots Q (F0 m pc ls (stR)) := by
  intro T hT X
  rcases hrun T hT X with ⟨v, st₀, t, T', L', h0, X', hL, e1, e2, ⟨v0, ad', hv, hE, hle, ho, hvk, hR, hF⟩, stp⟩ | ⟨q, st₀, t, T', L', E, ce, h0, X', hL, e1, e2, ⟨x, ad', hx, hEx, hE, hle, hR, hF⟩, hce, hcv, hcl, stp⟩
  · cases ho
    obtain ⟨k1, k2, k3⟩ := vx_keep (A1 := rA base) h0 e1 F.2.2.2 (fun _ _ h => h) (fun _ h => h) hL hF
    have hvm : t.vm.Alike s.vm := by rw [← e2]; exact X'.warmed.alike.symm
    have hR' : Rp D base M' ad' s T'.heap := by rw [e1]; exact Rp_moved hvm hR
    have h3 := k v0 hv ad' ls T'.heap (locs ++ L') hE hle ⟨rLk9_up F.1 hE hle, fun w hw => by
      rcases List.mem_append.mp hw with h | h
      · cases v0 with
        | none => cases h
        | some y => rw [List.mem_singleton.mp h]; exact hvk y rfl
      · exact vok_le hle (hrest w h), hR', k3⟩
    have hst : (v0.toList ++ rest).map (rv ad') = (v0.map (rv ad')).toList ++ rest.map (rv ad) := by
      rw [List.map_append, rvs_eqv hE hrest]
      cases v0 <;> rfl
    rw [show (((pc + 3, (L, (v0.toList ++ rest, M'))), (dk, dn)) : rNx).1.2.2.1 = v0.toList ++ rest from rfl, hst] at h3
    obtain ⟨t2, a1, b1⟩ := h3 T' rfl X'
    exact ⟨t2, stp t2 a1, b1⟩
  · obtain ⟨k1, k2, k3⟩ := vx_keep (A1 := rA base) h0 e1 F.2.2.2 (fun _ _ h => h) (fun _ h => h) hL hF
    have hvm : t.vm.Alike s.vm := by rw [← e2]; exact X'.warmed.alike.symm
    have hR' : Rp D base M' ad' s T'.heap := by rw [e1]; exact Rp_moved hvm hR
    obtain ⟨t2, a1, b1⟩ := kx x E ce q T'.heap (locs ++ L') ad' hx hEx hE hle hR' k3 (by rw [e1]; exact hce) hcv hcl T' rfl X'
    exact ⟨t2, stp.trans a1, b1⟩
/-- the callee's start holds -/
theorem pre_ok {As : List Value} (F : rF D base ad nL ls L st M s H locs) (hC : rCn base ad s s.heap) : PreS s H (rPc D base ad As M) (As.map (rv ad)) :=
  ⟨rPc_blind, fun U hU hW => ⟨rfl, by rw [hU]; exact Rp_moved hW.alike F.2.2.1, rCn_kept hW (fun a ha hn => by rw [hU]; exact F.2.2.2.2.1 a ha hn) hC⟩⟩
end RowsE
