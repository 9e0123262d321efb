/-! ===== the plain instructions over a pure frame ===== -/
/-- a frame of the machine and its heap hold a pure frame and memory -/
def rF (D : va_G) (base : Nat) (ad : Nat → Nat) (nL : Nat) (ls : Array Slot) (L : rLoc) (st : List Value) (M : rMem) (s : State) (H : Heap) (locs : List Loc) : Prop :=
  rLk9 ad nL ls L M.1 ∧ (∀ v ∈ st, vok M.1 v) ∧ Rp D base M ad s H ∧ va_S (rA base) s.heap H locs
def rKon (p : Program) (l : Launch) (e : Env) (R : Room) (s : State) (m : MethodId) (args : Array Value) (below : List Frame) (meth : Method) (c : Code) (Q : State → Prop) (D : va_G) (base nL : Nat) (ad : Nat → Nat) (M : rMem) (cells slots : Nat) (x : rNx) : Prop :=
  ∀ (ad' : Nat → Nat) (ls' : Array Slot) (H' : Heap) (locs' : List Loc), rEqv M.1 ad ad' → M.1 ≤ x.1.2.2.2.1 → rF D base ad' nL ls' x.1.2.1 x.1.2.2.1 x.1.2.2.2 s H' locs' →
    W p l e R s m args below meth c H' locs' (cells + x.2.1) (slots + x.2.2) Q (F0 m x.1.1 ls' (x.1.2.2.1.map (rv ad')))
section RowsA

variable {p : Program} {l : Launch} {e : Env} {R : Room} {s : State} {m : MethodId} {args : Array Value} {below : List Frame} {meth : Method} {c : Code} {H : Heap} {locs : List Loc} {cells slots : Nat} {Q : State → Prop}
variable {cc : ByteArray} {D : va_G} {base nL pc : Nat} {ad : Nat → Nat} {ls : Array Slot} {L : rLoc} {st : List Value} {M : rMem}

theorem kon_same {pc1 : Nat} {st' : List Value} (F : rF D base ad nL ls L st M s H locs) (hs : ∀ v ∈ st', vok M.1 v) (k : rKon p l e R s m args below meth c Q D base nL ad M cells slots ((pc1, (L, (st', M))), (0, 0))) : W p l e R s m args below meth c H locs cells slots Q (F0 m pc1 ls (st'.map (rv ad))) :=
  k ad ls H locs (fun _ _ => rfl) (Nat.le_refl _) ⟨F.1, hs, F.2.2.1, F.2.2.2⟩
theorem rF_tl {v : Value} {r : List Value} (F : rF D base ad nL ls L (v :: r) M s H locs) : ∀ w ∈ r, vok M.1 w := fun w hw => F.2.1 w (List.mem_cons_of_mem _ hw)
theorem rF_hd {v : Value} {r : List Value} (F : rF D base ad nL ls L (v :: r) M s H locs) : vok M.1 v := F.2.1 v List.mem_cons_self
theorem ok_LdI {pc1 i : Nat} {x : rNx} (h : rLdI pc1 i L st M = some x) (F : rF D base ad nL ls L st M s H locs) (k : rKon p l e R s m args below meth c Q D base nL ad M cells slots x)
    (row : ∀ z : Int32, ls[i]? = some (.val (.int z)) → W p l e R s m args below meth c H locs cells slots Q (F0 m pc1 ls (.int z :: st.map (rv ad))) → W p l e R s m args below meth c H locs cells slots Q (F0 m pc ls (st.map (rv ad)))) : W p l e R s m args below meth c H locs cells slots Q (F0 m pc ls (st.map (rv ad))) := by
  unfold rLdI at h
  split at h
  next z hz =>
    cases h
    exact row z (rLk9_at F.1 hz) (kon_same (st' := .int z :: st) F (List.forall_mem_cons.mpr ⟨trivial, F.2.1⟩) k)
  next => cases h
theorem ok_LdA {pc1 i : Nat} {x : rNx} (h : rLdA pc1 i L st M = some x) (F : rF D base ad nL ls L st M s H locs) (k : rKon p l e R s m args below meth c Q D base nL ad M cells slots x)
    (row : ∀ z : Nat, ls[i]? = some (.val (.ref z)) → W p l e R s m args below meth c H locs cells slots Q (F0 m pc1 ls (.ref z :: st.map (rv ad))) → W p l e R s m args below meth c H locs cells slots Q (F0 m pc ls (st.map (rv ad)))) : W p l e R s m args below meth c H locs cells slots Q (F0 m pc ls (st.map (rv ad))) := by
  unfold rLdA at h
  split at h
  next z hz =>
    cases h
    exact row (ad z) (rLk9_at F.1 hz) (kon_same (st' := .ref z :: st) F (List.forall_mem_cons.mpr ⟨(F.1.2.2 _ _ hz).1, F.2.1⟩) k)
  next => cases h
theorem ok_LdN {pc1 i : Nat} {x : rNx} (h : rLdN pc1 i L st M = some x) (F : rF D base ad nL ls L st M s H locs) (k : rKon p l e R s m args below meth c Q D base nL ad M cells slots x)
    (row : ∀ z : Nat, ls[i]? = some (.val (.ref z)) → W p l e R s m args below meth c H locs cells slots Q (F0 m pc1 ls (.ref z :: st.map (rv ad))) → W p l e R s m args below meth c H locs cells slots Q (F0 m pc ls (st.map (rv ad))))
    (row2 : ls[i]? = some (.val .null) → W p l e R s m args below meth c H locs cells slots Q (F0 m pc1 ls (.null :: st.map (rv ad))) → W p l e R s m args below meth c H locs cells slots Q (F0 m pc ls (st.map (rv ad)))) : W p l e R s m args below meth c H locs cells slots Q (F0 m pc ls (st.map (rv ad))) := by
  unfold rLdN at h
  split at h
  next z hz =>
    cases h
    exact row (ad z) (rLk9_at F.1 hz) (kon_same (st' := .ref z :: st) F (List.forall_mem_cons.mpr ⟨(F.1.2.2 _ _ hz).1, F.2.1⟩) k)
  next hz =>
    cases h
    exact row2 (rLk9_at F.1 hz) (kon_same (st' := .null :: st) F (List.forall_mem_cons.mpr ⟨trivial, F.2.1⟩) k)
  next => cases h
theorem kon_set {pc1 i : Nat} {v : Value} {r : List Value} {ls1 : Array Slot} (F : rF D base ad nL ls L st M s H locs) (hv : vok M.1 v) (hc : v.category = 1) (hr : ∀ w ∈ r, vok M.1 w)
    (hl : lv_has ls1 nL ((i, rv ad v) :: (rPr ad L).filter (fun q => !(q.1 == i) && !(q.1 + 1 == i && q.2.category == 2)))) (k : rKon p l e R s m args below meth c Q D base nL ad M cells slots ((pc1, (L.set i (some v), (r, M))), (0, 0))) : W p l e R s m args below meth c H locs cells slots Q (F0 m pc1 ls1 (r.map (rv ad))) :=
  k ad ls1 H locs (fun _ _ => rfl) (Nat.le_refl _) ⟨rLk9_set F.1 hv hc hl, hr, F.2.2.1, F.2.2.2⟩

theorem ok_StI {pc1 i : Nat} {x : rNx} (h : rStI pc1 i L st M = some x) (F : rF D base ad nL ls L st M s H locs) (k : rKon p l e R s m args below meth c Q D base nL ad M cells slots x)
    (row0 : ∀ (z : Int32) (r : List Value), i < nL → (∀ ls1 : Array Slot, lv_has ls1 nL ((i, Value.int z) :: (rPr ad L).filter (fun q => !(q.1 == i) && !(q.1 + 1 == i && q.2.category == 2))) → W p l e R s m args below meth c H locs cells slots Q (F0 m pc1 ls1 (r))) → W p l e R s m args below meth c H locs cells slots Q (F0 m pc ls (Value.int z :: r))) : W p l e R s m args below meth c H locs cells slots Q (F0 m pc ls (st.map (rv ad))) := by
  unfold rStI at h
  split at h
  next z r =>
    split at h
    next hlt =>
      cases h
      exact row0 z (r.map (rv ad)) (by rw [← F.1.2.1]; exact hlt) (fun ls1 hl => kon_set F (v := .int z) trivial rfl (rF_tl F) hl k)
    next => cases h
  next => cases h

theorem ok_StA {pc1 i : Nat} {x : rNx} (h : rStA pc1 i L st M = some x) (F : rF D base ad nL ls L st M s H locs) (k : rKon p l e R s m args below meth c Q D base nL ad M cells slots x)
    (row0 : ∀ (z : Nat) (r : List Value), i < nL → (∀ ls1 : Array Slot, lv_has ls1 nL ((i, Value.ref z) :: (rPr ad L).filter (fun q => !(q.1 == i) && !(q.1 + 1 == i && q.2.category == 2))) → W p l e R s m args below meth c H locs cells slots Q (F0 m pc1 ls1 (r))) → W p l e R s m args below meth c H locs cells slots Q (F0 m pc ls (Value.ref z :: r))) : W p l e R s m args below meth c H locs cells slots Q (F0 m pc ls (st.map (rv ad))) := by
  unfold rStA at h
  split at h
  next z r =>
    split at h
    next hlt =>
      cases h
      exact row0 (ad z) (r.map (rv ad)) (by rw [← F.1.2.1]; exact hlt) (fun ls1 hl => kon_set F (rF_hd F) rfl (rF_tl F) hl k)
    next => cases h
  next => cases h

theorem ok_StN {pc1 i : Nat} {x : rNx} (h : rStN pc1 i L st M = some x) (F : rF D base ad nL ls L st M s H locs) (k : rKon p l e R s m args below meth c Q D base nL ad M cells slots x)
    (row0 : ∀ (z : Nat) (r : List Value), i < nL → (∀ ls1 : Array Slot, lv_has ls1 nL ((i, Value.ref z) :: (rPr ad L).filter (fun q => !(q.1 == i) && !(q.1 + 1 == i && q.2.category == 2))) → W p l e R s m args below meth c H locs cells slots Q (F0 m pc1 ls1 (r))) → W p l e R s m args below meth c H locs cells slots Q (F0 m pc ls (Value.ref z :: r)))
    (row1 : ∀ (r : List Value), i < nL → (∀ ls1 : Array Slot, lv_has ls1 nL ((i, Value.null) :: (rPr ad L).filter (fun q => !(q.1 == i) && !(q.1 + 1 == i && q.2.category == 2))) → W p l e R s m args below meth c H locs cells slots Q (F0 m pc1 ls1 (r))) → W p l e R s m args below meth c H locs cells slots Q (F0 m pc ls (Value.null :: r))) : W p l e R s m args below meth c H locs cells slots Q (F0 m pc ls (st.map (rv ad))) := by
  unfold rStN at h
  split at h
  next z r =>
    split at h
    next hlt =>
      cases h
      exact row0 (ad z) (r.map (rv ad)) (by rw [← F.1.2.1]; exact hlt) (fun ls1 hl => kon_set F (rF_hd F) rfl (rF_tl F) hl k)
    next => cases h
  next r =>
    split at h
    next hlt =>
      cases h
      exact row1 (r.map (rv ad)) (by rw [← F.1.2.1]; exact hlt) (fun ls1 hl => kon_set F (v := .null) trivial rfl (rF_tl F) hl k)
    next => cases h
  next => cases h

theorem ok_B2 {I : Instr} {pc1 : Nat} {x : rNx} (h : rB2 I pc1 L st M = some x) (F : rF D base ad nL ls L st M s H locs) (k : rKon p l e R s m args below meth c Q D base nL ad M cells slots x)
    (row : ∀ (y z v : Int32) (r : List Value), rBin I z y = some v → W p l e R s m args below meth c H locs cells slots Q (F0 m pc1 ls (.int v :: r)) → W p l e R s m args below meth c H locs cells slots Q (F0 m pc ls (.int y :: .int z :: r))) : W p l e R s m args below meth c H locs cells slots Q (F0 m pc ls (st.map (rv ad))) := by
  unfold rB2 at h
  split at h
  next y z r =>
    split at h
    next v hv =>
      cases h
      exact row y z v (r.map (rv ad)) hv (kon_same (st' := .int v :: r) F (List.forall_mem_cons.mpr ⟨trivial, fun w hw => rF_tl F w (List.mem_cons_of_mem _ hw)⟩) k)
    next => cases h
  next => cases h
theorem ok_To {off : Int} {x : rNx} {st1 : List Value} (h : rTo (rJ pc off) L st1 M = some x) (F : rF D base ad nL ls L st M s H locs) (hs : ∀ v ∈ st1, vok M.1 v) (k : rKon p l e R s m args below meth c Q D base nL ad M cells slots x) : ∃ tgt : Nat, (pc : Int) + off = (tgt : Int) ∧ W p l e R s m args below meth c H locs cells slots Q (F0 m tgt ls (st1.map (rv ad))) := by
  unfold rTo rJ at h
  by_cases hp : 0 ≤ (pc : Int) + off
  · rw [if_pos hp] at h
    cases h
    exact ⟨((pc : Int) + off).toNat, (Int.toNat_of_nonneg hp).symm, kon_same (st' := st1) F hs k⟩
  · rw [if_neg hp] at h
    cases h
end RowsA
