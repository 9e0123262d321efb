/-! ===== calls, ends, and the run of a method ===== -/
/-- the text of an id -/
def rTxt (x : Nat) : Option (List Nat) := if x < 10 then none else rTx[x - 10]?
/-- what is told by itself: Object(), arraycopy, length, charAt, ordinal -/
def rPrm (a pc : Nat) (L : rLoc) (st : List Value) (M : rMem) : Option rNx := match a with
  | 10 => match st with
    | .ref _ :: r => some ((pc, (L, (r, M))), (0, 0))
    | _ => none
  | 11 => match st with
    | .int n :: .int dp :: .ref y :: .int sp :: .ref x :: r =>
      match M.2 x, M.2 y with
      | some (.inl (t, (n0, .inl f))), some (.inl (t2, (n1, .inl g))) =>
        if t = 0 ∧ t2 = 0 ∧ ¬ sp < 0 ∧ ¬ dp < 0 ∧ ¬ n < 0 ∧ sp.toNatClampNeg + n.toNatClampNeg ≤ n0 ∧ dp.toNatClampNeg + n.toNatClampNeg ≤ n1 then
          some ((pc, (L, (r, rSet M y (.inl (t2, (n1, .inl (va_cpy f g sp.toNatClampNeg dp.toNatClampNeg n.toNatClampNeg))))))), (0, 0))
        else none
      | _, _ => none
    | _ => none
  | 12 => match st with
    | .ref x :: r => match rTxt x with
      | some l => some ((pc, (L, (.int (Int32.ofNat l.length) :: r, M))), (0, 0))
      | none => none
    | _ => none
  | 13 => match st with
    | .int i :: .ref x :: r => match rTxt x with
      | some l => if i < 0 ∨ l.length ≤ i.toNatClampNeg then none else some ((pc, (L, (.int (Int32.ofNat (l.getD i.toNatClampNeg 0)) :: r, M))), (0, 0))
      | none => none
    | _ => none
  | 14 => match st with
    | .ref x :: r => if x < 8 then some ((pc, (L, (.int (Int32.ofNat x) :: r, M))), (0, 0)) else none
    | _ => none
  | 15 => match st with
    | .int y :: .int x :: r => some ((pc, (L, (.int (if y < x then y else x) :: r, M))), (0, 0))
    | _ => none
  | 16 => match st with
    | .int y :: .int x :: r => some ((pc, (L, (.int (if x < y then y else x) :: r, M))), (0, 0))
    | _ => none
  | _ => none
/-- the first row of a method's table that takes exception x at pc: its handler -/
def rHnd : List (Nat × Nat × Nat × Nat) → Nat → Nat → Option Nat
  | [], _, _ => none
  | (s, e, h, ct) :: r, pc, x => if s ≤ pc ∧ pc < e then (match rFind rXn ct with
      | some y => if y = x then some h else if x = 0 ∧ y = 1 then rHnd r pc x else none
      | none => none) else rHnd r pc x
/-- a handler here stores the exception, and answers a number -/
def rCat2 (r : rRow) (i h : Nat) : Option Int32 := match rFind (rTi r) h, rFind (rTi r) (h + 1), r.2.2.2.1 with
  | some (.iconst n, _), some (.ireturn, _), some .int => if i < r.2.2.1 then some (Int32.ofInt n) else none
  | _, _, _ => none
def rCatch (r : rRow) (h : Nat) : Option Int32 := match rFind (rTi r) h with
  | some (.astore_n i, _) => rCat2 r i.val (h + 1)
  | some (.astore i, _) => rCat2 r i (h + 2)
  | _ => none
/-- a call's arguments and the rest of the stack, and whether the receiver is of the callee's class -/
def rArg (kind : Nat) (q : rRow) (st : List Value) (M : rMem) : Option (List Value × List Value) :=
  if st.length < rNa q ∨ 8 < ((st.drop (rNa q)).map (fun v => v.category)).sum then none
  else match kind, (st.take (rNa q)).reverse with
    | 1, As => some (As, st.drop (rNa q))
    | 4, As => some (As, st.drop (rNa q))
    | 6, As => some (As, st.drop (rNa q))
    | 2, .ref x :: As => some (.ref x :: As, st.drop (rNa q))
    | 5, .ref x :: As => some (.ref x :: As, st.drop (rNa q))
    | 0, .ref x :: As => match M.2 x with
      | some (.inr (ci, _)) => if rKc[ci]? = some q.2.2.2.2.1 then some (.ref x :: As, st.drop (rNa q)) else none
      | _ => none
    | _, _ => none
def rRtI (r : rRow) (st : List Value) (M : rMem) : Option (rNx ⊕ rRes) := match st, r.2.2.2.1 with
  | [.int v], some .int => some (.inr (.inl (some (.int v)), (M, (0, 0))))
  | [.int v], some .boolean => if v = 0 ∨ v = 1 then some (.inr (.inl (some (.int v)), (M, (0, 0)))) else none
  | _, _ => none
def rRtA (r : rRow) (st : List Value) (M : rMem) : Option (rNx ⊕ rRes) := match st, r.2.2.2.1 with
  | [.ref x], some (.object _) => some (.inr (.inl (some (.ref x)), (M, (0, 0))))
  | [.null], some (.object _) => some (.inr (.inl (some .null), (M, (0, 0))))
  | _, _ => none
def rRtV (r : rRow) (st : List Value) (M : rMem) : Option (rNx ⊕ rRes) := match st, r.2.2.2.1 with
  | [], none => some (.inr (.inl none, (M, (0, 0))))
  | _, _ => none
def rThr (d : Nat) (r : rRow) (a pc : Nat) (st : List Value) (M : rMem) : Option (rNx ⊕ rRes) :=
  if 10 ≤ d ∧ (a = 200 ∧ pc = 14 ∧ r.1 = ⟨"FanHouse", "allow", "(Z)V"⟩ ∨ a = 201 ∧ pc = 14 ∧ r.1 = ⟨"FanHouse", "demand", "(Z)V"⟩) ∧ st = [] ∧ rHh r = [] then some (.inr (.inr (a - 200), (M, (1, 6)))) else none
/-- a callee has thrown x -/
def rHdl (r : rRow) (pc x : Nat) (M : rMem) (dk dn : Nat) : Option (rNx ⊕ rRes) := match rHh r with
  | [] => some (.inr (.inr x, (M, (dk, dn))))
  | hh => match rHnd hh pc x with
    | none => none
    | some h => match rCatch r h with
      | some v => some (.inr (.inl (some (.int v)), (M, (dk, dn))))
      | none => none
def rInv (call : Nat → List Value → rMem → Option rRes) (d : Nat) (r : rRow) (a b pc : Nat) (L : rLoc) (st : List Value) (M : rMem) : Option (rNx ⊕ rRes) :=
  if 10 ≤ a then (if 10 ≤ d ∧ (st.map (fun v => v.category)).sum ≤ 8 then (rPrm a (pc + 3) L st M).map Sum.inl else none)
  else match rMs[b]? with
    | none => none
    | some q => match rArg a q st M with
      | none => none
      | some (As, rest) => match call b As M with
        | none => none
        | some (.inl v, (M', (dk, dn))) => some (.inl ((pc + 3, (L, (v.toList ++ rest, M'))), (dk, dn)))
        | some (.inr x, (M', (dk, dn))) => rHdl r pc x M' dk dn
/-- one instruction: a new frame, or the method's end -/
def rOne (call : Nat → List Value → rMem → Option rRes) (d : Nat) (r : rRow) (pc : Nat) (L : rLoc) (st : List Value) (M : rMem) : Option (rNx ⊕ rRes) := match rFind (rTi r) pc with
  | none => none
  | some (I, (_, (a, b))) => match I with
    | .ireturn => rRtI r st M
    | .areturn => rRtA r st M
    | .return_ => rRtV r st M
    | .new _ => if 200 ≤ a then rThr d r a pc st M else (rStp I a b pc L st M).map Sum.inl
    | .invokevirtual _ => rInv call d r a b pc L st M
    | .invokestatic _ => rInv call d r a b pc L st M
    | .invokespecial _ => rInv call d r a b pc L st M
    | _ => (rStp I a b pc L st M).map Sum.inl
def rGo (call : Nat → List Value → rMem → Option rRes) (d : Nat) (r : rRow) : Nat → Nat → rLoc → List Value → rMem → Nat → Nat → Option rRes
  | 0, _, _, _, _, _, _ => none
  | f + 1, pc, L, st, M, k, n => match rOne call d r pc L st M with
    | none => none
    | some (.inl ((pc', (L', (st', M'))), (dk, dn))) => rGo call d r f pc' L' st' M' (k + dk) (n + dn)
    | some (.inr (o, (M', (dk, dn)))) => some (o, (M', (k + dk, n + dn)))
def rIni (As : List Value) (mx : Nat) : rLoc := As.map some ++ List.replicate (mx - As.length) none
/-- method j with these arguments: depth d of calls at most, f instructions a frame at most -/
def rRun : Nat → Nat → Nat → List Value → rMem → Option rRes
  | 0, _, _, _, _ => none
  | d + 1, f, j, As, M => match rMs[j]? with
    | none => none
    | some r => if As.length = rNa r ∧ (As.all (fun v => decide (v.category = 1))) = true then rGo (rRun d f) (d + 1) r f 0 (rIni As r.2.2.1) [] M 0 0 else none
theorem rGo_mono {call : Nat → List Value → rMem → Option rRes} {d : Nat} {r : rRow} : ∀ (f pc : Nat) (L : rLoc) (st : List Value) (M : rMem) (k n : Nat) (o : rOut) (M' : rMem) (k' n' : Nat), rGo call d r f pc L st M k n = some (o, (M', (k', n'))) → k ≤ k' ∧ n ≤ n' := by
  intro f
  induction f with
  | zero => intro pc L st M k n o M' k' n' h; cases h
  | succ f ih =>
    intro pc L st M k n o M' k' n' h
    unfold rGo at h
    split at h
    next => cases h
    next pc2 L2 st2 M2 dk dn _ =>
      have := ih _ _ _ _ _ _ _ _ _ _ h
      omega
    next o2 M2 dk dn _ =>
      cases h
      omega
