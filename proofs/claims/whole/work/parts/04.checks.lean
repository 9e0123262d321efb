
/-! ===== the tables are right (by the kernel) ===== -/
def rWs : List Cond := lw_tbl.filter goodWord
def rIn (w : Cond) (i : Nat) : Bool := goodWord w && decide (lw_tbl[i]? = some w)
theorem rIn_mem {w : Cond} {i : Nat} (h : rIn w i = true) : w ∈ rWs := by
  simp only [rIn, Bool.and_eq_true, decide_eq_true_eq] at h
  exact List.mem_filter.mpr ⟨List.mem_of_getElem? h.2, h.1⟩
def rNw : List Cond := [.methodLinkNest "FanHouse" 9 ⟨"FanHouse$Tape", "<init>", "()V"⟩ "FanHouse", .methodLinkNest "FanHouse" 18 ⟨"FanHouse$Work", "<init>", "()V"⟩ "FanHouse", .methodLinkNest "FanHouse$Keep" 11 ⟨"FanHouse$Fan", "<init>", "()V"⟩ "FanHouse", .methodLinkNest "FanHouse" 36 ⟨"FanHouse$Fan", "<init>", "()V"⟩ "FanHouse", .methodLinkNest "FanHouse" 43 ⟨"FanHouse$Ways", "<init>", "()V"⟩ "FanHouse", .methodLinkNest "FanHouse$Ways" 11 ⟨"FanHouse$Fan", "<init>", "()V"⟩ "FanHouse", .methodLinkNest "FanHouse" 50 ⟨"FanHouse$Fitting", "<init>", "()V"⟩ "FanHouse", .methodLinkNest "FanHouse$Fitting" 11 ⟨"FanHouse$Fan", "<init>", "()V"⟩ "FanHouse", .methodLinkNest "FanHouse" 57 ⟨"FanHouse$Years", "<init>", "()V"⟩ "FanHouse", .methodLinkNest "FanHouse$Years" 11 ⟨"FanHouse$Fan", "<init>", "()V"⟩ "FanHouse", .methodLinkNest "FanHouse" 78 ⟨"FanHouse$Picture", "<init>", "()V"⟩ "FanHouse", .methodLinkNest "FanHouse" 85 ⟨"FanHouse$Book", "<init>", "()V"⟩ "FanHouse", .methodLinkNest "FanHouse$Fan" 115 ⟨"FanHouse", "isWithin", "(III)Z"⟩ "FanHouse", .methodLinkNest "FanHouse$Tape" 56 ⟨"FanHouse", "isWithin", "(III)Z"⟩ "FanHouse", .methodLinkNest "FanHouse$Work" 107 ⟨"FanHouse", "isWithin", "(III)Z"⟩ "FanHouse", .methodLinkNest "FanHouse$Ways" 52 ⟨"FanHouse", "isWithin", "(III)Z"⟩ "FanHouse", .methodLinkNest "FanHouse$Fitting" 84 ⟨"FanHouse", "isWithin", "(III)Z"⟩ "FanHouse", .fieldLinkNest "FanHouse$Work" 61 "FanHouse$Step" "numbers" "Ljava/lang/String;" "FanHouse"]
def rLk (t : List (Nat × Nat × Nat × Nat × Nat)) (K i a b : Nat) : Bool := t.any (fun q => Nat.beq q.1 K && (Nat.beq q.2.1 i && (Nat.beq q.2.2.1 a && Nat.beq q.2.2.2.1 b)))
def rKj (r : rRow) : Nat := r.2.2.2.2.1
def rSt9 (r : rRow) : Nat := r.2.2.2.2.2.2.2.1
def rWd (r : rRow) : Nat × Nat × Nat × Nat := r.2.2.2.2.2.2.2.2.1
/-- a field table's row -/
def rOkF (q : Nat × Nat × Nat × Nat × Nat) : Bool := match rKn[q.1]?, rCl[q.2.2.1]? with
  | some own, some r => rIn (.fieldLink own q.2.1 (r.2.1 q.2.2.2.1).1 (r.2.1 q.2.2.2.1).2.1 (r.2.1 q.2.2.2.1).2.2.1) q.2.2.2.2 && decide (q.2.2.2.1 < r.2.2)
  | _, _ => false
def rOkM (q : Nat × Nat × Nat × Nat × Nat) : Bool := match rKn[q.1]? with
  | some own => match q.2.2.1 with
    | 10 => rIn (.methodLink own q.2.1 Lib.objectInit) q.2.2.2.2
    | 11 => rIn (.methodLink own q.2.1 arraycopyName) q.2.2.2.2
    | 12 => rIn (.methodLink own q.2.1 ⟨"java/lang/String", "length", "()I"⟩) q.2.2.2.2
    | 13 => rIn (.methodLink own q.2.1 ⟨"java/lang/String", "charAt", "(I)C"⟩) q.2.2.2.2
    | 14 => rIn (.methodLink own q.2.1 ⟨"FanHouse$Step", "ordinal", "()I"⟩) q.2.2.2.2
    | 15 => rIn (.methodLink own q.2.1 Lib.Math.min.name) q.2.2.2.2
    | 16 => rIn (.methodLink own q.2.1 Lib.Math.max.name) q.2.2.2.2
    | 20 => true
    | k => match rMs[q.2.2.2.1]? with
      | none => false
      | some r => match k with
        | 0 => rIn (.methodLink own q.2.1 r.1) q.2.2.2.2 && (Nat.beq (rSt9 r) 1 && (rHh r).isEmpty)
        | 1 => rIn (.methodLink own q.2.1 r.1) q.2.2.2.2 && (Nat.beq (rSt9 r) 0 && (rHh r).isEmpty)
        | 2 => rIn (.methodLink own q.2.1 r.1) q.2.2.2.2 && (Nat.beq (rSt9 r) 2 && (rHh r).isEmpty)
        | 4 => decide (Cond.methodLinkNest own q.2.1 r.1 "FanHouse" ∈ rNw) && (Nat.beq (rSt9 r) 0 && (rHh r).isEmpty)
        | 5 => decide (Cond.methodLinkNest own q.2.1 r.1 "FanHouse" ∈ rNw) && (Nat.beq (rSt9 r) 2 && (rHh r).isEmpty)
        | 6 => rIn (.methodLink own q.2.1 r.1) q.2.2.2.2 && (Nat.beq (rSt9 r) 0 && !(rHh r).isEmpty)
        | _ => false
  | none => false
def rOkN (q : Nat × Nat × Nat × Nat × Nat) : Bool := match rKn[q.1]? with
  | some own => if q.2.2.1 < 100 then (match rCl[q.2.2.1]? with
      | some r => rIn (.classLink own q.2.1 r.1) q.2.2.2.2 && (decide (Cond.instantiable r.1 r.2.2 ∈ lw_tbl) && decide (Cond.initialized r.1 ∈ lw_tbl))
      | none => false) else (match rEx[q.2.2.1 - 200]? with
      | some x => rIn (.classLink own q.2.1 x) q.2.2.2.2 && decide (Cond.initialized x ∈ lw_tbl)
      | none => false)
  | none => false
def rOkA (q : Nat × Nat × Nat × Nat × Nat) : Bool := match rKn[q.1]?, rTy q.2.2.1 with
  | some own, .object C => rIn (.classLink own q.2.1 C) q.2.2.2.2 && decide (Cond.arrayOver (.object C) ∈ lw_tbl)
  | _, _ => false
def rOkL (q : Nat × Nat × Nat × Nat × Nat) : Bool := match rKn[q.1]? with
  | some own => if q.2.2.1 = 0 then rIn (.constant own q.2.1 (Int32.ofNat q.2.2.2.1)) q.2.2.2.2 else (match rSTR[q.2.2.2.1 - 10]? with
      | some t => decide (lw_tbl[q.2.2.2.2]? = some (.stringRef own q.2.1 t)) && decide (10 ≤ q.2.2.2.1)
      | none => false)
  | none => false
/-- the classes of the worlds -/
def rOkC (ci : Nat) : Bool := match rCl[ci]?, rFk[ci]?, rKc[ci]? with
  | some r, some l, some K => ((u_ws r.1 r.2.1 r.2.2).all (fun w => goodWord w && decide (w ∈ lw_tbl))) && (Nat.beq l.length r.2.2 && (decide (rKn[K]? = some r.1) && (List.range r.2.2).all (fun k => match l[k]?, parseFieldDescriptor (r.2.1 k).2.2.1 with
      | some true, some .int => true
      | some false, some (.object _) => true
      | some false, some (.array _) => true
      | _, _ => false)))
  | _, _, _ => false
def rRsv (r : rRow) (e : Nat × (Instr × (Nat × (Nat × Nat)))) : Bool := match e.2.1 with
    | .getfield i => if e.2.2.2.1 < 100 then rLk rFt (rKj r) i e.2.2.2.1 e.2.2.2.2 else (e.2.2.2.1 == 100 && rKj r == 7 && e.2.2.2.2 == 0 && i == 47) || (e.2.2.2.1 == 101 && rKj r == 10 && e.2.2.2.2 == 1 && i == 61)
    | .putfield i => rLk rFt (rKj r) i e.2.2.2.1 e.2.2.2.2 && (match rCl[e.2.2.2.1]? with
      | some q => if (q.2.1 e.2.2.2.2).2.2.2 = true then decide (r.1.name = "<init>") && decide ((q.2.1 e.2.2.2.2).1 = r.1.cls) else true
      | none => false)
    | .getstatic i => rLk rSt (rKj r) i e.2.2.2.1 e.2.2.2.2
    | .new i => rLk rNt (rKj r) i e.2.2.2.1 e.2.2.2.2
    | .anewarray i => rLk rAt (rKj r) i e.2.2.2.1 e.2.2.2.2
    | .newarray t => match t with
      | .int => e.2.2.2.1 == 0
      | .long => e.2.2.2.1 == 1
      | _ => false
    | .ldc i => if e.2.2.2.1 < 2 then rLk rLt (rKj r) i e.2.2.2.1 e.2.2.2.2 else true
    | .ldc_w i => if e.2.2.2.1 < 2 then rLk rLt (rKj r) i e.2.2.2.1 e.2.2.2.2 else true
    | .invokevirtual i => rLk rMt (rKj r) i e.2.2.2.1 e.2.2.2.2 && (e.2.2.2.1 == 0 || e.2.2.2.1 == 12 || e.2.2.2.1 == 13 || e.2.2.2.1 == 14)
    | .invokestatic i => rLk rMt (rKj r) i e.2.2.2.1 e.2.2.2.2 && (e.2.2.2.1 == 1 || e.2.2.2.1 == 4 || e.2.2.2.1 == 6 || e.2.2.2.1 == 11 || e.2.2.2.1 == 15 || e.2.2.2.1 == 16)
    | .invokespecial i => rLk rMt (rKj r) i e.2.2.2.1 e.2.2.2.2 && (e.2.2.2.1 == 2 || e.2.2.2.1 == 5 || e.2.2.2.1 == 10 || e.2.2.2.1 == 20)
    | .ifCond _ off => decide (0 ≤ (e.1 : Int) + off)
    | .if_icmp _ off => decide (0 ≤ (e.1 : Int) + off)
    | .if_acmp _ off => decide (0 ≤ (e.1 : Int) + off)
    | .lookupswitch _ ps => (ps.toList.zip (ps.toList.drop 1)).all (fun (a, next) => a.1 < next.1)
    | _ => true
def rChk (r : rRow) (e : Nat × (Instr × (Nat × (Nat × Nat)))) : Bool :=
  decide (decode r.2.1 e.1 = .ok (e.2.1, e.2.2.1)) && ((match rLen e.2.1 with
    | some n => Nat.beq n e.2.2.1
    | none => true) && rRsv r e)
def rOkW (r : rRow) : Bool := match rKn[rKj r]? with
  | some own => decide (own = r.1.cls) && (plainName r.1.cls && (decide (r.2.2.1 ≤ 20) && (decide (rNa r ≤ r.2.2.1) &&
      (rIn (match rHh r with
        | [] => .code r.1 r.2.1 r.2.2.1 r.2.2.2.1
        | hh => .codeWith r.1 r.2.1 r.2.2.1 r.2.2.2.1 hh) (rWd r).1 && (rIn (.initialized r.1.cls) (rWd r).2.1 &&
      (decide (r.1.cls ≠ "java/lang/invoke/MethodHandle") && (decide (r.1.cls ≠ "java/lang/invoke/VarHandle") &&
      (decide ((parseMethodDescriptor r.1.desc).map (fun d => d.parameters.length) = some (rNa r - (if rSt9 r = 0 then 0 else 1))) && (decide (rSt9 r = 0 ∨ 1 ≤ rNa r) &&
      (match rSt9 r with
        | 0 => rIn (.static r.1) (rWd r).2.2.1
        | 1 => rIn (.instanceMethod r.1) (rWd r).2.2.1 && rIn (.selects r.1.cls r.1 r.1) (rWd r).2.2.2
        | _ => rIn (.instanceMethod r.1) (rWd r).2.2.1 && (decide (r.1.name = "<init>") && r.2.2.2.1.isNone)))))))))))
  | none => false
def rOkR (r : rRow) : Bool := rOkW r && (rTi r).all (rChk r)
