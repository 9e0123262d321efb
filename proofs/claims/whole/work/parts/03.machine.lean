/-! ===== the pure machine: cells, memory, values; ids below 100 are constants ===== -/
/-- the enum's constants (ids 0 ..): their texts word and numbers -/
def rEw : List Nat := [15, 24, 26, 28, 18, 14, 23, 11]
def rEn : List Nat := [31, 10, 21, 17, 19, 10, 10, 27]
def rEnm : List String := ["OPEN", "SHUT", "SWAP", "TURN", "PAINT", "OIL", "SEASON", "AGAIN"]
/-- the switch map, by ordinals -/
def rSw : List Nat := [1, 2, 3, 4, 5, 6, 0, 0]
/-- the texts (ids from 10 on), as codes -/
def rTx : List (List Nat) := [[], [97, 103, 97, 105, 110], [108, 101, 97, 115, 116], [109, 111, 115, 116], [111, 105, 108], [111, 112, 101, 110], [111, 112, 101, 110, 101, 100], [112], [112, 97, 105, 110, 116], [112, 104, 109], [112, 111, 116, 115], [112, 112], [114, 105, 118, 101, 116], [115, 101, 97, 115, 111, 110], [115, 104, 117, 116], [115, 116, 105, 99, 107], [115, 119, 97, 112], [116], [116, 117, 114, 110], [116, 117, 114, 110, 101, 100], [118, 105, 101, 119], [118, 110], [119, 101, 97, 114], [119, 105, 100, 101]]
/-- is a field of a class a number (else a reference) -/
def rFk : List (List Bool) := [[false, false, false, true], [true, true, true, true, true, true, true, true, true, false, false], [false, false, false, true, true, true], [false, false, true], [false, false, false, true], [false, true], [false, true, true, true, true, true], [false, true, false, false, false, true], [false, false, false, true, true, true, true], [false, true, true], [false, false, false, false, false, false, false, false, false, false, false, false, false, false, true, true, true, true], [true, false, true, true, true, true, true, true, true, false, false, false, true, true, true, true, true, true, false, false, false, false, false, true, true, false, false, false, true, true, true, true, true, true, false, false, false, false, false, false, false, false, true, false, false, false, false, false, true, false, true, false, true]]
/-- own class of the objects of a class -/
def rKc : List Nat := [1, 2, 3, 4, 5, 6, 8, 9, 10, 11, 12, 13]
/-- exceptions, by their entries in the law's file -/
def rXn : List (Nat × Nat) := [(13, 0), (34, 1)]
def rEx : List String := ["java/lang/IllegalArgumentException", "java/util/NoSuchElementException"]
def rTy (t : Nat) : FieldType := match t with
  | 0 => .int
  | 1 => .long
  | 2 => .object "FanHouse$Keep"
  | 3 => .object "FanHouse$Picture"
  | 4 => .object "FanHouse$Fan"
  | _ => .object "FanHouse$Step"
/-- the class of the objects that a row of references holds -/
def rAc (t : Nat) : Option Nat := match t with
  | 2 => some 3
  | 3 => some 5
  | 4 => some 1
  | _ => none
abbrev rArr : Type := (Nat → Int32) ⊕ ((Nat → Int64) ⊕ (Nat → Option Nat))
abbrev rCell : Type := (Nat × (Nat × rArr)) ⊕ (Nat × List Value)
abbrev rMem : Type := Nat × (Nat → Option rCell)
abbrev rLoc : Type := List (Option Value)
abbrev rOut : Type := Option Value ⊕ Nat
abbrev rRes : Type := rOut × (rMem × (Nat × Nat))
abbrev rCfg : Type := Nat × (rLoc × (List Value × rMem))
def rSet (M : rMem) (i : Nat) (c : rCell) : rMem := (M.1, fun j => if j = i then some c else M.2 j)
def rAdd (M : rMem) (c : rCell) : rMem := (M.1 + 1, fun j => if j = M.1 then some c else M.2 j)
def rFind {α : Type} : List (Nat × α) → Nat → Option α
  | [], _ => none
  | (k, v) :: r, n => bif Nat.beq k n then some v else rFind r n
def rJ (pc : Nat) (off : Int) : Option Nat := if 0 ≤ (pc : Int) + off then some ((pc : Int) + off).toNat else none
def rDf (a : Nat) : List Value := ((rFk[a]?).getD []).map (fun b => match b with | true => .int 0 | false => .null)
def rBin (I : Instr) (x y : Int32) : Option Int32 := match I with
  | .iadd => some (x + y)
  | .isub => some (x - y)
  | .imul => some (x * y)
  | .idiv => if y = 0 then none else some (x / y)
  | .irem => if y = 0 then none else some (x - x / y * y)
  | .iand => some (x &&& y)
  | .ior => some (x ||| y)
  | .ixor => some (x ^^^ y)
  | .ishl => some (x <<< (y &&& 31))
  | .ishr => some (x >>> (y &&& 31))
  | .iushr => some (x.toUInt32 >>> (y.toUInt32 &&& Int32.toUInt32 31)).toInt32
  | _ => none
def rCmp (k : ClassFile.Cond) (x y : Int32) : Bool := match k with
  | .eq => decide (x = y)
  | .ne => !decide (x = y)
  | .lt => decide (x < y)
  | .ge => decide (y ≤ x)
  | .gt => decide (y < x)
  | .le => decide (x ≤ y)
abbrev rNx : Type := rCfg × (Nat × Nat)
def rTo (t : Option Nat) (L : rLoc) (st : List Value) (M : rMem) : Option rNx := match t with
  | some pc => some ((pc, (L, (st, M))), (0, 0))
  | none => none
def rLdI (pc : Nat) (i : Nat) (L : rLoc) (st : List Value) (M : rMem) : Option rNx := match L[i]? with
  | some (some (.int x)) => some ((pc, (L, (.int x :: st, M))), (0, 0))
  | _ => none
def rLdA (pc : Nat) (i : Nat) (L : rLoc) (st : List Value) (M : rMem) : Option rNx := match L[i]? with
  | some (some (.ref x)) => some ((pc, (L, (.ref x :: st, M))), (0, 0))
  | _ => none
def rLdN (pc : Nat) (i : Nat) (L : rLoc) (st : List Value) (M : rMem) : Option rNx := match L[i]? with
  | some (some (.ref x)) => some ((pc, (L, (.ref x :: st, M))), (0, 0))
  | some (some .null) => some ((pc, (L, (.null :: st, M))), (0, 0))
  | _ => none
def rStI (pc : Nat) (i : Nat) (L : rLoc) (st : List Value) (M : rMem) : Option rNx := match st with
  | .int x :: r => if i < L.length then some ((pc, (L.set i (some (.int x)), (r, M))), (0, 0)) else none
  | _ => none
def rStA (pc : Nat) (i : Nat) (L : rLoc) (st : List Value) (M : rMem) : Option rNx := match st with
  | .ref x :: r => if i < L.length then some ((pc, (L.set i (some (.ref x)), (r, M))), (0, 0)) else none
  | _ => none
def rStN (pc : Nat) (i : Nat) (L : rLoc) (st : List Value) (M : rMem) : Option rNx := match st with
  | .ref x :: r => if i < L.length then some ((pc, (L.set i (some (.ref x)), (r, M))), (0, 0)) else none
  | .null :: r => if i < L.length then some ((pc, (L.set i (some .null), (r, M))), (0, 0)) else none
  | _ => none
def rGet (a b pc : Nat) (L : rLoc) (st : List Value) (M : rMem) : Option rNx := match st with
  | .ref x :: r =>
    if a < 100 then
      match M.2 x with
      | some (.inr (ci, fs)) => if ci = a then (match fs[b]? with | some v => some ((pc, (L, (v :: r, M))), (0, 0)) | none => none) else none
      | _ => none
    else match ((if b = 0 then rEw else rEn)[x]?) with
      | some t => some ((pc, (L, (.ref t :: r, M))), (0, 0))
      | none => none
  | _ => none
def rFit (a b : Nat) (v : Value) : Bool := match (rFk[a]?).bind (fun l => l[b]?), v with
  | some true, .int _ => true
  | some false, .ref _ => true
  | _, _ => false
def rPut (a b pc : Nat) (L : rLoc) (st : List Value) (M : rMem) : Option rNx := match st with
  | v :: .ref x :: r =>
    match M.2 x with
    | some (.inr (ci, fs)) => if ci = a ∧ b < fs.length ∧ rFit a b v = true then some ((pc, (L, (r, rSet M x (.inr (ci, fs.set b v))))), (0, 0)) else none
    | _ => none
  | _ => none
def rIald (a pc : Nat) (L : rLoc) (st : List Value) (M : rMem) : Option rNx := match st with
  | .int i :: .ref x :: r =>
    if a = 0 then
      match M.2 x with
      | some (.inl (t, (n, .inl f))) => if t = 0 ∧ ¬ (i < 0 ∨ n ≤ i.toNatClampNeg) then some ((pc, (L, (.int (f i.toNatClampNeg) :: r, M))), (0, 0)) else none
      | _ => none
    else if x = 9 ∧ ¬ (i < 0 ∨ 8 ≤ i.toNatClampNeg) then some ((pc, (L, (.int (Int32.ofNat (rSw.getD i.toNatClampNeg 0)) :: r, M))), (0, 0)) else none
  | _ => none
def rIast (pc : Nat) (L : rLoc) (st : List Value) (M : rMem) : Option rNx := match st with
  | .int v :: .int i :: .ref x :: r =>
    match M.2 x with
    | some (.inl (t, (n, .inl f))) => if t = 0 ∧ ¬ (i < 0 ∨ n ≤ i.toNatClampNeg) then some ((pc, (L, (r, rSet M x (.inl (t, (n, .inl (upd f i.toNatClampNeg v))))))), (0, 0)) else none
    | _ => none
  | _ => none
def rLald (pc : Nat) (L : rLoc) (st : List Value) (M : rMem) : Option rNx := match st with
  | .int i :: .ref x :: r =>
    match M.2 x with
    | some (.inl (t, (n, .inr (.inl f)))) => if t = 1 ∧ ¬ (i < 0 ∨ n ≤ i.toNatClampNeg) then some ((pc, (L, (.long (f i.toNatClampNeg) :: r, M))), (0, 0)) else none
    | _ => none
  | _ => none
def rLast (pc : Nat) (L : rLoc) (st : List Value) (M : rMem) : Option rNx := match st with
  | .long v :: .int i :: .ref x :: r =>
    match M.2 x with
    | some (.inl (t, (n, .inr (.inl f)))) => if t = 1 ∧ ¬ (i < 0 ∨ n ≤ i.toNatClampNeg) then some ((pc, (L, (r, rSet M x (.inl (t, (n, .inr (.inl (vp_updL f i.toNatClampNeg v)))))))), (0, 0)) else none
    | _ => none
  | _ => none
def rOv (r : Option Nat) : Value := match r with
  | some y => .ref y
  | none => .null
def rAald (a pc : Nat) (L : rLoc) (st : List Value) (M : rMem) : Option rNx := match st with
  | .int i :: .ref x :: r =>
    if a = 0 then
      match M.2 x with
      | some (.inl (t, (n, .inr (.inr f)))) => if 2 ≤ t ∧ ¬ (i < 0 ∨ n ≤ i.toNatClampNeg) then some ((pc, (L, (rOv (f i.toNatClampNeg) :: r, M))), (0, 0)) else none
      | _ => none
    else if x = 8 ∧ ¬ (i < 0 ∨ 8 ≤ i.toNatClampNeg) then some ((pc, (L, (.ref i.toNatClampNeg :: r, M))), (0, 0)) else none
  | _ => none
def rAast (pc : Nat) (L : rLoc) (st : List Value) (M : rMem) : Option rNx := match st with
  | .ref v :: .int i :: .ref x :: r =>
    match M.2 x with
    | some (.inl (t, (n, .inr (.inr f)))) =>
      if ¬ (i < 0 ∨ n ≤ i.toNatClampNeg) then
        if t = 5 then (if v < 8 then some ((pc, (L, (r, rSet M x (.inl (t, (n, .inr (.inr (va_up f i.toNatClampNeg (some v))))))))), (0, 0)) else none)
        else match M.2 v, rAc t with
          | some (.inr (ci, _)), some cj => if ci = cj then some ((pc, (L, (r, rSet M x (.inl (t, (n, .inr (.inr (va_up f i.toNatClampNeg (some v))))))))), (0, 0)) else none
          | _, _ => none
      else none
    | _ => none
  | _ => none
def rAlen (a pc : Nat) (L : rLoc) (st : List Value) (M : rMem) : Option rNx := match st with
  | .ref x :: r =>
    if a = 0 then
      match M.2 x with
      | some (.inl (_, (n, _))) => some ((pc, (L, (.int (Int32.ofNat n) :: r, M))), (0, 0))
      | _ => none
    else if x = 8 then some ((pc, (L, (.int 8 :: r, M))), (0, 0)) else none
  | _ => none
def rNew (a pc : Nat) (L : rLoc) (st : List Value) (M : rMem) : Option rNx :=
  if a < 12 then some ((pc, (L, (.ref M.1 :: st, rAdd M (.inr (a, rDf a))))), (1, (rDf a).length)) else none
def rNwa (a pc : Nat) (L : rLoc) (st : List Value) (M : rMem) : Option rNx := match st with
  | .int n :: r =>
    if n < 0 ∨ 100000 < n.toNatClampNeg then none
    else if a = 0 then some ((pc, (L, (.ref M.1 :: r, rAdd M (.inl (0, (n.toNatClampNeg, .inl (fun _ => 0))))))), (1, n.toNatClampNeg))
    else if a = 1 then some ((pc, (L, (.ref M.1 :: r, rAdd M (.inl (1, (n.toNatClampNeg, .inr (.inl (fun _ => 0)))))))), (1, n.toNatClampNeg))
    else none
  | _ => none
def rNwq (a pc : Nat) (L : rLoc) (st : List Value) (M : rMem) : Option rNx := match st with
  | .int n :: r =>
    if n < 0 ∨ 100000 < n.toNatClampNeg ∨ a < 2 ∨ 5 < a then none
    else some ((pc, (L, (.ref M.1 :: r, rAdd M (.inl (a, (n.toNatClampNeg, .inr (.inr (fun _ => none)))))))), (1, n.toNatClampNeg))
  | _ => none
def rB2 (I : Instr) (pc : Nat) (L : rLoc) (st : List Value) (M : rMem) : Option rNx := match st with
  | .int y :: .int x :: r => match rBin I x y with
    | some v => some ((pc, (L, (.int v :: r, M))), (0, 0))
    | none => none
  | _ => none
def rI2l (pc : Nat) (L : rLoc) (st : List Value) (M : rMem) : Option rNx := match st with
  | .int x :: r => some ((pc, (L, (.long x.toInt64 :: r, M))), (0, 0))
  | _ => none
def rLcm (pc : Nat) (L : rLoc) (st : List Value) (M : rMem) : Option rNx := match st with
  | .long y :: .long x :: r => some ((pc, (L, (.int (lg_cmp x y) :: r, M))), (0, 0))
  | _ => none
def rDup (pc : Nat) (L : rLoc) (st : List Value) (M : rMem) : Option rNx := match st with
  | v :: r => if v.category = 1 then some ((pc, (L, (v :: v :: r, M))), (0, 0)) else none
  | _ => none
def rDu2 (pc : Nat) (L : rLoc) (st : List Value) (M : rMem) : Option rNx := match st with
  | v :: w :: r => if v.category = 1 ∧ w.category = 1 then some ((pc, (L, (v :: w :: v :: w :: r, M))), (0, 0)) else none
  | _ => none
def rPop (pc : Nat) (L : rLoc) (st : List Value) (M : rMem) : Option rNx := match st with
  | v :: r => if v.category = 1 then some ((pc, (L, (r, M))), (0, 0)) else none
  | _ => none
def rIf1 (k : ClassFile.Cond) (off : Int) (pc : Nat) (L : rLoc) (st : List Value) (M : rMem) : Option rNx := match st with
  | .int x :: r => if rCmp k x 0 = true then rTo (rJ pc off) L r M else some ((pc + 3, (L, (r, M))), (0, 0))
  | _ => none
def rIf2 (k : ClassFile.Cond) (off : Int) (pc : Nat) (L : rLoc) (st : List Value) (M : rMem) : Option rNx := match st with
  | .int y :: .int x :: r => if rCmp k x y = true then rTo (rJ pc off) L r M else some ((pc + 3, (L, (r, M))), (0, 0))
  | _ => none
def rAcm (off : Int) (pc : Nat) (L : rLoc) (st : List Value) (M : rMem) : Option rNx := match st with
  | .ref y :: .ref x :: r => if x < 8 ∧ y < 8 then (if x = y then some ((pc + 3, (L, (r, M))), (0, 0)) else rTo (rJ pc off) L r M) else none
  | _ => none
def rInl (off : Int) (pc : Nat) (L : rLoc) (st : List Value) (M : rMem) : Option rNx := match st with
  | .ref _ :: r => some ((pc + 3, (L, (r, M))), (0, 0))
  | .null :: r => rTo (rJ pc off) L r M
  | _ => none
def rTsw (dflt lo hi : Int) (offs : Array Int) (pc : Nat) (L : rLoc) (st : List Value) (M : rMem) : Option rNx := match st with
  | .int x :: r => if x.toInt < lo ∨ hi < x.toInt then rTo (rJ pc dflt) L r M else match offs[(x.toInt - lo).toNat]? with
    | some off => rTo (rJ pc off) L r M
    | none => none
  | _ => none
def rLsw (dflt : Int) (ps : Array (Int × Int)) (pc : Nat) (L : rLoc) (st : List Value) (M : rMem) : Option rNx := match st with
  | .int x :: r => rTo (rJ pc (Op.lookupswitch.offset ps.toList dflt x.toInt)) L r M
  | _ => none
def rLdc (a b pc : Nat) (L : rLoc) (st : List Value) (M : rMem) : Option rNx :=
  if a = 0 then some ((pc, (L, (.int (Int32.ofNat b) :: st, M))), (0, 0)) else if a = 1 then some ((pc, (L, (.ref b :: st, M))), (0, 0)) else none
def rInc (i : Nat) (n : Int) (pc : Nat) (L : rLoc) (st : List Value) (M : rMem) : Option rNx := match L[i]? with
  | some (some (.int x)) => some ((pc, (L.set i (some (.int (x + Int32.ofInt n))), (st, M))), (0, 0))
  | _ => none
def rGts (a pc : Nat) (L : rLoc) (st : List Value) (M : rMem) : Option rNx :=
  if a = 0 then some ((pc, (L, (.ref 8 :: st, M))), (0, 0)) else if a = 1 then some ((pc, (L, (.ref 7 :: st, M))), (0, 0)) else if a = 2 then some ((pc, (L, (.ref 9 :: st, M))), (0, 0)) else none
/-- an instruction that isn't a call nor an end: the place behind it, the new frame and memory, what it makes -/
def rStp (I : Instr) (a b pc : Nat) (L : rLoc) (st : List Value) (M : rMem) : Option rNx := match I with
  | .aload_n i => rLdA (pc + 1) i.val L st M
  | .aload i => rLdN (pc + 2) i L st M
  | .iload_n i => rLdI (pc + 1) i.val L st M
  | .iload i => rLdI (pc + 2) i L st M
  | .istore_n i => rStI (pc + 1) i.val L st M
  | .istore i => rStI (pc + 2) i L st M
  | .astore_n i => rStA (pc + 1) i.val L st M
  | .astore i => rStN (pc + 2) i L st M
  | .iconst n => some ((pc + 1, (L, (.int (Int32.ofInt n) :: st, M))), (0, 0))
  | .bipush n => some ((pc + 2, (L, (.int (Int8.ofInt n).toInt32 :: st, M))), (0, 0))
  | .sipush n => some ((pc + 3, (L, (.int (Int16.ofInt n).toInt32 :: st, M))), (0, 0))
  | .lconst n => some ((pc + 1, (L, (.long (Int64.ofNat n.val) :: st, M))), (0, 0))
  | .aconst_null => some ((pc + 1, (L, (.null :: st, M))), (0, 0))
  | .ldc _ => rLdc a b (pc + 2) L st M
  | .ldc_w _ => rLdc a b (pc + 3) L st M
  | .iinc i n => rInc i n (pc + 3) L st M
  | .iadd => rB2 .iadd (pc + 1) L st M
  | .isub => rB2 .isub (pc + 1) L st M
  | .imul => rB2 .imul (pc + 1) L st M
  | .idiv => rB2 .idiv (pc + 1) L st M
  | .irem => rB2 .irem (pc + 1) L st M
  | .iand => rB2 .iand (pc + 1) L st M
  | .ior => rB2 .ior (pc + 1) L st M
  | .ixor => rB2 .ixor (pc + 1) L st M
  | .ishl => rB2 .ishl (pc + 1) L st M
  | .ishr => rB2 .ishr (pc + 1) L st M
  | .iushr => rB2 .iushr (pc + 1) L st M
  | .i2l => rI2l (pc + 1) L st M
  | .lcmp => rLcm (pc + 1) L st M
  | .dup => rDup (pc + 1) L st M
  | .dup2 => rDu2 (pc + 1) L st M
  | .pop => rPop (pc + 1) L st M
  | .goto off => rTo (rJ pc off) L st M
  | .ifCond k off => rIf1 k off pc L st M
  | .if_icmp k off => rIf2 k off pc L st M
  | .if_acmp .ne off => rAcm off pc L st M
  | .ifnull off => rInl off pc L st M
  | .tableswitch dflt lo hi offs => rTsw dflt lo hi offs pc L st M
  | .lookupswitch dflt ps => rLsw dflt ps pc L st M
  | .getfield _ => rGet a b (pc + 3) L st M
  | .putfield _ => rPut a b (pc + 3) L st M
  | .getstatic _ => rGts a (pc + 3) L st M
  | .iaload => rIald a (pc + 1) L st M
  | .iastore => rIast (pc + 1) L st M
  | .laload => rLald (pc + 1) L st M
  | .lastore => rLast (pc + 1) L st M
  | .aaload => rAald a (pc + 1) L st M
  | .aastore => rAast (pc + 1) L st M
  | .arraylength => rAlen a (pc + 1) L st M
  | .new _ => rNew a (pc + 3) L st M
  | .newarray _ => rNwa a (pc + 2) L st M
  | .anewarray _ => rNwq a (pc + 3) L st M
  | _ => none
/-- the canonical length of the instructions of rStp -/
def rLen (I : Instr) : Option Nat := match I with
  | .aload _ | .iload _ | .istore _ | .astore _ | .bipush _ | .ldc _ | .newarray _ => some 2
  | .sipush _ | .ldc_w _ | .iinc _ _ | .goto _ | .ifCond _ _ | .if_icmp _ _ | .if_acmp _ _ | .ifnull _ | .getfield _ | .putfield _ | .getstatic _ | .new _ | .anewarray _ | .invokevirtual _ | .invokestatic _ | .invokespecial _ => some 3
  | .tableswitch _ _ _ _ | .lookupswitch _ _ => none
  | _ => some 1
def rNa (r : rRow) : Nat := r.2.2.2.2.2.1
def rHh (r : rRow) : List (Nat × Nat × Nat × Nat) := r.2.2.2.2.2.2.1
def rTi (r : rRow) : List (Nat × (Instr × (Nat × (Nat × Nat)))) := r.2.2.2.2.2.2.2.2.2
