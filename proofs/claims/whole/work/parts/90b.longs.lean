/-! ===== the row of longs is nobody's but the law's ===== -/
def tWc (w : Nat → Int64) (c : rCell) : rCell := match c with
  | .inl (t, (n, .inr (.inl _))) => .inl (t, (n, .inr (.inl w)))
  | c => c
def tW (w : Nat → Int64) (M : rMem) : rMem := (M.1, fun x => (M.2 x).map (tWc w))
def tWx (w : Nat → Int64) (x : rNx) : rNx := ((x.1.1, (x.1.2.1, (x.1.2.2.1, tW w x.1.2.2.2))), x.2)
def tWe (w : Nat → Int64) (res : rRes) : rRes := (res.1, (tW w res.2.1, res.2.2))
def tWr (w : Nat → Int64) (y : rNx ⊕ rRes) : rNx ⊕ rRes := match y with
  | .inl x => .inl (tWx w x)
  | .inr res => .inr (tWe w res)
section T
variable {w : Nat → Int64} {M : rMem} {L : rLoc} {st : List Value} {pc a b : Nat}
theorem tW_set {x : Nat} {c : rCell} : tW w (rSet M x c) = rSet (tW w M) x (tWc w c) := by
  unfold tW rSet
  dsimp only
  congr 1
  funext j
  split <;> rfl
theorem tW_add {c : rCell} : tW w (rAdd M c) = rAdd (tW w M) (tWc w c) := by
  unfold tW rAdd
  dsimp only
  congr 1
  funext j
  split <;> rfl
theorem tW_at {x : Nat} : (tW w M).2 x = (M.2 x).map (tWc w) := rfl
theorem tW_To {t : Option Nat} : rTo t L st (tW w M) = (rTo t L st M).map (tWx w) := by
  cases t <;> rfl
theorem tW_LdI {i : Nat} : rLdI pc i L st (tW w M) = (rLdI pc i L st M).map (tWx w) := by
  unfold rLdI
  rcases L[i]? with _ | _ | v <;> first | rfl | (cases v <;> rfl)
theorem tW_LdA {i : Nat} : rLdA pc i L st (tW w M) = (rLdA pc i L st M).map (tWx w) := by
  unfold rLdA
  rcases L[i]? with _ | _ | v <;> first | rfl | (cases v <;> rfl)
theorem tW_LdN {i : Nat} : rLdN pc i L st (tW w M) = (rLdN pc i L st M).map (tWx w) := by
  unfold rLdN
  rcases L[i]? with _ | _ | v <;> first | rfl | (cases v <;> rfl)
theorem tW_ite {c : Prop} [Decidable c] {x y : Option rNx} {x' y' : Option rNx} (h1 : x' = x.map (tWx w)) (h2 : y' = y.map (tWx w)) : (if c then x' else y') = (if c then x else y).map (tWx w) := by
  split
  · exact h1
  · exact h2
theorem tW_StI {i : Nat} : rStI pc i L st (tW w M) = (rStI pc i L st M).map (tWx w) := by
  rcases st with _ | ⟨v, r⟩
  · rfl
  · cases v with
    | int x => exact tW_ite rfl rfl
    | _ => rfl
theorem tW_StA {i : Nat} : rStA pc i L st (tW w M) = (rStA pc i L st M).map (tWx w) := by
  rcases st with _ | ⟨v, r⟩
  · rfl
  · cases v with
    | ref x => exact tW_ite rfl rfl
    | _ => rfl
theorem tW_StN {i : Nat} : rStN pc i L st (tW w M) = (rStN pc i L st M).map (tWx w) := by
  rcases st with _ | ⟨v, r⟩
  · rfl
  · cases v with
    | ref x => exact tW_ite rfl rfl
    | null => exact tW_ite rfl rfl
    | _ => rfl
theorem tW_Ldc : rLdc a b pc L st (tW w M) = (rLdc a b pc L st M).map (tWx w) := tW_ite rfl (tW_ite rfl rfl)
theorem tW_Gts : rGts a pc L st (tW w M) = (rGts a pc L st M).map (tWx w) := tW_ite rfl (tW_ite rfl (tW_ite rfl rfl))
theorem tW_Inc {i : Nat} {n : Int} : rInc i n pc L st (tW w M) = (rInc i n pc L st M).map (tWx w) := by
  unfold rInc
  rcases L[i]? with _ | _ | v <;> first | rfl | (cases v <;> rfl)
theorem tW_B2 {I : Instr} : rB2 I pc L st (tW w M) = (rB2 I pc L st M).map (tWx w) := by
  rcases st with _ | ⟨v, _ | ⟨u, r⟩⟩
  · rfl
  · cases v <;> rfl
  · cases v with
    | int y =>
      cases u with
      | int x =>
        unfold rB2
        dsimp only
        cases rBin I x y <;> rfl
      | _ => rfl
    | _ => rfl
theorem tW_I2l : rI2l pc L st (tW w M) = (rI2l pc L st M).map (tWx w) := by
  rcases st with _ | ⟨v, r⟩
  · rfl
  · cases v <;> rfl
theorem tW_Lcm : rLcm pc L st (tW w M) = (rLcm pc L st M).map (tWx w) := by
  rcases st with _ | ⟨v, _ | ⟨u, r⟩⟩
  · rfl
  · cases v <;> rfl
  · cases v with
    | long y => cases u <;> rfl
    | _ => rfl
theorem tW_Dup : rDup pc L st (tW w M) = (rDup pc L st M).map (tWx w) := by
  rcases st with _ | ⟨v, r⟩
  · rfl
  · exact tW_ite rfl rfl
theorem tW_Du2 : rDu2 pc L st (tW w M) = (rDu2 pc L st M).map (tWx w) := by
  rcases st with _ | ⟨v, _ | ⟨u, r⟩⟩
  · rfl
  · rfl
  · exact tW_ite rfl rfl
theorem tW_Pop : rPop pc L st (tW w M) = (rPop pc L st M).map (tWx w) := by
  rcases st with _ | ⟨v, r⟩
  · rfl
  · exact tW_ite rfl rfl
theorem tW_If1 {k : ClassFile.Cond} {off : Int} : rIf1 k off pc L st (tW w M) = (rIf1 k off pc L st M).map (tWx w) := by
  rcases st with _ | ⟨v, r⟩
  · rfl
  · cases v with
    | int x => exact tW_ite tW_To rfl
    | _ => rfl
theorem tW_If2 {k : ClassFile.Cond} {off : Int} : rIf2 k off pc L st (tW w M) = (rIf2 k off pc L st M).map (tWx w) := by
  rcases st with _ | ⟨v, _ | ⟨u, r⟩⟩
  · rfl
  · cases v <;> rfl
  · cases v with
    | int y =>
      cases u with
      | int x => exact tW_ite tW_To rfl
      | _ => rfl
    | _ => rfl
theorem tW_Acm {off : Int} : rAcm off pc L st (tW w M) = (rAcm off pc L st M).map (tWx w) := by
  rcases st with _ | ⟨v, _ | ⟨u, r⟩⟩
  · rfl
  · cases v <;> rfl
  · cases v with
    | ref y =>
      cases u with
      | ref x => exact tW_ite (tW_ite rfl tW_To) rfl
      | _ => rfl
    | _ => rfl
theorem tW_Inl {off : Int} : rInl off pc L st (tW w M) = (rInl off pc L st M).map (tWx w) := by
  rcases st with _ | ⟨v, r⟩
  · rfl
  · cases v with
    | null => exact tW_To
    | _ => rfl
theorem tW_Tsw {dflt lo hi : Int} {offs : Array Int} : rTsw dflt lo hi offs pc L st (tW w M) = (rTsw dflt lo hi offs pc L st M).map (tWx w) := by
  rcases st with _ | ⟨v, r⟩
  · rfl
  · cases v with
    | int x =>
      refine tW_ite tW_To ?_
      cases offs[(x.toInt - lo).toNat]? with
      | none => rfl
      | some off => exact tW_To
    | _ => rfl
theorem tW_Lsw {dflt : Int} {ps : Array (Int × Int)} : rLsw dflt ps pc L st (tW w M) = (rLsw dflt ps pc L st M).map (tWx w) := by
  rcases st with _ | ⟨v, r⟩
  · rfl
  · cases v with
    | int x => exact tW_To
    | _ => rfl
theorem tW_Get : rGet a b pc L st (tW w M) = (rGet a b pc L st M).map (tWx w) := by
  rcases st with _ | ⟨v, r⟩
  · rfl
  · cases v with
    | ref x =>
      refine tW_ite ?_ ?_
      · rw [tW_at]
        rcases M.2 x with _ | ⟨t, n, f | f | f⟩ | ⟨ci, fs⟩
        · rfl
        · rfl
        · rfl
        · rfl
        · refine tW_ite ?_ rfl
          cases fs[b]? <;> rfl
      · show (match (if b = 0 then rEw else rEn)[x]? with | some t => some ((pc, (L, (.ref t :: r, tW w M))), (0, 0)) | none => none) = Option.map (tWx w) (match (if b = 0 then rEw else rEn)[x]? with | some t => some ((pc, (L, (.ref t :: r, M))), (0, 0)) | none => none)
        cases (if b = 0 then rEw else rEn)[x]? <;> rfl
    | _ => rfl
theorem tW_Put : rPut a b pc L st (tW w M) = (rPut a b pc L st M).map (tWx w) := by
  rcases st with _ | ⟨v, _ | ⟨u, r⟩⟩
  · rfl
  · rfl
  · cases u with
    | ref x =>
      unfold rPut
      dsimp only
      rw [tW_at]
      rcases M.2 x with _ | ⟨t, n, f | f | f⟩ | ⟨ci, fs⟩
      · rfl
      · rfl
      · rfl
      · rfl
      · refine tW_ite ?_ rfl
        show some (_, _) = some (tWx w _)
        unfold tWx
        dsimp only
        rw [tW_set]
        rfl
    | _ => rfl
theorem tW_Iald : rIald a pc L st (tW w M) = (rIald a pc L st M).map (tWx w) := by
  rcases st with _ | ⟨v, _ | ⟨u, r⟩⟩
  · rfl
  · cases v <;> rfl
  · cases v with
    | int i =>
      cases u with
      | ref x =>
        refine tW_ite ?_ (tW_ite rfl rfl)
        rw [tW_at]
        rcases M.2 x with _ | ⟨t, n, f | f | f⟩ | ⟨ci, fs⟩
        · rfl
        · exact tW_ite rfl rfl
        · rfl
        · rfl
        · rfl
      | _ => rfl
    | _ => rfl
theorem tW_Iast : rIast pc L st (tW w M) = (rIast pc L st M).map (tWx w) := by
  rcases st with _ | ⟨v, _ | ⟨u, _ | ⟨x, r⟩⟩⟩
  · rfl
  · cases v <;> rfl
  · cases v <;> first | rfl | (cases u <;> rfl)
  · cases v with
    | int v =>
      cases u with
      | int i =>
        cases x with
        | ref x =>
          unfold rIast
          dsimp only
          rw [tW_at]
          rcases M.2 x with _ | ⟨t, n, f | f | f⟩ | ⟨ci, fs⟩
          · rfl
          · refine tW_ite ?_ rfl
            show some (_, _) = some (tWx w _)
            unfold tWx
            dsimp only
            rw [tW_set]
            rfl
          · rfl
          · rfl
          · rfl
        | _ => rfl
      | _ => rfl
    | _ => rfl
theorem tW_Aald : rAald a pc L st (tW w M) = (rAald a pc L st M).map (tWx w) := by
  rcases st with _ | ⟨v, _ | ⟨u, r⟩⟩
  · rfl
  · cases v <;> rfl
  · cases v with
    | int i =>
      cases u with
      | ref x =>
        refine tW_ite ?_ (tW_ite rfl rfl)
        rw [tW_at]
        rcases M.2 x with _ | ⟨t, n, f | f | f⟩ | ⟨ci, fs⟩
        · rfl
        · rfl
        · rfl
        · exact tW_ite rfl rfl
        · rfl
      | _ => rfl
    | _ => rfl
theorem tW_Aast : rAast pc L st (tW w M) = (rAast pc L st M).map (tWx w) := by
  rcases st with _ | ⟨v, _ | ⟨u, _ | ⟨x, r⟩⟩⟩
  · rfl
  · cases v <;> rfl
  · cases v <;> first | rfl | (cases u <;> rfl)
  · cases v with
    | ref v =>
      cases u with
      | int i =>
        cases x with
        | ref x =>
          unfold rAast
          dsimp only
          rw [tW_at, tW_at]
          rcases M.2 x with _ | ⟨t, n, f | f | f⟩ | ⟨ci, fs⟩
          · rfl
          · rfl
          · rfl
          · refine tW_ite (tW_ite (tW_ite ?_ rfl) ?_) rfl
            · show some (_, _) = some (tWx w _)
              unfold tWx
              dsimp only
              rw [tW_set]
              rfl
            · rcases M.2 v with _ | ⟨t2, n2, f2 | f2 | f2⟩ | ⟨ci, fs⟩
              · rfl
              · rfl
              · rfl
              · rfl
              · dsimp only [Option.map_some]
                cases rAc t with
                | none => rfl
                | some cj =>
                  refine tW_ite ?_ rfl
                  show some (_, _) = some (tWx w _)
                  unfold tWx
                  dsimp only
                  rw [tW_set]
                  rfl
          · rfl
        | _ => rfl
      | _ => rfl
    | _ => rfl
theorem tW_Alen : rAlen a pc L st (tW w M) = (rAlen a pc L st M).map (tWx w) := by
  rcases st with _ | ⟨v, r⟩
  · rfl
  · cases v with
    | ref x =>
      refine tW_ite ?_ (tW_ite rfl rfl)
      rw [tW_at]
      rcases M.2 x with _ | ⟨t, n, f | f | f⟩ | ⟨ci, fs⟩ <;> rfl
    | _ => rfl
theorem tW_New : rNew a pc L st (tW w M) = (rNew a pc L st M).map (tWx w) := by
  refine tW_ite ?_ rfl
  show some (_, _) = some (tWx w _)
  unfold tWx
  dsimp only
  rw [tW_add]
  rfl
theorem tW_Nwa (h : a ≠ 1) : rNwa a pc L st (tW w M) = (rNwa a pc L st M).map (tWx w) := by
  rcases st with _ | ⟨v, r⟩
  · rfl
  · cases v with
    | int n =>
      refine tW_ite rfl (tW_ite ?_ ?_)
      · show some (_, _) = some (tWx w _)
        unfold tWx
        dsimp only
        rw [tW_add]
        rfl
      · rw [if_neg h, if_neg h]
        rfl
    | _ => rfl
theorem tW_Nwq : rNwq a pc L st (tW w M) = (rNwq a pc L st M).map (tWx w) := by
  rcases st with _ | ⟨v, r⟩
  · rfl
  · cases v with
    | int n =>
      refine tW_ite rfl ?_
      show some (_, _) = some (tWx w _)
      unfold tWx
      dsimp only
      rw [tW_add]
      rfl
    | _ => rfl
def okI (I : Instr) (a : Nat) : Bool := match I with
  | .laload | .lastore => false
  | .newarray _ => !decide (a = 1)
  | _ => true
end T
