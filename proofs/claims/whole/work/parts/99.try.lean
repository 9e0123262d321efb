section
/-! ===== the row of longs is nobody's but the law's ===== -/
def twc (w : Nat → Int64) (c : rCell) : rCell := match c with
  | .inl (t, (n, .inr (.inl _))) => .inl (t, (n, .inr (.inl w)))
  | c => c
def tw (w : Nat → Int64) (M : rMem) : rMem := (M.1, fun x => (M.2 x).map (twc w))
def twx (w : Nat → Int64) (x : rNx) : rNx := ((x.1.1, (x.1.2.1, (x.1.2.2.1, tw w x.1.2.2.2))), x.2)
def twe (w : Nat → Int64) (res : rRes) : rRes := (res.1, (tw w res.2.1, res.2.2))
def twr (w : Nat → Int64) (y : rNx ⊕ rRes) : rNx ⊕ rRes := match y with
  | .inl x => .inl (twx w x)
  | .inr res => .inr (twe w res)
section T
variable {w : Nat → Int64} {M : rMem} {L : rLoc} {st : List Value} {pc a b : Nat}
theorem tw_set {x : Nat} {c : rCell} : tw w (rSet M x c) = rSet (tw w M) x (twc w c) := by
  unfold tw rSet
  dsimp only
  congr 1
  funext j
  split <;> rfl
theorem tw_add {c : rCell} : tw w (rAdd M c) = rAdd (tw w M) (twc w c) := by
  unfold tw rAdd
  dsimp only
  congr 1
  funext j
  split <;> rfl
theorem tw_at {x : Nat} : (tw w M).2 x = (M.2 x).map (twc w) := rfl
theorem tw_To {t : Option Nat} : rTo t L st (tw w M) = (rTo t L st M).map (twx w) := by
  cases t <;> rfl
theorem tw_LdI {i : Nat} : rLdI pc i L st (tw w M) = (rLdI pc i L st M).map (twx w) := by
  unfold rLdI
  rcases L[i]? with _ | _ | v <;> first | rfl | (cases v <;> rfl)
theorem tw_LdA {i : Nat} : rLdA pc i L st (tw w M) = (rLdA pc i L st M).map (twx w) := by
  unfold rLdA
  rcases L[i]? with _ | _ | v <;> first | rfl | (cases v <;> rfl)
theorem tw_LdN {i : Nat} : rLdN pc i L st (tw w M) = (rLdN pc i L st M).map (twx w) := by
  unfold rLdN
  rcases L[i]? with _ | _ | v <;> first | rfl | (cases v <;> rfl)
theorem tw_ite {c : Prop} [Decidable c] {x y : Option rNx} {x' y' : Option rNx} (h1 : x' = x.map (twx w)) (h2 : y' = y.map (twx w)) : (if c then x' else y') = (if c then x else y).map (twx w) := by
  split
  · exact h1
  · exact h2
theorem tw_StI {i : Nat} : rStI pc i L st (tw w M) = (rStI pc i L st M).map (twx w) := by
  rcases st with _ | ⟨v, r⟩
  · rfl
  · cases v with
    | int x => exact tw_ite rfl rfl
    | _ => rfl
theorem tw_StA {i : Nat} : rStA pc i L st (tw w M) = (rStA pc i L st M).map (twx w) := by
  rcases st with _ | ⟨v, r⟩
  · rfl
  · cases v with
    | ref x => exact tw_ite rfl rfl
    | _ => rfl
theorem tw_StN {i : Nat} : rStN pc i L st (tw w M) = (rStN pc i L st M).map (twx w) := by
  rcases st with _ | ⟨v, r⟩
  · rfl
  · cases v with
    | ref x => exact tw_ite rfl rfl
    | null => exact tw_ite rfl rfl
    | _ => rfl
theorem tw_Ldc : rLdc a b pc L st (tw w M) = (rLdc a b pc L st M).map (twx w) := tw_ite rfl (tw_ite rfl rfl)
theorem tw_Gts : rGts a pc L st (tw w M) = (rGts a pc L st M).map (twx w) := tw_ite rfl (tw_ite rfl (tw_ite rfl rfl))
theorem tw_Inc {i : Nat} {n : Int} : rInc i n pc L st (tw w M) = (rInc i n pc L st M).map (twx w) := by
  unfold rInc
  rcases L[i]? with _ | _ | v <;> first | rfl | (cases v <;> rfl)
theorem tw_B2 {I : Instr} : rB2 I pc L st (tw w M) = (rB2 I pc L st M).map (twx w) := by
  rcases st with _ | ⟨v, _ | ⟨u, r⟩⟩
  · rfl
  · cases v <;> rfl
  · cases v with
    | int y =>
      cases u with
      | int x =>
        unfold rB2
        dsimp only
        cases rBin I x y <;> rfl
      | _ => rfl
    | _ => rfl
theorem tw_I2l : rI2l pc L st (tw w M) = (rI2l pc L st M).map (twx w) := by
  rcases st with _ | ⟨v, r⟩
  · rfl
  · cases v <;> rfl
theorem tw_Lcm : rLcm pc L st (tw w M) = (rLcm pc L st M).map (twx w) := by
  rcases st with _ | ⟨v, _ | ⟨u, r⟩⟩
  · rfl
  · cases v <;> rfl
  · cases v with
    | long y => cases u <;> rfl
    | _ => rfl
theorem tw_Dup : rDup pc L st (tw w M) = (rDup pc L st M).map (twx w) := by
  rcases st with _ | ⟨v, r⟩
  · rfl
  · exact tw_ite rfl rfl
theorem tw_Du2 : rDu2 pc L st (tw w M) = (rDu2 pc L st M).map (twx w) := by
  rcases st with _ | ⟨v, _ | ⟨u, r⟩⟩
  · rfl
  · rfl
  · exact tw_ite rfl rfl
theorem tw_Pop : rPop pc L st (tw w M) = (rPop pc L st M).map (twx w) := by
  rcases st with _ | ⟨v, r⟩
  · rfl
  · exact tw_ite rfl rfl
theorem tw_If1 {k : ClassFile.Cond} {off : Int} : rIf1 k off pc L st (tw w M) = (rIf1 k off pc L st M).map (twx w) := by
  rcases st with _ | ⟨v, r⟩
  · rfl
  · cases v with
    | int x => exact tw_ite tw_To rfl
    | _ => rfl
theorem tw_If2 {k : ClassFile.Cond} {off : Int} : rIf2 k off pc L st (tw w M) = (rIf2 k off pc L st M).map (twx w) := by
  rcases st with _ | ⟨v, _ | ⟨u, r⟩⟩
  · rfl
  · cases v <;> rfl
  · cases v with
    | int y =>
      cases u with
      | int x => exact tw_ite tw_To rfl
      | _ => rfl
    | _ => rfl
theorem tw_Acm {off : Int} : rAcm off pc L st (tw w M) = (rAcm off pc L st M).map (twx w) := by
  rcases st with _ | ⟨v, _ | ⟨u, r⟩⟩
  · rfl
  · cases v <;> rfl
  · cases v with
    | ref y =>
      cases u with
      | ref x => exact tw_ite (tw_ite rfl tw_To) rfl
      | _ => rfl
    | _ => rfl
theorem tw_Inl {off : Int} : rInl off pc L st (tw w M) = (rInl off pc L st M).map (twx w) := by
  rcases st with _ | ⟨v, r⟩
  · rfl
  · cases v with
    | null => exact tw_To
    | _ => rfl
theorem tw_Tsw {dflt lo hi : Int} {offs : Array Int} : rTsw dflt lo hi offs pc L st (tw w M) = (rTsw dflt lo hi offs pc L st M).map (twx w) := by
  rcases st with _ | ⟨v, r⟩
  · rfl
  · cases v with
    | int x =>
      refine tw_ite tw_To ?_
      cases offs[(x.toInt - lo).toNat]? with
      | none => rfl
      | some off => exact tw_To
    | _ => rfl
theorem tw_Lsw {dflt : Int} {ps : Array (Int × Int)} : rLsw dflt ps pc L st (tw w M) = (rLsw dflt ps pc L st M).map (twx w) := by
  rcases st with _ | ⟨v, r⟩
  · rfl
  · cases v with
    | int x => exact tw_To
    | _ => rfl
theorem tw_Get : rGet a b pc L st (tw w M) = (rGet a b pc L st M).map (twx w) := by
  rcases st with _ | ⟨v, r⟩
  · rfl
  · cases v with
    | ref x =>
      refine tw_ite ?_ ?_
      · rw [tw_at]
        rcases M.2 x with _ | ⟨t, n, f | f | f⟩ | ⟨ci, fs⟩
        · rfl
        · rfl
        · rfl
        · rfl
        · refine tw_ite ?_ rfl
          cases fs[b]? <;> rfl
      · show (match (if b = 0 then rEw else rEn)[x]? with | some t => some ((pc, (L, (.ref t :: r, tw w M))), (0, 0)) | none => none) = Option.map (twx w) (match (if b = 0 then rEw else rEn)[x]? with | some t => some ((pc, (L, (.ref t :: r, M))), (0, 0)) | none => none)
        cases (if b = 0 then rEw else rEn)[x]? <;> rfl
    | _ => rfl
theorem tw_Put : rPut a b pc L st (tw w M) = (rPut a b pc L st M).map (twx w) := by
  rcases st with _ | ⟨v, _ | ⟨u, r⟩⟩
  · rfl
  · rfl
  · cases u with
    | ref x =>
      unfold rPut
      dsimp only
      rw [tw_at]
      rcases M.2 x with _ | ⟨t, n, f | f | f⟩ | ⟨ci, fs⟩
      · rfl
      · rfl
      · rfl
      · rfl
      · refine tw_ite ?_ rfl
        show some (_, _) = some (twx w _)
        unfold twx
        dsimp only
        rw [tw_set]
        rfl
    | _ => rfl
theorem tw_Iald : rIald a pc L st (tw w M) = (rIald a pc L st M).map (twx w) := by
  rcases st with _ | ⟨v, _ | ⟨u, r⟩⟩
  · rfl
  · cases v <;> rfl
  · cases v with
    | int i =>
      cases u with
      | ref x =>
        refine tw_ite ?_ (tw_ite rfl rfl)
        rw [tw_at]
        rcases M.2 x with _ | ⟨t, n, f | f | f⟩ | ⟨ci, fs⟩
        · rfl
        · exact tw_ite rfl rfl
        · rfl
        · rfl
        · rfl
      | _ => rfl
    | _ => rfl
theorem tw_Iast : rIast pc L st (tw w M) = (rIast pc L st M).map (twx w) := by
  rcases st with _ | ⟨v, _ | ⟨u, _ | ⟨x, r⟩⟩⟩
  · rfl
  · cases v <;> rfl
  · cases v <;> first | rfl | (cases u <;> rfl)
  · cases v with
    | int v =>
      cases u with
      | int i =>
        cases x with
        | ref x =>
          unfold rIast
          dsimp only
          rw [tw_at]
          rcases M.2 x with _ | ⟨t, n, f | f | f⟩ | ⟨ci, fs⟩
          · rfl
          · refine tw_ite ?_ rfl
            show some (_, _) = some (twx w _)
            unfold twx
            dsimp only
            rw [tw_set]
            rfl
          · rfl
          · rfl
          · rfl
        | _ => rfl
      | _ => rfl
    | _ => rfl
theorem tw_Aald : rAald a pc L st (tw w M) = (rAald a pc L st M).map (twx w) := by
  rcases st with _ | ⟨v, _ | ⟨u, r⟩⟩
  · rfl
  · cases v <;> rfl
  · cases v with
    | int i =>
      cases u with
      | ref x =>
        refine tw_ite ?_ (tw_ite rfl rfl)
        rw [tw_at]
        rcases M.2 x with _ | ⟨t, n, f | f | f⟩ | ⟨ci, fs⟩
        · rfl
        · rfl
        · rfl
        · exact tw_ite rfl rfl
        · rfl
      | _ => rfl
    | _ => rfl
theorem tw_Aast : rAast pc L st (tw w M) = (rAast pc L st M).map (twx w) := by
  rcases st with _ | ⟨v, _ | ⟨u, _ | ⟨x, r⟩⟩⟩
  · rfl
  · cases v <;> rfl
  · cases v <;> first | rfl | (cases u <;> rfl)
  · cases v with
    | ref v =>
      cases u with
      | int i =>
        cases x with
        | ref x =>
          unfold rAast
          dsimp only
          rw [tw_at, tw_at]
          rcases M.2 x with _ | ⟨t, n, f | f | f⟩ | ⟨ci, fs⟩
          · rfl
          · rfl
          · rfl
          · refine tw_ite (tw_ite (tw_ite ?_ rfl) ?_) rfl
            · show some (_, _) = some (twx w _)
              unfold twx
              dsimp only
              rw [tw_set]
              rfl
            · rcases M.2 v with _ | ⟨t2, n2, f2 | f2 | f2⟩ | ⟨ci, fs⟩
              · rfl
              · rfl
              · rfl
              · rfl
              · show (match some (Sum.inr (ci, fs)), rAc t with | some (.inr (ci, _)), some cj => _ | _, _ => none) = _
                cases rAc t with
                | none => rfl
                | some cj =>
                  refine tw_ite ?_ rfl
                  show some (_, _) = some (twx w _)
                  unfold twx
                  dsimp only
                  rw [tw_set]
                  rfl
          · rfl
        | _ => rfl
      | _ => rfl
    | _ => rfl
theorem tw_Alen : rAlen a pc L st (tw w M) = (rAlen a pc L st M).map (twx w) := by
  rcases st with _ | ⟨v, r⟩
  · rfl
  · cases v with
    | ref x =>
      refine tw_ite ?_ (tw_ite rfl rfl)
      rw [tw_at]
      rcases M.2 x with _ | ⟨t, n, f | f | f⟩ | ⟨ci, fs⟩ <;> rfl
    | _ => rfl
theorem tw_New : rNew a pc L st (tw w M) = (rNew a pc L st M).map (twx w) := by
  refine tw_ite ?_ rfl
  show some (_, _) = some (twx w _)
  unfold twx
  dsimp only
  rw [tw_add]
  rfl
theorem tw_Nwa (h : a ≠ 1) : rNwa a pc L st (tw w M) = (rNwa a pc L st M).map (twx w) := by
  rcases st with _ | ⟨v, r⟩
  · rfl
  · cases v with
    | int n =>
      refine tw_ite rfl (tw_ite ?_ ?_)
      · show some (_, _) = some (twx w _)
        unfold twx
        dsimp only
        rw [tw_add]
        rfl
      · rw [if_neg h, if_neg h]
        rfl
    | _ => rfl
theorem tw_Nwq : rNwq a pc L st (tw w M) = (rNwq a pc L st M).map (twx w) := by
  rcases st with _ | ⟨v, r⟩
  · rfl
  · cases v with
    | int n =>
      refine tw_ite rfl ?_
      show some (_, _) = some (twx w _)
      unfold twx
      dsimp only
      rw [tw_add]
      rfl
    | _ => rfl
def okI (I : Instr) (a : Nat) : Bool := match I with
  | .laload | .lastore => false
  | .newarray _ => !decide (a = 1)
  | _ => true
end T
end
