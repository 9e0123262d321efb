section T
variable {w : Nat → Int64} {M : rMem} {L : rLoc} {st : List Value} {pc a b d : Nat} {r : rRow}
theorem prm_none (h : a < 10 ∨ 16 < a) : rPrm a pc L st M = none := by
  unfold rPrm
  split <;> first | rfl | (exfalso; omega)
theorem tW_Prm : rPrm a pc L st (tW w M) = (rPrm a pc L st M).map (tWx w) := by
  by_cases h : a < 10 ∨ 16 < a
  · rw [prm_none h, prm_none h]
    rfl
  · rcases (show a = 10 ∨ a = 11 ∨ a = 12 ∨ a = 13 ∨ a = 14 ∨ a = 15 ∨ a = 16 by omega) with rfl | rfl | rfl | rfl | rfl | rfl | rfl
    · rcases st with _ | ⟨v, r⟩
      · rfl
      · cases v <;> rfl
    · rcases st with _ | ⟨v1, _ | ⟨v2, _ | ⟨v3, _ | ⟨v4, _ | ⟨v5, r⟩⟩⟩⟩⟩
      · rfl
      · cases v1 <;> rfl
      · cases v1 <;> first | rfl | (cases v2 <;> rfl)
      · cases v1 <;> first | rfl | (cases v2 <;> first | rfl | (cases v3 <;> rfl))
      · cases v1 <;> first | rfl | (cases v2 <;> first | rfl | (cases v3 <;> first | rfl | (cases v4 <;> rfl)))
      · cases v1 with
        | int n =>
          cases v2 with
          | int dp =>
            cases v3 with
            | ref y =>
              cases v4 with
              | int sp =>
                cases v5 with
                | ref x =>
                  unfold rPrm
                  dsimp only
                  rw [tW_at, tW_at]
                  rcases M.2 x with _ | ⟨t, n0, f | f | f⟩ | ⟨ci, fs⟩ <;> rcases M.2 y with _ | ⟨t2, n1, g | g | g⟩ | ⟨ci2, fs2⟩ <;> first
                    | rfl
                    | (refine tW_ite ?_ rfl
                       show some (_, _) = some (tWx w _)
                       unfold tWx
                       dsimp only
                       rw [tW_set]
                       rfl)
                | _ => rfl
              | _ => rfl
            | _ => rfl
          | _ => rfl
        | _ => rfl
    · rcases st with _ | ⟨v, r⟩
      · rfl
      · cases v <;> first | rfl | (unfold rPrm; dsimp only; cases rTxt _ <;> rfl)
    · rcases st with _ | ⟨v, _ | ⟨u, r⟩⟩
      · rfl
      · cases v <;> rfl
      · cases v <;> first | rfl | (cases u <;> first | rfl | (unfold rPrm; dsimp only; cases rTxt _ <;> first | rfl | exact tW_ite rfl rfl))
    · rcases st with _ | ⟨v, r⟩
      · rfl
      · cases v <;> first | rfl | exact tW_ite rfl rfl
    · rcases st with _ | ⟨v, _ | ⟨u, r⟩⟩
      · rfl
      · cases v <;> rfl
      · cases v <;> first | rfl | (cases u <;> rfl)
    · rcases st with _ | ⟨v, _ | ⟨u, r⟩⟩
      · rfl
      · cases v <;> rfl
      · cases v <;> first | rfl | (cases u <;> rfl)
theorem tW_Arg {kind : Nat} {q : rRow} : rArg kind q st (tW w M) = rArg kind q st M := by
  unfold rArg
  by_cases hc : st.length < rNa q ∨ 8 < ((st.drop (rNa q)).map (fun v => v.category)).sum
  · rw [if_pos hc, if_pos hc]
  · rw [if_neg hc, if_neg hc]
    generalize (st.take (rNa q)).reverse = As
    match kind with
    | 0 =>
      rcases As with _ | ⟨v, As⟩
      · rfl
      · cases v with
        | ref x =>
          simp only [tW_at]
          rcases M.2 x with _ | ⟨t, n, f | f | f⟩ | ⟨ci, fs⟩ <;> rfl
        | _ => rfl
    | 1 => rfl
    | 2 =>
      rcases As with _ | ⟨v, As⟩
      · rfl
      · cases v <;> rfl
    | 3 => rfl
    | 4 => rfl
    | 5 =>
      rcases As with _ | ⟨v, As⟩
      · rfl
      · cases v <;> rfl
    | 6 => rfl
    | k + 7 => rfl
theorem tW_Thr : rThr d r a pc st (tW w M) = (rThr d r a pc st M).map (tWr w) := by
  unfold rThr
  split <;> rfl
theorem tW_Hdl {x dk dn : Nat} : rHdl r pc x (tW w M) dk dn = (rHdl r pc x M dk dn).map (tWr w) := by
  unfold rHdl
  cases rHh r with
  | nil => rfl
  | cons y ys =>
    dsimp only
    cases rHnd (y :: ys) pc x with
    | none => rfl
    | some h =>
      dsimp only
      cases rCatch r h <;> rfl
theorem tW_RtI : rRtI r st (tW w M) = (rRtI r st M).map (tWr w) := by
  unfold rRtI
  generalize r.2.2.2.1 = ty
  rcases st with _ | ⟨v, _ | ⟨u, rr⟩⟩
  · rfl
  · cases v with
    | int x =>
      rcases ty with _ | t
      · rfl
      · cases t <;> first | rfl | (dsimp only; split <;> rfl)
    | _ => rfl
  · cases v <;> rfl
theorem tW_RtA : rRtA r st (tW w M) = (rRtA r st M).map (tWr w) := by
  unfold rRtA
  generalize r.2.2.2.1 = ty
  rcases st with _ | ⟨v, _ | ⟨u, rr⟩⟩
  · rfl
  · cases v <;> first | rfl | (rcases ty with _ | t <;> first | rfl | (cases t <;> rfl))
  · cases v <;> rfl
theorem tW_RtV : rRtV r st (tW w M) = (rRtV r st M).map (tWr w) := by
  unfold rRtV
  generalize r.2.2.2.1 = ty
  rcases st with _ | ⟨v, rr⟩
  · cases ty <;> rfl
  · rfl
def okE (e : Nat × (Instr × (Nat × (Nat × Nat)))) : Bool := okI e.2.1 e.2.2.2.1 && (match e.2.1 with
  | .invokevirtual _ | .invokestatic _ | .invokespecial _ => decide (10 ≤ e.2.2.2.1) || decide (e.2.2.2.2 < 274)
  | _ => true)
theorem tW_Inv {call : Nat → List Value → rMem → Option rRes} (hcall : ∀ j As M, j < 274 → call j As (tW w M) = (call j As M).map (tWe w)) (hb : 10 ≤ a ∨ b < 274) : rInv call d r a b pc L st (tW w M) = (rInv call d r a b pc L st M).map (tWr w) := by
  unfold rInv
  by_cases ha : 10 ≤ a
  · rw [if_pos ha, if_pos ha]
    split
    · rw [tW_Prm]
      cases rPrm a (pc + 3) L st M <;> rfl
    · rfl
  · rw [if_neg ha, if_neg ha]
    cases rMs[b]? with
    | none => rfl
    | some q =>
      dsimp only
      rw [tW_Arg]
      cases rArg a q st M with
      | none => rfl
      | some y =>
        obtain ⟨As, rest⟩ := y
        dsimp only
        rw [hcall b As M (by omega)]
        cases call b As M with
        | none => rfl
        | some res =>
          rcases res with ⟨v | x, M', dk, dn⟩
          · rfl
          · exact tW_Hdl
theorem tW_one {call : Nat → List Value → rMem → Option rRes} (hcall : ∀ j As M, j < 274 → call j As (tW w M) = (call j As M).map (tWe w)) (hr : (rTi r).all okE = true) : rOne call d r pc L st (tW w M) = (rOne call d r pc L st M).map (tWr w) := by
  unfold rOne
  cases hf : rFind (rTi r) pc with
  | none => rfl
  | some v =>
    obtain ⟨I, ln, a, b⟩ := v
    have h := List.all_eq_true.mp hr _ (rFind_mem hf)
    unfold okE at h
    rw [Bool.and_eq_true] at h
    obtain ⟨hI, hb⟩ := h
    have hI : okI I a = true := hI
    have hp : (rStp I a b pc L st (tW w M)).map Sum.inl = ((rStp I a b pc L st M).map Sum.inl).map (tWr w) := by
      rw [tW_Stp hI]
      cases rStp I a b pc L st M <;> rfl
    cases I with
    | new idx =>
      dsimp only
      by_cases h2 : 200 ≤ a
      · rw [if_pos h2, if_pos h2]
        exact tW_Thr
      · rw [if_neg h2, if_neg h2]
        exact hp
    | ireturn => exact tW_RtI
    | areturn => exact tW_RtA
    | return_ => exact tW_RtV
    | invokevirtual i =>
      refine tW_Inv hcall ?_
      have hb : (decide (10 ≤ a) || decide (b < 274)) = true := hb
      rw [Bool.or_eq_true, decide_eq_true_iff, decide_eq_true_iff] at hb
      exact hb
    | invokestatic i =>
      refine tW_Inv hcall ?_
      have hb : (decide (10 ≤ a) || decide (b < 274)) = true := hb
      rw [Bool.or_eq_true, decide_eq_true_iff, decide_eq_true_iff] at hb
      exact hb
    | invokespecial i =>
      refine tW_Inv hcall ?_
      have hb : (decide (10 ≤ a) || decide (b < 274)) = true := hb
      rw [Bool.or_eq_true, decide_eq_true_iff, decide_eq_true_iff] at hb
      exact hb
    | _ => exact hp
theorem tW_go {call : Nat → List Value → rMem → Option rRes} (hcall : ∀ j As M, j < 274 → call j As (tW w M) = (call j As M).map (tWe w)) (hr : (rTi r).all okE = true) : ∀ (f pc : Nat) (L : rLoc) (st : List Value) (M : rMem) (k n : Nat), rGo call d r f pc L st (tW w M) k n = (rGo call d r f pc L st M k n).map (tWe w) := by
  intro f
  induction f with
  | zero => intro pc L st M k n; rfl
  | succ f ih =>
    intro pc L st M k n
    unfold rGo
    rw [tW_one hcall hr]
    cases rOne call d r pc L st M with
    | none => rfl
    | some y =>
      rcases y with ⟨⟨pc2, L2, st2, M2⟩, dk, dn⟩ | ⟨o, M2, dk, dn⟩
      · exact ih pc2 L2 st2 M2 _ _
      · rfl
theorem okRows : (rMs.take 274).all (fun r => (rTi r).all okE) = true := by decide +kernel
theorem tW_run : ∀ (d f j : Nat) (As : List Value) (M : rMem), j < 274 → rRun d f j As (tW w M) = (rRun d f j As M).map (tWe w) := by
  intro d
  induction d with
  | zero => intro f j As M _; rfl
  | succ d ih =>
    intro f j As M hj
    unfold rRun
    cases hr : rMs[j]? with
    | none => rfl
    | some r =>
      dsimp only
      split
      · refine tW_go (fun j As M h => ih f j As M h) (List.all_eq_true.mp okRows r ?_) _ _ _ _ _ _ _
        exact List.mem_of_getElem? (i := j) (by rw [List.getElem?_take_of_lt hj]; exact hr)
      · rfl
theorem tW_ev {j : Nat} {As : List Value} {res : rRes} (hj : j < 274) (h : ev d j As M = some res) : ev d j As (tW w M) = some (tWe w res) := by
  obtain ⟨f, hf⟩ := ev_iff.mp h
  exact ev_iff.mpr ⟨f, by rw [tW_run d f j As M hj, hf]; rfl⟩
theorem tW_mk {m : Nat → Nat → Int} {q : Nat → Nat → Option Nat} {w w2 : Nat → Int64} : tW w2 (mk m q (some w)) = mk m q (some w2) := by
  show ((392, fun x => (rCq m q w x).map (tWc w2)) : rMem) = (392, rCq m q w2)
  congr 1
  funext j
  cases hs : rShp j with
  | none =>
    unfold rCq
    rw [hs]
    rfl
  | some s =>
    unfold rCq
    rw [hs]
    obtain ⟨k, F⟩ := s
    match k, F with
    | 0, [] => rfl
    | 0, [x] => rfl
    | 0, [(t, n), (b, k)] =>
      show Option.map (tWc w2) (some (Sum.inl (t, (n, if t = 0 then _ else if t = 1 then _ else if k = 0 then _ else _)))) = some (Sum.inl (t, (n, if t = 0 then _ else if t = 1 then _ else if k = 0 then _ else _)))
      by_cases h0 : t = 0
      · rw [if_pos h0, if_pos h0]
        rfl
      · rw [if_neg h0, if_neg h0]
        by_cases ht : t = 1
        · rw [if_pos ht, if_pos ht]
          rfl
        · rw [if_neg ht, if_neg ht]
          by_cases hk : k = 0
          · rw [if_pos hk]
            rfl
          · rw [if_neg hk]
            rfl
    | 0, x :: y :: z :: r => rfl
    | 1, [] => rfl
    | 1, x :: r => rfl
    | k + 2, F => rfl
theorem tW_vI {m m2 : Nat → Nat → Int} {q q2 : Nat → Nat → Option Nat} {w w2 : Nat → Int64} {j : Nat} {As : List Value} {v : Int} (hj : j < 274) (h : ev d j As (mk m q (some w)) = vI v (mk m2 q2 (some w))) : ev d j As (mk m q (some w2)) = vI v (mk m2 q2 (some w2)) := by
  have h1 := tW_ev (w := w2) hj h
  rw [tW_mk] at h1
  rw [h1]
  show some (_, (tW w2 (mk m2 q2 (some w)), _)) = _
  rw [tW_mk]
end T
