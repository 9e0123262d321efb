/-! ===== the pure machine without fuel: what a call comes to ===== -/
theorem inv_mono {c1 c2 : Nat → List Value → rMem → Option rRes} (hc : ∀ j As M res, c1 j As M = some res → c2 j As M = some res) {d a b pc : Nat} {r : rRow} {L : rLoc} {st : List Value} {M : rMem} {y : rNx ⊕ rRes} (h : rInv c1 d r a b pc L st M = some y) : rInv c2 d r a b pc L st M = some y := by
  unfold rInv at h ⊢
  by_cases ha : 10 ≤ a
  · rw [if_pos ha] at h ⊢
    exact h
  · rw [if_neg ha] at h ⊢
    cases hq : rMs[b]? with
    | none => rw [hq] at h; cases h
    | some q =>
      rw [hq] at h
      dsimp only at h ⊢
      cases hg : rArg a q st M with
      | none => rw [hg] at h; cases h
      | some w =>
        obtain ⟨As, rest⟩ := w
        rw [hg] at h
        dsimp only at h ⊢
        cases h1 : c1 b As M with
        | none => rw [h1] at h; cases h
        | some res =>
          rw [h1] at h
          rw [hc _ _ _ _ h1]
          exact h
theorem one_mono {c1 c2 : Nat → List Value → rMem → Option rRes} (hc : ∀ j As M res, c1 j As M = some res → c2 j As M = some res) {d pc : Nat} {r : rRow} {L : rLoc} {st : List Value} {M : rMem} {y : rNx ⊕ rRes} (h : rOne c1 d r pc L st M = some y) : rOne c2 d r pc L st M = some y := by
  unfold rOne at h ⊢
  cases hf : rFind (rTi r) pc with
  | none => rw [hf] at h; cases h
  | some v =>
    obtain ⟨I, ln, a, b⟩ := v
    rw [hf] at h
    cases I <;> first | exact inv_mono hc h | exact h
theorem go_mono {c1 c2 : Nat → List Value → rMem → Option rRes} (hc : ∀ j As M res, c1 j As M = some res → c2 j As M = some res) {d : Nat} {r : rRow} : ∀ (f f2 pc : Nat) (L : rLoc) (st : List Value) (M : rMem) (k n : Nat) (res : rRes), f ≤ f2 → rGo c1 d r f pc L st M k n = some res → rGo c2 d r f2 pc L st M k n = some res := by
  intro f
  induction f with
  | zero => intro f2 pc L st M k n res _ h; cases h
  | succ f ih =>
    intro f2 pc L st M k n res hf h
    obtain ⟨g, rfl⟩ : ∃ g, f2 = g + 1 := ⟨f2 - 1, by omega⟩
    unfold rGo at h ⊢
    cases h1 : rOne c1 d r pc L st M with
    | none => rw [h1] at h; cases h
    | some y =>
      rw [h1] at h
      rw [one_mono hc h1]
      rcases y with ⟨⟨pc2, L2, st2, M2⟩, dk, dn⟩ | ⟨o, M2, dk, dn⟩
      · exact ih g pc2 L2 st2 M2 _ _ res (by omega) h
      · exact h
theorem run_mono : ∀ (d f f2 j : Nat) (As : List Value) (M : rMem) (res : rRes), f ≤ f2 → rRun d f j As M = some res → rRun d f2 j As M = some res := by
  intro d
  induction d with
  | zero => intro f f2 j As M res _ h; cases h
  | succ d ih =>
    intro f f2 j As M res hf h
    unfold rRun at h ⊢
    cases hr : rMs[j]? with
    | none => rw [hr] at h; cases h
    | some r =>
      rw [hr] at h
      dsimp only at h ⊢
      split at h
      next hc =>
        rw [if_pos hc]
        exact go_mono (fun j As M res h => ih f f2 j As M res hf h) _ _ _ _ _ _ _ _ _ hf h
      next => cases h
def rSh (k n : Nat) (res : rRes) : rRes := (res.1, (res.2.1, (res.2.2.1 + k, res.2.2.2 + n)))
theorem go_shift {call : Nat → List Value → rMem → Option rRes} {d : Nat} {r : rRow} : ∀ (f pc : Nat) (L : rLoc) (st : List Value) (M : rMem) (k n a b : Nat), rGo call d r f pc L st M (a + k) (b + n) = (rGo call d r f pc L st M a b).map (rSh k n) := by
  intro f
  induction f with
  | zero => intro pc L st M k n a b; rfl
  | succ f ih =>
    intro pc L st M k n a b
    unfold rGo
    cases h1 : rOne call d r pc L st M with
    | none => rfl
    | some y =>
      rcases y with ⟨⟨pc2, L2, st2, M2⟩, dk, dn⟩ | ⟨o, M2, dk, dn⟩
      · dsimp only
        rw [show a + k + dk = (a + dk) + k by omega, show b + n + dn = (b + dn) + n by omega]
        exact ih pc2 L2 st2 M2 k n (a + dk) (b + dn)
      · dsimp only
        show some _ = some _
        unfold rSh
        dsimp only
        rw [show a + k + dk = a + dk + k by omega, show b + n + dn = b + dn + n by omega]
noncomputable def rLim (g : Nat → Option rRes) : Option rRes := by
  classical
  exact if h : ∃ f res, g f = some res then g (Classical.choose h) else none
theorem rLim_iff {g : Nat → Option rRes} (hm : ∀ f f2 res, f ≤ f2 → g f = some res → g f2 = some res) {res : rRes} : rLim g = some res ↔ ∃ f, g f = some res := by
  unfold rLim
  constructor
  · intro h
    split at h
    next hx => exact ⟨_, h⟩
    next => cases h
  · rintro ⟨f, hf⟩
    have hx : ∃ f res, g f = some res := ⟨f, res, hf⟩
    rw [dif_pos hx]
    obtain ⟨r2, h2⟩ := Classical.choose_spec hx
    rcases Nat.le_total f (Classical.choose hx) with h | h
    · exact hm _ _ _ h hf
    · have := hm _ _ _ h h2
      rw [hf] at this
      cases this
      exact h2
/-- what method j comes to, at depth d -/
noncomputable def ev (d j : Nat) (As : List Value) (M : rMem) : Option rRes := rLim (fun f => rRun d f j As M)
/-- what a frame of method r comes to, its calls at depth d -/
noncomputable def gv (d : Nat) (r : rRow) (pc : Nat) (L : rLoc) (st : List Value) (M : rMem) : Option rRes := rLim (fun f => rGo (rRun d f) (d + 1) r f pc L st M 0 0)
theorem ev_iff {d j : Nat} {As : List Value} {M : rMem} {res : rRes} : ev d j As M = some res ↔ ∃ f, rRun d f j As M = some res := rLim_iff fun f f2 res h => run_mono d f f2 j As M res h
theorem gv_iff {d : Nat} {r : rRow} {pc : Nat} {L : rLoc} {st : List Value} {M : rMem} {res : rRes} : gv d r pc L st M = some res ↔ ∃ f, rGo (rRun d f) (d + 1) r f pc L st M 0 0 = some res :=
  rLim_iff fun f f2 res h hg => go_mono (fun j As M res hr => run_mono d f f2 j As M res h hr) _ _ _ _ _ _ _ _ _ h hg
theorem ev_eq (d j : Nat) (As : List Value) (M : rMem) : ev (d + 1) j As M = match rMs[j]? with
    | none => none
    | some r => if As.length = rNa r ∧ (As.all (fun v => decide (v.category = 1))) = true then gv d r 0 (rIni As r.2.2.1) [] M else none := by
  apply Option.ext
  intro res
  rw [ev_iff]
  cases hr : rMs[j]? with
  | none =>
    constructor
    · rintro ⟨f, hf⟩
      unfold rRun at hf
      rw [hr] at hf
      cases hf
    · intro h; cases h
  | some r =>
    dsimp only
    by_cases hc : As.length = rNa r ∧ (As.all (fun v => decide (v.category = 1))) = true
    · rw [if_pos hc, gv_iff]
      constructor
      · rintro ⟨f, hf⟩
        unfold rRun at hf
        rw [hr] at hf
        dsimp only at hf
        rw [if_pos hc] at hf
        exact ⟨f, hf⟩
      · rintro ⟨f, hf⟩
        refine ⟨f, ?_⟩
        unfold rRun
        rw [hr]
        dsimp only
        rw [if_pos hc]
        exact hf
    · rw [if_neg hc]
      constructor
      · rintro ⟨f, hf⟩
        unfold rRun at hf
        rw [hr] at hf
        dsimp only at hf
        rw [if_neg hc] at hf
        cases hf
      · intro h; cases h
/-- an instruction more -/
def gN (d : Nat) (r : rRow) (g : Nat → rLoc → List Value → rMem → Option rRes) (y : Option (rNx ⊕ rRes)) : Option rRes := match y with
  | none => none
  | some (.inl ((pc, (L, (st, M))), (dk, dn))) => (g pc L st M).map (rSh dk dn)
  | some (.inr res) => some res
theorem gv_eq (d : Nat) (r : rRow) (pc : Nat) (L : rLoc) (st : List Value) (M : rMem) : gv d r pc L st M = gN d r (gv d r) (rOne (ev d) (d + 1) r pc L st M) := by
  apply Option.ext
  intro res
  rw [gv_iff]
  constructor
  · rintro ⟨f, hf⟩
    cases f with
    | zero => cases hf
    | succ f =>
      have hf0 := hf
      unfold rGo at hf
      have hone : ∀ y, rOne (rRun d (f + 1)) (d + 1) r pc L st M = some y → rOne (ev d) (d + 1) r pc L st M = some y := fun y hy => one_mono (fun j As M res h => ev_iff.mpr ⟨_, h⟩) hy
      cases h1 : rOne (rRun d (f + 1)) (d + 1) r pc L st M with
      | none => rw [h1] at hf; cases hf
      | some y =>
        rw [h1] at hf
        rw [hone _ h1]
        rcases y with ⟨⟨pc2, L2, st2, M2⟩, dk, dn⟩ | ⟨o, M2, dk, dn⟩
        · dsimp only at hf
          show (gv d r pc2 L2 st2 M2).map (rSh dk dn) = some res
          have h2 := go_shift (call := rRun d (f + 1)) (d := d + 1) (r := r) f pc2 L2 st2 M2 dk dn 0 0
          rw [Nat.zero_add, Nat.zero_add] at h2 hf
          rw [h2] at hf
          obtain ⟨r0, h3, h4⟩ := Option.map_eq_some_iff.mp hf
          rw [gv_iff.mpr ⟨f + 1, go_mono (fun _ _ _ _ h => h) _ _ _ _ _ _ _ _ _ (Nat.le_succ f) h3⟩]
          exact congrArg some h4
        · dsimp only at hf
          rw [Nat.zero_add, Nat.zero_add] at hf
          exact hf
  · intro h
    cases h1 : rOne (ev d) (d + 1) r pc L st M with
    | none => rw [h1] at h; cases h
    | some y =>
      rw [h1] at h
      -- the calls made by this instruction need some fuel
      have hfu : ∃ f, rOne (rRun d f) (d + 1) r pc L st M = some y := by
        unfold rOne at h1 ⊢
        cases hf : rFind (rTi r) pc with
        | none => rw [hf] at h1; cases h1
        | some v =>
          obtain ⟨I, ln, a, b⟩ := v
          rw [hf] at h1
          have hinv : rInv (ev d) (d + 1) r a b pc L st M = some y → ∃ f, rInv (rRun d f) (d + 1) r a b pc L st M = some y := by
            intro h1
            unfold rInv at h1 ⊢
            by_cases ha : 10 ≤ a
            · refine ⟨0, ?_⟩
              rw [if_pos ha] at h1 ⊢
              exact h1
            · rw [if_neg ha] at h1
              cases hq : rMs[b]? with
              | none => rw [hq] at h1; cases h1
              | some q =>
                rw [hq] at h1
                dsimp only at h1
                cases hg : rArg a q st M with
                | none => rw [hg] at h1; cases h1
                | some w =>
                  obtain ⟨As, rest⟩ := w
                  rw [hg] at h1
                  dsimp only at h1
                  cases h5 : ev d b As M with
                  | none => rw [h5] at h1; cases h1
                  | some res =>
                    obtain ⟨f, hf5⟩ := ev_iff.mp h5
                    refine ⟨f, ?_⟩
                    rw [if_neg ha]
                    dsimp only
                    rw [hg]
                    dsimp only
                    rw [hf5]
                    rw [h5] at h1
                    exact h1
          cases I <;> first | exact hinv h1 | exact ⟨0, h1⟩
      obtain ⟨f1, hf1⟩ := hfu
      rcases y with ⟨⟨pc2, L2, st2, M2⟩, dk, dn⟩ | ⟨o, M2, dk, dn⟩
      · have h0 : (gv d r pc2 L2 st2 M2).map (rSh dk dn) = some res := h
        obtain ⟨r0, h3, h4⟩ := Option.map_eq_some_iff.mp h0
        obtain ⟨f2, hf2⟩ := gv_iff.mp h3
        refine ⟨f1 + f2 + 1, ?_⟩
        unfold rGo
        rw [one_mono (fun j As M res h => run_mono d f1 (f1 + f2 + 1) j As M res (by omega) h) hf1]
        dsimp only
        rw [Nat.zero_add, Nat.zero_add]
        have h2 := go_shift (call := rRun d (f1 + f2 + 1)) (d := d + 1) (r := r) (f1 + f2) pc2 L2 st2 M2 dk dn 0 0
        rw [Nat.zero_add, Nat.zero_add] at h2
        rw [h2, go_mono (fun j As M res h => run_mono d f2 (f1 + f2 + 1) j As M res (by omega) h) f2 (f1 + f2) _ _ _ _ _ _ _ (by omega) hf2]
        exact congrArg some h4
      · refine ⟨f1 + 1, ?_⟩
        unfold rGo
        rw [one_mono (fun j As M res h => run_mono d f1 (f1 + 1) j As M res (by omega) h) hf1]
        dsimp only
        rw [Nat.zero_add, Nat.zero_add]
        exact h
