/-! ===== a memory of the right shape is one by functions ===== -/
def mOf (M : rMem) (x j : Nat) : Int := match M.2 x with
  | some (.inl (_, (_, .inl f))) => (f j).toInt
  | some (.inr (_, fs)) => (match fs[j]? with | some (.int v) => v.toInt | _ => 0)
  | _ => 0
def qOf (M : rMem) (x j : Nat) : Option Nat := match M.2 x with
  | some (.inl (_, (_, .inr (.inr g)))) => g j
  | some (.inr (_, fs)) => (match fs[j]? with | some (.ref y) => some y | _ => none)
  | _ => none
def chF (f : Nat × Nat) (v : Value) : Bool := match f, v with
  | (0, _), .int _ => true
  | (1, c), .ref x => Nat.beq x c
  | (_ + 2, _), .ref _ => true
  | (_ + 2, _), .null => true
  | _, _ => false
def chFs : List (Nat × Nat) → List Value → Bool
  | [], [] => true
  | f :: F, v :: vs => chF f v && chFs F vs
  | _, _ => false
def chA (t n b k : Nat) (a : rArr) : Bool := match a with
  | .inl _ => Nat.beq t 0
  | .inr (.inl _) => false
  | .inr (.inr g) => Nat.ble 2 t && (Nat.beq k 0 || (List.range n).all (fun j => match g j with | some y => Nat.beq y (b + k * j) | none => false))
def chC (s : Option rSq) (c : Option rCell) : Bool := match s, c with
  | some (0, [(t, n), (b, k)]), some (.inl (t2, (n2, a))) => Nat.beq t t2 && (Nat.beq n n2 && chA t n b k a)
  | some (1, (ci, _) :: F), some (.inr (ci2, fs)) => Nat.beq ci ci2 && chFs F fs
  | _, _ => false
theorem chFs_ok {M : rMem} {x ci : Nat} {full : List Value} (hM : M.2 x = some (.inr (ci, full))) : ∀ (F : List (Nat × Nat)) (fs : List Value) (b : Nat), chFs F fs = true → (∀ i, fs[i]? = full[b + i]?) → fs = rFlv (mOf M) (qOf M) x b F := by
  intro F
  induction F with
  | nil =>
    intro fs b h _
    cases fs with
    | nil => rfl
    | cons v vs => cases h
  | cons f F ih =>
    intro fs b h hf
    cases fs with
    | nil => cases h
    | cons v vs =>
      have h : (chF f v && chFs F vs) = true := h
      rw [Bool.and_eq_true] at h
      have h0 : full[b]? = some v := by
        have := hf 0
        rw [Nat.add_zero] at this
        rw [← this]
        rfl
      have e := ih vs (b + 1) h.2 (fun i => by
        have := hf (i + 1)
        rw [show b + 1 + i = b + (i + 1) by omega, ← this]
        rfl)
      obtain ⟨k, c⟩ := f
      have h1 := h.1
      match k, h1 with
      | 0, h1 =>
        cases v with
        | int z =>
          have hm : mOf M x b = z.toInt := by
            unfold mOf
            rw [hM]
            dsimp only
            rw [h0]
          show .int z :: vs = .int (iI (mOf M x b)) :: rFlv (mOf M) (qOf M) x (b + 1) F
          rw [hm, iI_toInt, ← e]
        | _ => cases h1
      | 1, h1 =>
        cases v with
        | ref y =>
          have hy : y = c := Nat.eq_of_beq_eq_true h1
          show .ref y :: vs = .ref c :: rFlv (mOf M) (qOf M) x (b + 1) F
          rw [hy, ← e]
        | _ => cases h1
      | k + 2, h1 =>
        cases v with
        | ref y =>
          have hm : qOf M x b = some y := by
            unfold qOf
            rw [hM]
            dsimp only
            rw [h0]
          show .ref y :: vs = rOv (qOf M x b) :: rFlv (mOf M) (qOf M) x (b + 1) F
          rw [hm, ← e]
          rfl
        | null =>
          have hm : qOf M x b = none := by
            unfold qOf
            rw [hM]
            dsimp only
            rw [h0]
          show .null :: vs = rOv (qOf M x b) :: rFlv (mOf M) (qOf M) x (b + 1) F
          rw [hm, ← e]
          rfl
        | _ => cases h1
theorem mem_mk {M : rMem} (h1 : M.1 = 391) (hd : ∀ x c, M.2 x = some c → 100 ≤ x ∧ x < M.1) (hc : ∀ i, i < 291 → chC (rShp (100 + i)) (M.2 (100 + i)) = true) : nM M = mk (mOf (nM M)) (qOf (nM M)) none := by
  show ((M.1, fun x => (M.2 x).map nMc) : rMem) = (391, fun x => if x = 391 then none else rCq (mOf (nM M)) (qOf (nM M)) (fun _ => 0) x)
  rw [h1]
  congr 1
  funext x
  by_cases hx : 100 ≤ x ∧ x < 391
  · rw [if_neg (by omega)]
    have h := hc (x - 100) (by omega)
    rw [show 100 + (x - 100) = x by omega] at h
    have hn : (nM M).2 x = (M.2 x).map nMc := rfl
    cases hs : rShp x with
    | none =>
      rw [hs] at h
      cases h
    | some s =>
      rw [hs] at h
      unfold rCq
      rw [hs]
      cases hm : M.2 x with
      | none =>
        rw [hm] at h
        unfold chC at h
        split at h <;> first | (cases h; done) | contradiction
      | some c =>
        rw [hm] at h hn
        obtain ⟨k, F⟩ := s
        match k, F, h with
        | 0, [(t, n), (b, k)], h =>
          rcases c with ⟨t2, n2, a⟩ | ⟨ci2, fs⟩
          · have h : (Nat.beq t t2 && (Nat.beq n n2 && chA t n b k a)) = true := h
            rw [Bool.and_eq_true, Bool.and_eq_true] at h
            obtain ⟨g1, g2, g3⟩ := h
            obtain rfl := Nat.eq_of_beq_eq_true g1
            obtain rfl := Nat.eq_of_beq_eq_true g2
            rcases a with f | f | g
            · obtain rfl := Nat.eq_of_beq_eq_true g3
              show some (Sum.inl (0, (n, Sum.inl (fun j => if j < n then f j else 0)))) = some (Sum.inl (0, (n, if 0 = 0 then Sum.inl (fun j => iI (mOf (nM M) x j)) else _)))
              rw [if_pos rfl]
              have : (fun j => if j < n then f j else 0) = fun j => iI (mOf (nM M) x j) := by
                funext j
                unfold mOf
                rw [hn]
                show (if j < n then f j else 0) = iI (if j < n then f j else 0).toInt
                rw [iI_toInt]
              rw [← this]
            · cases g3
            · have g3 : (Nat.ble 2 t && (Nat.beq k 0 || (List.range n).all (fun j => match g j with | some y => Nat.beq y (b + k * j) | none => false))) = true := g3
              rw [Bool.and_eq_true, Bool.or_eq_true] at g3
              have ht := Nat.le_of_ble_eq_true g3.1
              show some (Sum.inl (t, (n, Sum.inr (Sum.inr (fun j => if j < n then g j else none))))) = some (Sum.inl (t, (n, if t = 0 then _ else if t = 1 then _ else if k = 0 then Sum.inr (Sum.inr (qOf (nM M) x)) else Sum.inr (Sum.inr (fun j => if j < n then some (b + k * j) else none)))))
              rw [if_neg (by omega), if_neg (by omega)]
              by_cases hk : k = 0
              · rw [if_pos hk]
                have : (fun j => if j < n then g j else none) = qOf (nM M) x := by
                  funext j
                  unfold qOf
                  rw [hn]
                  rfl
                rw [this]
              · rw [if_neg hk]
                have h5 := g3.2.resolve_left (fun e => hk (Nat.eq_of_beq_eq_true e))
                have : (fun j => if j < n then g j else none) = fun j => if j < n then some (b + k * j) else none := by
                  funext j
                  by_cases hj : j < n
                  · rw [if_pos hj, if_pos hj]
                    have h6 := List.all_eq_true.mp h5 j (List.mem_range.mpr hj)
                    cases hg : g j with
                    | none =>
                      rw [hg] at h6
                      cases h6
                    | some y =>
                      rw [hg] at h6
                      exact congrArg some (Nat.eq_of_beq_eq_true h6)
                  · rw [if_neg hj, if_neg hj]
                rw [this]
          · cases h
        | 1, (ci, z) :: F, h =>
          rcases c with ⟨t2, n2, a⟩ | ⟨ci2, fs⟩
          · cases h
          · have h : (Nat.beq ci ci2 && chFs F fs) = true := h
            rw [Bool.and_eq_true] at h
            obtain rfl := Nat.eq_of_beq_eq_true h.1
            show some (Sum.inr (ci, fs)) = some (Sum.inr (ci, rFlv (mOf (nM M)) (qOf (nM M)) x 0 F))
            rw [← chFs_ok (M := nM M) hn F fs 0 h.2 (fun i => by rw [Nat.zero_add])]
        | 0, [], h => cases h
        | 0, [_], h => cases h
        | 0, _ :: _ :: _ :: _, h => cases h
        | 1, [], h => cases h
        | k + 2, _, h => cases h
  · have hm : M.2 x = none := by
      cases e : M.2 x with
      | none => rfl
      | some c =>
        have := hd x c e
        omega
    rw [hm]
    by_cases h9 : x = 391
    · rw [if_pos h9]
      rfl
    · rw [if_neg h9]
      unfold rCq
      have hs : rShp x = none := by
        unfold rShp
        by_cases hl : x < 100
        · rw [if_pos hl]
        · rw [if_neg hl]
          have h2 : rShL.length = 292 := by decide +kernel
          exact List.getElem?_eq_none (by omega)
      rw [hs]
      rfl
