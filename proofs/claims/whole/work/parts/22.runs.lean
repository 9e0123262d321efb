/-! ===== a run of the pure machine is a contract ===== -/
theorem sl_len : ∀ {vs : List Value}, (∀ v ∈ vs, v.category = 1) → (lg_sl vs).length = vs.length := by
  intro vs
  induction vs with
  | nil => intro _; rfl
  | cons v vs ih =>
    intro h
    have h1 := h v List.mem_cons_self
    have h2 := ih fun w hw => h w (List.mem_cons_of_mem _ hw)
    have h3 : lg_sl (v :: vs) = lg_sl [v] ++ lg_sl vs := by simp [lg_sl]
    rw [h3, List.length_append, h2, List.length_cons]
    have h4 : (lg_sl [v]).length = 1 := by
      simp [lg_sl, h1]
    omega
theorem args_mem : ∀ {vs : List Value} {i k : Nat} {v : Value}, (∀ v ∈ vs, v.category = 1) → vs[k]? = some v → (i + k, v) ∈ lv_args i vs := by
  intro vs
  induction vs with
  | nil => intro i k v _ h; simp at h
  | cons w vs ih =>
    intro i k v hc h
    have h1 := hc w List.mem_cons_self
    unfold lv_args
    rw [if_neg (by omega)]
    cases k with
    | zero =>
      rw [List.getElem?_cons_zero] at h
      cases h
      exact List.mem_cons_self
    | succ k =>
      rw [List.getElem?_cons_succ] at h
      have := ih (i := i + 1) (fun v hv => hc v (List.mem_cons_of_mem _ hv)) h
      rw [show i + 1 + k = i + (k + 1) by omega] at this
      exact List.mem_cons_of_mem _ this
theorem ini_at {As : List Value} {mx i : Nat} {v : Value} (h : (rIni As mx)[i]? = some (some v)) : As[i]? = some v := by
  unfold rIni at h
  by_cases hi : i < As.length
  · rw [List.getElem?_append_left (by rw [List.length_map]; exact hi), List.getElem?_map] at h
    cases ha : As[i]? with
    | none => rw [ha] at h; cases h
    | some w => rw [ha] at h; cases h; rfl
  · rw [List.getElem?_append_right (by rw [List.length_map]; omega)] at h
    have := List.eq_of_mem_replicate (List.mem_of_getElem? h)
    cases this
theorem ini_ok {ad : Nat → Nat} {As : List Value} {mx n : Nat} (hc : ∀ v ∈ As, v.category = 1) (hv : ∀ v ∈ As, vok n v) (hn : As.length ≤ mx) :
    rLk9 ad mx ((lg_sl (As.map (rv ad)) ++ List.replicate (mx - (lg_sl (As.map (rv ad))).length) Slot.unset).toArray) (rIni As mx) n := by
  have hc' : ∀ v ∈ As.map (rv ad), v.category = 1 := by
    intro v hv
    obtain ⟨w, hw, rfl⟩ := List.mem_map.mp hv
    rw [rv_cat]
    exact hc w hw
  have hlen : (lg_sl (As.map (rv ad))).length = As.length := by rw [sl_len hc', List.length_map]
  have h := lv_entry (As.map (rv ad)) (n := mx) (by rw [hlen]; exact hn)
  refine ⟨⟨h.1, h.2.1, fun q hq => ?_⟩, ?_, fun i v hi => ?_⟩
  · obtain ⟨v, h1, h2⟩ := rPr_mem.mp hq
    refine h.2.2 q ?_
    have h3 := args_mem (i := 0) hc' (show (As.map (rv ad))[q.1]? = some (rv ad v) by rw [List.getElem?_map, ini_at h1]; rfl)
    rw [Nat.zero_add, ← h2] at h3
    exact h3
  · unfold rIni
    rw [List.length_append, List.length_map, List.length_replicate]
    omega
  · have := List.mem_of_getElem? (ini_at hi)
    exact ⟨hv v this, hc v this⟩
theorem run_con (l : Launch) (hl9 : l.stackTraces = false) (D : va_G) (base : Nat) (hrows : ∀ r ∈ rMs, rOkR r = true) : ∀ (d f j : Nat) (As : List Value) (M : rMem) (res : rRes), rRun d f j As M = some res → rCon l D base d j As M res := by
  intro d
  induction d with
  | zero => intro f j As M res h; cases h
  | succ d ih =>
    intro f j As M res h r hr ad hAs
    unfold rRun at h
    rw [hr] at h
    dsimp only at h
    split at h
    next hc =>
      obtain ⟨hlen, hcat⟩ := hc
      have hcat' : ∀ v ∈ As, v.category = 1 := fun v hv => of_decide_eq_true (List.all_eq_true.mp hcat v hv)
      have hrm : r ∈ rMs := List.mem_of_getElem? hr
      have hok := row_ok (hrows r hrm)
      obtain ⟨out, M9, k9, n9⟩ := res
      have key : ∀ p e s m args below meth c s₁, BodyLoose p l r.1 (headSpec (rWS r) (rRm (d + 1) k9 n9)) r.2.1 r.2.2.1 r.2.2.2.1 e s m args below meth c s₁ → c.maxLocals = r.2.2.1 → c.exceptionTable.toList = tableOf (rHh r) → rPc D base ad As M args s →
          W p l e (headSpec (rWS r) (rRm (d + 1) k9 n9)).room s m args below meth c s.heap [] 0 0 (vx_MQ below (rQc D base ad M out M9) (rXC D base ad M out M9) args s k9 n9 (rA base)) (entryFrame m args r.2.2.1) := by
        intro p e s m args below meth c s₁ B hml hxt hv
        obtain ⟨rfl, hR, hC⟩ := hv
        have hts := atoms_spec (ws := rWS r) B.pre
        have hown : s.vm.findClass r.1.cls = some m.cls := findClass_of_methodNamed B.named
        rw [lg_entry_eq]
        have hF : rF D base ad r.2.2.1 ((lg_sl (As.map (rv ad)) ++ List.replicate (r.2.2.1 - (lg_sl (As.map (rv ad))).length) Slot.unset).toArray) (rIni As r.2.2.1) [] M s s.heap [] := ⟨ini_ok hcat' hAs (by rw [hlen]; exact hok.2.2.2.1), (fun v hv => nomatch hv), hR, va_S.rf⟩
        exact go_ok (R := (headSpec (rWS r) (rRm (d + 1) k9 n9)).room) (fun j As M res h => ih f j As M res h) hrows hl9 hok.1 hok.2.2.2.2.2.2.2.2.2.2.2 (of_decide_eq_true (List.all_eq_true.mp rHc_ok r hrm)) (of_decide_eq_true (List.all_eq_true.mp rAd_ok r hrm)) B.exec B.bytes hml hown (name_of_methodNamed B.named B.method).1 B.returns B.notSynchronized (fun w hw => hts w (List.mem_cons_of_mem _ hw)) hxt hR.1 hC hR.2.1 rfl out M9 f 0 ad _ _ [] M s.heap [] 0 0 h hF (fun _ _ => rfl) (Nat.le_refl _)
      cases hh : rHh r with
      | nil =>
        have hw : rWS r = Jvm.Cond.code r.1 r.2.1 r.2.2.1 r.2.2.2.1 :: rWs := by unfold rWS rWc; rw [hh]
        refine vx_ofW hok.2.1 hw ?_
        intro p e s m args below meth c s₁ B hml hnone hv
        refine key p e s m args below meth c s₁ B hml ?_ hv
        rw [hh]
        exact List.eq_nil_iff_forall_not_mem.mpr hnone
      | cons y ys =>
        have hw : rWS r = Jvm.Cond.codeWith r.1 r.2.1 r.2.2.1 r.2.2.2.1 (rHh r) :: rWs := by unfold rWS rWc; rw [hh]
        refine vx_ofWH hok.2.1 hw ?_
        intro p e s m args below meth c s₁ B hml hv
        refine key p e s m args below meth c s₁ B hml ?_ hv
        have hts := atoms_spec (ws := rWS r) B.pre
        exact vx_table (x := r.1) B (hts _ (by rw [hw]; exact List.mem_cons_self))
    next => cases h
