/-! ===== fields, rows of numbers and references, makings, over a pure memory ===== -/
section RowsB
variable {p : Program} {l : Launch} {e : Env} {R : Room} {s : State} {m : MethodId} {args : Array Value} {below : List Frame} {meth : Method} {c : Code} {H : Heap} {locs : List Loc} {cells slots : Nat} {Q : State → Prop}
variable {cc : ByteArray} {D : va_G} {base nL pc : Nat} {ad : Nat → Nat} {ls : Array Slot} {L : rLoc} {st : List Value} {M : rMem}
variable {Ts : List Cond} {own : String}

theorem rs_nth {fs : List Value} {b : Nat} {v : Value} (h : fs[b]? = some v) : (fs.map (rv ad))[b]? = some (rv ad v) := by rw [List.getElem?_map, h]; rfl
theorem ok_Get {a b idx : Nat} {x : rNx} (hx : p.tables.exec = Jvm.exec) (hb : c.code = cc) (h : rGet a b (pc + 3) L st M = some x) (ha : a < 100) (F : rF D base ad nL ls L st M s H locs) (k : rKon p l e R s m args below meth c Q D base nL ad M cells slots x)
    {r : vw_C} (hts : ∀ w ∈ Ts, w.before args s = true) (hr : rCl[a]? = some r) (hin : ∀ w ∈ u_ws r.1 r.2.1 r.2.2, w ∈ Ts) (hown : s.vm.findClass own = some m.cls) (hbn : b < r.2.2) (hlink : (Jvm.Cond.fieldLink own idx (r.2.1 b).1 (r.2.1 b).2.1 (r.2.1 b).2.2.1).before args s = true)
    (hdg : decode cc pc = .ok (.getfield idx, 3)) : W p l e R s m args below meth c H locs cells slots Q (F0 m pc ls (st.map (rv ad))) := by
  unfold rGet at h
  split at h
  next y rs =>
    rw [if_pos ha] at h
    split at h
    next ci fs hM =>
      split at h
      next hci =>
        split at h
        next v hv =>
          cases h
          subst hci
          obtain ⟨ws, tys, k0, e0, hP, hD, hK, hk0, hr0, hco, -, -⟩ := Rp_at F.2.2.1 hM
          cases hr0
          exact va_get (D := D) (ci := ci) (v := rv ad v) (C := r.1) (T := r.2.1) (N := r.2.2) hx hb hts hin hown hK hP k0 hk0 hr b hbn hlink (fun _ h9 => h9) (rs_nth hv) hdg (kon_same (st' := v :: rs) F (List.forall_mem_cons.mpr ⟨hco v (List.mem_of_getElem? hv), rF_tl F⟩) k)
        next => cases h
      next => cases h
    next => cases h
  next => cases h
theorem kon_mem {pc1 : Nat} {st' : List Value} {M' : rMem} {H1 : Heap} {locs1 : List Loc} (F : rF D base ad nL ls L st M s H locs) (hs : ∀ v ∈ st', vok M.1 v) (hM : M'.1 = M.1) (hR : Rp D base M' ad s H1) (hS : va_S (rA base) s.heap H1 locs1) (k : rKon p l e R s m args below meth c Q D base nL ad M cells slots ((pc1, (L, (st', M'))), (0, 0))) : W p l e R s m args below meth c H1 locs1 cells slots Q (F0 m pc1 ls (st'.map (rv ad))) :=
  k ad ls H1 locs1 (fun _ _ => rfl) (Nat.le_of_eq hM.symm) ⟨by rw [show (((pc1, (L, (st', M'))), (0, 0)) : rNx).1.2.2.2.1 = M.1 from hM]; exact F.1, by rw [show (((pc1, (L, (st', M'))), (0, 0)) : rNx).1.2.2.2.1 = M.1 from hM]; exact hs, hR, hS⟩
theorem rF_sz {H1 : Heap} {locs1 : List Loc} (F : rF D base ad nL ls L st M s H locs) (hb0 : base ≤ s.heap.size) (hS : va_S (rA base) s.heap H1 locs1) : base ≤ H1.size := Nat.le_trans hb0 hS.1
theorem rs_set {fs : List Value} {b : Nat} {v : Value} : (fs.set b v).map (rv ad) = (fs.map (rv ad)).set b (rv ad v) := List.map_set
theorem cok_set {n ci b : Nat} {fs : List Value} {v : Value} (h : cok n (.inr (ci, fs))) (hv : vok n v) : cok n (.inr (ci, fs.set b v)) := by
  intro w hw
  rcases List.mem_or_eq_of_mem_set hw with h1 | h1
  · exact h w h1
  · rw [h1]; exact hv
theorem rFit_ok {a b : Nat} {v : Value} {ty : FieldType} (h : rFit a b v = true) (hty : (∃ l, rFk[a]? = some l ∧ ((l[b]? = some true ∧ ty = .int) ∨ (l[b]? = some false ∧ ((∃ C, ty = .object C) ∨ ∃ t, ty = .array t))))) : narrow ty (rv ad v) = rv ad v ∧ fits ty (rv ad v) = true := by
  obtain ⟨l, hl, hc⟩ := hty
  unfold rFit at h
  rw [hl] at h
  rcases hc with ⟨h1, rfl⟩ | ⟨h1, h2⟩
  · simp only [Option.bind_some, h1] at h
    cases v <;> first | exact ⟨rfl, rfl⟩ | (cases h)
  · simp only [Option.bind_some, h1] at h
    rcases h2 with ⟨C, rfl⟩ | ⟨t, rfl⟩ <;> cases v <;> first | exact ⟨rfl, rfl⟩ | (cases h)
theorem ok_Put {a b idx : Nat} {x : rNx} (hx : p.tables.exec = Jvm.exec) (hb : c.code = cc) (h : rPut a b (pc + 3) L st M = some x) (F : rF D base ad nL ls L st M s H locs) (hb0 : base ≤ s.heap.size) (k : rKon p l e R s m args below meth c Q D base nL ad M cells slots x)
    {r : vw_C} {ty : FieldType} {ty0 : Nat → FieldType} (hts : ∀ w ∈ Ts, w.before args s = true) (hr : rCl[a]? = some r) (hin : ∀ w ∈ u_ws r.1 r.2.1 r.2.2, w ∈ Ts) (hown : s.vm.findClass own = some m.cls) (hbn : b < r.2.2) (hlink : (Jvm.Cond.fieldLink own idx (r.2.1 b).1 (r.2.1 b).2.1 (r.2.1 b).2.2.1).before args s = true)
    (hty0 : ∀ k, k < r.2.2 → parseFieldDescriptor (r.2.1 k).2.2.1 = some (ty0 k)) (hnm : ∀ a, a < r.2.2 → ∀ b, b < r.2.2 → a ≠ b → (r.2.1 a).2.1 ≠ (r.2.1 b).2.1)
    (hfin : (r.2.1 b).2.2.2 = false ∨ ((r.2.1 b).2.2.2 = true ∧ meth.name = "<init>" ∧ (r.2.1 b).1 = own)) (hd : parseFieldDescriptor (r.2.1 b).2.2.1 = some ty)
    (hty : (∃ l, rFk[a]? = some l ∧ ((l[b]? = some true ∧ ty = .int) ∨ (l[b]? = some false ∧ ((∃ C, ty = .object C) ∨ ∃ t, ty = .array t)))))
    (hdg : decode cc pc = .ok (.putfield idx, 3)) : W p l e R s m args below meth c H locs cells slots Q (F0 m pc ls (st.map (rv ad))) := by
  unfold rPut at h
  split at h
  next v y rs =>
    split at h
    next ci fs hM =>
      split at h
      next hci =>
        obtain ⟨hci, hbl, hft⟩ := hci
        cases h
        subst hci
        obtain ⟨ws, tys, k0, e0, hP, hD, hK, hk0, hr0, hco, hal, hset⟩ := Rp_at F.2.2.1 hM
        cases hr0
        obtain ⟨hn1, hf1⟩ := rFit_ok (ad := ad) hft hty
        have hkk : ∀ (H1 : Heap) (locs1 : List Loc), va_P D rCl (ws.set k0 (ad y, .inr (ci, (fs.map (rv ad)).set b (rv ad v)))) H1 → va_D (rA base) (ws.set k0 (ad y, .inr (ci, (fs.map (rv ad)).set b (rv ad v)))) → va_S (rA base) s.heap H1 locs1 → W p l e R s m args below meth c H1 locs1 cells slots Q (F0 m (pc + 3) ls (rs.map (rv ad))) := by
          intro H1 locs1 hP1 hD1 hS1
          exact kon_mem (st' := rs) (M' := rSet M y (.inr (ci, fs.set b v))) F (fun w hw => F.2.1 w (List.mem_cons_of_mem _ (List.mem_cons_of_mem _ hw))) rfl (hset H1 (.inr (ci, fs.set b v)) _ hP1 hD1 (by show _ = _; rw [rs_set]) (cok_set hco (rF_hd F)) (Nat.le_trans hb0 hS1.1)) hS1 k
        have hl9 : b < (fs.map (rv ad)).length := by rw [List.length_map]; exact hbl
        rcases hfin with hf | ⟨hf, hin2, hdc⟩
        · exact va_put (D := D) (ci := ci) (v := rv ad v) (ty := ty) (C := r.1) (T := r.2.1) (N := r.2.2) hx hb hts hin ty0 hty0 hnm hown hK hP hD F.2.2.2 k0 hk0 hr b hbn hlink (fun _ h9 => h9) hf hd hn1 hf1 hl9 hdg hkk
        · exact va_putF (D := D) (ci := ci) (v := rv ad v) (ty := ty) (C := r.1) (T := r.2.1) (N := r.2.2) hx hb hts hin ty0 hty0 hnm hown hK hP hD F.2.2.2 k0 hk0 hr b hbn hlink (fun _ h9 => h9) hf hin2 hdc hd hn1 hf1 hl9 hdg hkk
      next => cases h
    next => cases h
  next => cases h
theorem ok_Iald {x : rNx} (hx : p.tables.exec = Jvm.exec) (hb : c.code = cc) (h : rIald 0 (pc + 1) L st M = some x) (F : rF D base ad nL ls L st M s H locs) (k : rKon p l e R s m args below meth c Q D base nL ad M cells slots x) (hdg : decode cc pc = .ok (.iaload, 1)) : W p l e R s m args below meth c H locs cells slots Q (F0 m pc ls (st.map (rv ad))) := by
  unfold rIald at h
  split at h
  next i y rs =>
    rw [if_pos rfl] at h
    split at h
    next t n f hM =>
      split at h
      next hc =>
        obtain ⟨rfl, hin⟩ := hc
        cases h
        obtain ⟨ws, tys, k0, e0, hP, hD, hK, hk0, ⟨cA, htm, rfl⟩, hco, -, -⟩ := Rp_at F.2.2.1 hM
        obtain ⟨t0, ht0⟩ := List.getElem?_of_mem htm
        exact va_iald hx hb hK hP k0 t0 hk0 ht0 hin hdg (kon_same (st' := .int _ :: rs) F (List.forall_mem_cons.mpr ⟨trivial, fun w hw => rF_tl F w (List.mem_cons_of_mem _ hw)⟩) k)
      next => cases h
    next => cases h
  next => cases h
theorem ok_Iast {x : rNx} (hx : p.tables.exec = Jvm.exec) (hb : c.code = cc) (h : rIast (pc + 1) L st M = some x) (F : rF D base ad nL ls L st M s H locs) (hb0 : base ≤ s.heap.size) (k : rKon p l e R s m args below meth c Q D base nL ad M cells slots x) (hdg : decode cc pc = .ok (.iastore, 1)) : W p l e R s m args below meth c H locs cells slots Q (F0 m pc ls (st.map (rv ad))) := by
  unfold rIast at h
  split at h
  next v i y rs =>
    split at h
    next t n f hM =>
      split at h
      next hc =>
        obtain ⟨rfl, hin⟩ := hc
        cases h
        obtain ⟨ws, tys, k0, e0, hP, hD, hK, hk0, ⟨cA, htm, rfl⟩, hco, hal, hset⟩ := Rp_at F.2.2.1 hM
        obtain ⟨t0, ht0⟩ := List.getElem?_of_mem htm
        exact va_iast hx hb hK hP hD F.2.2.2 k0 t0 hk0 ht0 hin hdg (fun H1 locs1 hP1 hD1 hS1 => kon_mem (st' := rs) (M' := rSet M y (.inl (0, (n, .inl (upd f i.toNatClampNeg v))))) F (fun w hw => F.2.1 w (List.mem_cons_of_mem _ (List.mem_cons_of_mem _ (List.mem_cons_of_mem _ hw)))) rfl (hset H1 (.inl (0, (n, .inl (upd f i.toNatClampNeg v)))) _ hP1 hD1 ⟨cA, htm, rfl⟩ trivial (Nat.le_trans hb0 hS1.1)) hS1 k)
      next => cases h
    next => cases h
  next => cases h
theorem ok_Lald {x : rNx} (hx : p.tables.exec = Jvm.exec) (hb : c.code = cc) (h : rLald (pc + 1) L st M = some x) (F : rF D base ad nL ls L st M s H locs) (k : rKon p l e R s m args below meth c Q D base nL ad M cells slots x) (hdg : decode cc pc = .ok (.laload, 1)) : W p l e R s m args below meth c H locs cells slots Q (F0 m pc ls (st.map (rv ad))) := by
  unfold rLald at h
  split at h
  next i y rs =>
    split at h
    next t n f hM =>
      split at h
      next hc =>
        obtain ⟨rfl, hin⟩ := hc
        cases h
        obtain ⟨ws, tys, k0, e0, hP, hD, hK, hk0, ⟨cA, htm, rfl⟩, hco, -, -⟩ := Rp_at F.2.2.1 hM
        obtain ⟨t0, ht0⟩ := List.getElem?_of_mem htm
        exact va_lald hx hb hK hP k0 t0 hk0 ht0 hin hdg (kon_same (st' := .long _ :: rs) F (List.forall_mem_cons.mpr ⟨trivial, fun w hw => rF_tl F w (List.mem_cons_of_mem _ hw)⟩) k)
      next => cases h
    next => cases h
  next => cases h
theorem ok_Last {x : rNx} (hx : p.tables.exec = Jvm.exec) (hb : c.code = cc) (h : rLast (pc + 1) L st M = some x) (F : rF D base ad nL ls L st M s H locs) (hb0 : base ≤ s.heap.size) (k : rKon p l e R s m args below meth c Q D base nL ad M cells slots x) (hdg : decode cc pc = .ok (.lastore, 1)) : W p l e R s m args below meth c H locs cells slots Q (F0 m pc ls (st.map (rv ad))) := by
  unfold rLast at h
  split at h
  next v i y rs =>
    split at h
    next t n f hM =>
      split at h
      next hc =>
        obtain ⟨rfl, hin⟩ := hc
        cases h
        obtain ⟨ws, tys, k0, e0, hP, hD, hK, hk0, ⟨cA, htm, rfl⟩, hco, hal, hset⟩ := Rp_at F.2.2.1 hM
        obtain ⟨t0, ht0⟩ := List.getElem?_of_mem htm
        exact va_last hx hb hK hP hD F.2.2.2 k0 t0 hk0 ht0 hin hdg (fun H1 locs1 hP1 hD1 hS1 => kon_mem (st' := rs) (M' := rSet M y (.inl (1, (n, .inr (.inl (vp_updL f i.toNatClampNeg v)))))) F (fun w hw => F.2.1 w (List.mem_cons_of_mem _ (List.mem_cons_of_mem _ (List.mem_cons_of_mem _ hw)))) rfl (hset H1 (.inl (1, (n, .inr (.inl (vp_updL f i.toNatClampNeg v))))) _ hP1 hD1 ⟨cA, htm, rfl⟩ trivial (Nat.le_trans hb0 hS1.1)) hS1 k)
      next => cases h
    next => cases h
  next => cases h
theorem rOv_map {r : Option Nat} : rv ad (rOv r) = va_rf (r.map ad) := by cases r <;> rfl
theorem rTy_obj {t : Nat} (h : 2 ≤ t) : ∃ C, rTy t = .object C := by
  match t, h with
  | 2, _ => exact ⟨_, rfl⟩
  | 3, _ => exact ⟨_, rfl⟩
  | 4, _ => exact ⟨_, rfl⟩
  | t + 5, _ => exact ⟨_, rfl⟩
theorem ok_Aald {x : rNx} (hx : p.tables.exec = Jvm.exec) (hb : c.code = cc) (h : rAald 0 (pc + 1) L st M = some x) (F : rF D base ad nL ls L st M s H locs) (k : rKon p l e R s m args below meth c Q D base nL ad M cells slots x) (hdg : decode cc pc = .ok (.aaload, 1)) : W p l e R s m args below meth c H locs cells slots Q (F0 m pc ls (st.map (rv ad))) := by
  unfold rAald at h
  split at h
  next i y rs =>
    rw [if_pos rfl] at h
    split at h
    next t n f hM =>
      split at h
      next hc =>
        obtain ⟨h2, hin⟩ := hc
        cases h
        obtain ⟨ws, tys, k0, e0, hP, hD, hK, hk0, ⟨cA, htm, rfl⟩, hco, -, -⟩ := Rp_at F.2.2.1 hM
        obtain ⟨C, hC⟩ := rTy_obj h2
        rw [hC] at htm
        obtain ⟨t0, ht0⟩ := List.getElem?_of_mem htm
        refine va_aldq hx hb hK hP k0 t0 hk0 ht0 hin hdg ?_
        have hv : vok M.1 (rOv (f i.toNatClampNeg)) := by
          cases hf : f i.toNatClampNeg with
          | none => trivial
          | some z => exact hco _ z hf
        have := kon_same (st' := rOv (f i.toNatClampNeg) :: rs) F (List.forall_mem_cons.mpr ⟨hv, fun w hw => rF_tl F w (List.mem_cons_of_mem _ hw)⟩) k
        rw [List.map_cons, rOv_map] at this
        exact this
      next => cases h
    next => cases h
  next => cases h
theorem aok_up {n i v : Nat} {f : Nat → Option Nat} (h : aok n (.inr (.inr f))) (hv : v < n) : aok n (.inr (.inr (va_up f i (some v)))) := by
  intro j x hx
  by_cases he : j = i
  · have : va_up f i (some v) j = some v := if_pos he
    rw [this] at hx
    cases hx
    exact hv
  · have : va_up f i (some v) j = f j := if_neg he
    rw [this] at hx
    exact h j x hx
theorem up_map {f : Nat → Option Nat} {i v : Nat} : (fun j => (va_up f i (some v) j).map ad) = va_up (fun j => (f j).map ad) i (some (ad v)) := by
  funext j
  unfold va_up
  by_cases he : j = i
  · rw [if_pos he, if_pos he]; rfl
  · rw [if_neg he, if_neg he]
theorem rAc_ok {t cj : Nat} (h : rAc t = some cj) : ∃ r, rCl[cj]? = some r ∧ rTy t = .object r.1 := by
  match t, h with
  | 2, h => cases h; exact ⟨_, rfl, rfl⟩
  | 3, h => cases h; exact ⟨_, rfl, rfl⟩
  | 4, h => cases h; exact ⟨_, rfl, rfl⟩
theorem ok_Aast {x : rNx} (hx : p.tables.exec = Jvm.exec) (hb : c.code = cc) (h : rAast (pc + 1) L st M = some x) (F : rF D base ad nL ls L st M s H locs) (hb0 : base ≤ s.heap.size) (hst : ∀ v, v < 8 → va_Any "FanHouse$Step" s H (ad v)) (k : rKon p l e R s m args below meth c Q D base nL ad M cells slots x) (hdg : decode cc pc = .ok (.aastore, 1)) : W p l e R s m args below meth c H locs cells slots Q (F0 m pc ls (st.map (rv ad))) := by
  unfold rAast at h
  split at h
  next v i y rs =>
    split at h
    next t n f hM =>
      split at h
      next hin =>
        obtain ⟨ws, tys, k0, e0, hP, hD, hK, hk0, ⟨cA, htm, rfl⟩, hco, hal, hset⟩ := Rp_at F.2.2.1 hM
        have hvv : v < M.1 := rF_hd F
        have htl : ∀ w ∈ rs, vok M.1 w := fun w hw => F.2.1 w (List.mem_cons_of_mem _ (List.mem_cons_of_mem _ (List.mem_cons_of_mem _ hw)))
        split at h
        next ht5 =>
          split at h
          next hv8 =>
            cases h
            subst ht5
            obtain ⟨t0, ht0⟩ := List.getElem?_of_mem htm
            exact va_astqM (E := "FanHouse$Step") hx hb hK hP hD F.2.2.2 k0 t0 hk0 ht0 (hst v hv8) hin hdg (fun H1 locs1 hP1 hD1 hS1 => kon_mem (st' := rs) (M' := rSet M y (.inl (5, (n, .inr (.inr (va_up f i.toNatClampNeg (some v))))))) F htl rfl (hset H1 (.inl (5, (n, .inr (.inr (va_up f i.toNatClampNeg (some v)))))) _ hP1 hD1 ⟨cA, htm, by show _ = _; rw [rAr, up_map]⟩ (aok_up hco hvv) (Nat.le_trans hb0 hS1.1)) hS1 k)
          next => cases h
        next =>
          split at h
          next ci fs cj hMv hcj =>
            split at h
            next hcc =>
              cases h
              subst hcc
              obtain ⟨r, hr, htr⟩ := rAc_ok hcj
              obtain ⟨k2, e2, hk2, hr2⟩ := hal v _ hMv
              cases hr2
              have htm2 : (cA, FieldType.object r.1) ∈ tys := htr ▸ htm
              obtain ⟨t0, ht0⟩ := List.getElem?_of_mem htm2
              exact va_astq (r := r) hx hb hK hP hD F.2.2.2 k0 t0 k2 ci hk0 ht0 hk2 hr hin hdg (fun H1 locs1 hP1 hD1 hS1 => kon_mem (st' := rs) (M' := rSet M y (.inl (t, (n, .inr (.inr (va_up f i.toNatClampNeg (some v))))))) F htl rfl (hset H1 (.inl (t, (n, .inr (.inr (va_up f i.toNatClampNeg (some v)))))) _ hP1 hD1 ⟨cA, htm, by show _ = _; rw [rAr, up_map]⟩ (aok_up hco hvv) (Nat.le_trans hb0 hS1.1)) hS1 k)
            next => cases h
          next => cases h
      next => cases h
    next => cases h
  next => cases h
end RowsB
