/-! ===== constants (the enum, its array, the switch map, texts), and makings ===== -/
def rOkS (q : Nat × Nat × Nat × Nat × Nat) : Bool := match rKn[q.1]? with
  | some own => match q.2.2.1 with
    | 0 => rIn (.fieldLink own q.2.1 "FanHouse$Step" "ALL" "[LFanHouse$Step;") q.2.2.2.2
    | 1 => rIn (.fieldLink own q.2.1 "FanHouse$Step" "AGAIN" "LFanHouse$Step;") q.2.2.2.2
    | 2 => rIn (.fieldLink own q.2.1 "FanHouse$1" "$SwitchMap$FanHouse$Step" "[I") q.2.2.2.2
    | _ => false
  | none => false
set_option maxRecDepth 100000 in
theorem rSt_ok : rSt.all rOkS = true := by decide +kernel
set_option maxRecDepth 100000 in
theorem rWw_ok : Jvm.Cond.fieldLink "FanHouse$Step" 47 "FanHouse$Step" "word" "Ljava/lang/String;" ∈ rWs ∧ Jvm.Cond.fieldLinkNest "FanHouse$Work" 61 "FanHouse$Step" "numbers" "Ljava/lang/String;" "FanHouse" ∈ rNw := by decide +kernel
/-- the texts as objects, and what String's own methods ask -/
def rCs (base : Nat) (ad : Nat → Nat) (U : State) (H : Heap) : Prop :=
  (∀ i, i < rTx.length → va_O "java/lang/String" (ad (10 + i)) (rA base) U H ∧ va_OF "java/lang/String" "coder" "B" (.int 0) (ad (10 + i)) (rA base) U H ∧ ∃ v, va_OF "java/lang/String" "value" "[B" (.ref v) (ad (10 + i)) (rA base) U H ∧ va_T .byte v (rTx.getD i []).length (fun j => .int (Int32.ofNat ((rTx.getD i []).getD j 0))) (rA base) U H) ∧
  va_Z "java/lang/String" "COMPACT_STRINGS" "Z" (.int 1) (rA base) U H ∧ va_Zq "jdk/internal/util/Preconditions" "SIOOBE_FORMATTER" "Ljava/util/function/BiFunction;" (rA base) U H
def rXa : List Jvm.Cond := vx_atS "FanHouse" 361 "java/lang/IllegalArgumentException" ["java/lang/RuntimeException", "java/lang/Exception"]
def rXb : List Jvm.Cond := nx_at 13 prog_33_method_4_code "FanHouse" 368 "java/util/NoSuchElementException" ["java/lang/RuntimeException", "java/lang/Exception"]
/-- the words of a throw that aren't kept by themselves -/
def rXw : List Jvm.Cond := (rXa ++ rXb).filter (fun w => !goodWord w)
def rDC (w : Jvm.Cond) : Bool := match w with
  | .declares _ => true
  | .castable _ _ => true
  | _ => false
set_option maxRecDepth 100000 in
theorem rXw_ok : rXw.all rDC = true := by decide +kernel
set_option maxRecDepth 100000 in
theorem rXw_in : ∀ w ∈ rXw, w ∈ lw_tbl := by decide +kernel
set_option maxRecDepth 100000 in
theorem rXg_in : ∀ w ∈ (rXa ++ rXb).filter goodWord, w ∈ lw_tbl := by decide +kernel
theorem rDC_warm {w : Jvm.Cond} {s U : State} (h : rDC w = true) (hW : s.WarmedH U.vm) (hZ : va_Nw w s) : va_Nw w U := by
  unfold rDC at h
  split at h
  next => exact va_Nw.warmD hW hZ
  next => exact va_Nw.warmC hW hZ
  next => cases h
theorem rDC_tab {w : Jvm.Cond} (h : rDC w = true) : w.onTables = true := by
  unfold rDC at h
  split at h
  next => rfl
  next => rfl
  next => cases h
/-- what a throw asks -/
def rCx (base : Nat) (U : State) (H : Heap) : Prop :=
  (∃ a, vk_R "FanHouse" 359 "an argument is outside what the document allows" a U) ∧ (∃ a, vk_R "FanHouse" 366 "there is no such stick or place" a U) ∧
  vx_Zq Bundle.tN "UNASSIGNED_STACK" Bundle.steD (rA base) U H ∧ vx_Zq Bundle.tN "SUPPRESSED_SENTINEL" Bundle.listD (rA base) U H ∧ (∀ w ∈ rXw, va_Nw w U) ∧ va_Nw (.castable "java/lang/IllegalArgumentException" "java/lang/IllegalArgumentException") U ∧ va_Nw (.castable "java/util/NoSuchElementException" "java/util/NoSuchElementException") U ∧ va_Nc "java/lang/IllegalArgumentException" "java/util/NoSuchElementException" U
def rCe (base : Nat) (ad : Nat → Nat) (U : State) (H : Heap) : Prop :=
  va_Z "FanHouse$Step" "ALL" "[LFanHouse$Step;" (.ref (ad 8)) (rA base) U H ∧ va_Z "FanHouse$Step" "AGAIN" "LFanHouse$Step;" (.ref (ad 7)) (rA base) U H ∧ va_Z "FanHouse$1" "$SwitchMap$FanHouse$Step" "[I" (.ref (ad 9)) (rA base) U H ∧
  va_T (.object "FanHouse$Step") (ad 8) 8 (fun j => .ref (ad j)) (rA base) U H ∧ va_T .int (ad 9) 8 (fun j => .int (Int32.ofNat (rSw.getD j 0))) (rA base) U H ∧
  (∀ i, i < 8 → va_O "FanHouse$Step" (ad i) (rA base) U H ∧ va_OF "FanHouse$Step" "word" "Ljava/lang/String;" (.ref (ad (rEw.getD i 0))) (ad i) (rA base) U H ∧ va_OF "FanHouse$Step" "numbers" "Ljava/lang/String;" (.ref (ad (rEn.getD i 0))) (ad i) (rA base) U H ∧ va_OF "java/lang/Enum" "ordinal" "I" (.int (Int32.ofNat i)) (ad i) (rA base) U H)
def rCt (ad : Nat → Nat) (U : State) : Prop :=
  (∀ w ∈ rNw, va_Nw w U) ∧ (∀ t C, 2 ≤ t → t ≤ 5 → rTy t = .object C → va_AO C U) ∧ (∀ q ∈ rLt, q.2.2.1 = 1 → ∀ own tx, rKn[q.1]? = some own → rSTR[q.2.2.2.1 - 10]? = some tx → vk_R own q.2.1 tx (ad q.2.2.2.1) U) ∧ (∀ i j, i < 8 → j < 8 → ad i = ad j → i = j)
def rCn (base : Nat) (ad : Nat → Nat) (U : State) (H : Heap) : Prop := rCt ad U ∧ rCe base ad U H ∧ rCs base ad U H ∧ rCx base U H
theorem lt_lt {q : Nat × Nat × Nat × Nat × Nat} (h : q ∈ rLt) (h1 : q.2.2.1 = 1) : q.2.2.2.1 < 100 := by
  have : rLt.all (fun q => decide (q.2.2.1 = 1 → q.2.2.2.1 < 100)) = true := by decide +kernel
  have h2 := List.all_eq_true.mp this q h
  simp only [decide_eq_true_eq] at h2
  exact h2 h1
theorem ew_lt {i : Nat} (hi : i < 8) : rEw.getD i 0 < 100 ∧ rEn.getD i 0 < 100 := by
  have : ∀ i, i < 8 → rEw.getD i 0 < 100 ∧ rEn.getD i 0 < 100 := by decide +kernel
  exact this i hi
/-- only the constants' ids matter -/
theorem rCn_eqv {base : Nat} {ad ad' : Nat → Nat} {U : State} {H : Heap} (he : rEqv 100 ad ad') (h : rCn base ad U H) : rCn base ad' U H := by
  obtain ⟨⟨t1, t2, t3, t4⟩, ⟨e1, e2, e3, e4, e5, e6⟩, ⟨s1, s2⟩, x⟩ := h
  refine ⟨⟨t1, t2, fun q hq h1 own tx ho ht => by rw [he _ (lt_lt hq h1)]; exact t3 q hq h1 own tx ho ht, fun i j hi hj hij => t4 i j hi hj (by rw [← he i (by omega), ← he j (by omega)]; exact hij)⟩, ⟨by rw [he 8 (by omega)]; exact e1, by rw [he 7 (by omega)]; exact e2, by rw [he 9 (by omega)]; exact e3, ?_, by rw [he 9 (by omega)]; exact e5, fun i hi => ?_⟩, ⟨fun i hi => ?_, s2⟩, x⟩
  · obtain ⟨cell, c1, c2, c3, c4, c5, c6, c7⟩ := e4
    rw [he 8 (by omega)]
    exact ⟨cell, c1, c2, c3, c4, c5, fun j hj => by show _ = some (Value.ref (ad' j)); rw [he j (by omega)]; exact c6 j hj, c7⟩
  · obtain ⟨a1, a2, a3, a4⟩ := e6 i hi
    rw [he i (by omega), he _ (ew_lt hi).1, he _ (ew_lt hi).2]
    exact ⟨a1, a2, a3, a4⟩
  · have hl : 10 + i < 100 := Nat.lt_of_lt_of_le (Nat.add_lt_add_left hi 10) (by decide +kernel)
    rw [he _ hl]
    exact s1 i hi
/-- constants stay -/
theorem rCn_kept {base : Nat} {ad : Nat → Nat} {u U : State} {H H1 : Heap} (hW : u.WarmedH U.vm) (hq : ∀ a : Nat, a < H.size → ¬ rA base a → H1[a]? = H[a]?) (h : rCn base ad u H) : rCn base ad U H1 := by
  have hvm := hW.alike
  obtain ⟨⟨t1, t2, t3, t4⟩, ⟨e1, e2, e3, e4, e5, e6⟩, ⟨s1, s2, s3⟩, x1, x2, x3, x4, x5, x6, x7, x8⟩ := h
  refine ⟨⟨fun w hw => ?_, fun t C h2 h5 hC => (t2 t C h2 h5 hC).moved hvm, fun q hq h1 own tx ho ht => (t3 q hq h1 own tx ho ht).warm hW, t4⟩,
    ⟨(va_Z.moved hvm e1).kept hq, (va_Z.moved hvm e2).kept hq, (va_Z.moved hvm e3).kept hq, (va_T.moved hvm e4).kept hq, (va_T.moved hvm e5).kept hq, fun i hi => ?_⟩,
    ⟨fun i hi => ?_, (va_Z.moved hvm s2).kept hq, (va_Zq.moved hvm s3).kept hq⟩, ?_, ?_, (vx_Zq.moved hvm x3).kept hq, (vx_Zq.moved hvm x4).kept hq, fun w hw => rDC_warm (List.all_eq_true.mp rXw_ok w hw) hW (x5 w hw), va_Nw.warmC hW x6, va_Nw.warmC hW x7, x8.moved hvm⟩
  · have hk : ∀ w ∈ rNw, (∃ a i x h, w = .methodLinkNest a i x h) ∨ ∃ a i b n d h, w = .fieldLinkNest a i b n d h := by
      intro w hw
      simp only [rNw, List.mem_cons, List.not_mem_nil, or_false] at hw
      rcases hw with rfl | rfl | rfl | rfl | rfl | rfl | rfl | rfl | rfl | rfl | rfl | rfl | rfl | rfl | rfl | rfl | rfl | rfl <;> first | exact Or.inl ⟨_, _, _, _, rfl⟩ | exact Or.inr ⟨_, _, _, _, _, _, rfl⟩
    rcases hk w hw with ⟨a, i, x, h, rfl⟩ | ⟨a, i, b, n, d, h, rfl⟩
    · exact va_Nw.warmM hW (t1 _ hw)
    · exact va_Nw.warmF hW (t1 _ hw)
  · obtain ⟨a1, a2, a3, a4⟩ := e6 i hi
    exact ⟨(va_O.moved hvm a1).kept hq, (va_OF.moved hvm a2).kept hq, (va_OF.moved hvm a3).kept hq, (va_OF.moved hvm a4).kept hq⟩
  · obtain ⟨a1, a2, v, a3, a4⟩ := s1 i hi
    exact ⟨(va_O.moved hvm a1).kept hq, (va_OF.moved hvm a2).kept hq, v, (va_OF.moved hvm a3).kept hq, (va_T.moved hvm a4).kept hq⟩
  · obtain ⟨a, h⟩ := x1
    exact ⟨a, h.warm hW⟩
  · obtain ⟨a, h⟩ := x2
    exact ⟨a, h.warm hW⟩
section RowsC
variable {p : Program} {l : Launch} {e : Env} {R : Room} {s : State} {m : MethodId} {args : Array Value} {below : List Frame} {meth : Method} {c : Code} {H : Heap} {locs : List Loc} {cells slots : Nat} {Q : State → Prop}
variable {cc : ByteArray} {D : va_G} {base nL pc : Nat} {ad : Nat → Nat} {ls : Array Slot} {L : rLoc} {st : List Value} {M : rMem}
variable {Ts : List Jvm.Cond} {own : String}

theorem ok_GetC {a b idx : Nat} {x : rNx} (hx : p.tables.exec = Jvm.exec) (hb : c.code = cc) (h : rGet a b (pc + 3) L st M = some x) (ha : ¬ a < 100) (F : rF D base ad nL ls L st M s H locs) (h100 : 100 ≤ M.1) (hC : rCe base ad s s.heap) (k : rKon p l e R s m args below meth c Q D base nL ad M cells slots x)
    (row1 : b = 0 → ∀ (y : Nat) (v : Value) (r : List Value), va_OF "FanHouse$Step" "word" "Ljava/lang/String;" v y (rA base) s s.heap → W p l e R s m args below meth c H locs cells slots Q (F0 m (pc + 3) ls (v :: r)) → W p l e R s m args below meth c H locs cells slots Q (F0 m pc ls (.ref y :: r)))
    (row2 : b ≠ 0 → ∀ (y : Nat) (v : Value) (r : List Value), va_OF "FanHouse$Step" "numbers" "Ljava/lang/String;" v y (rA base) s s.heap → W p l e R s m args below meth c H locs cells slots Q (F0 m (pc + 3) ls (v :: r)) → W p l e R s m args below meth c H locs cells slots Q (F0 m pc ls (.ref y :: r))) : W p l e R s m args below meth c H locs cells slots Q (F0 m pc ls (st.map (rv ad))) := by
  unfold rGet at h
  split at h
  next y rs =>
    rw [if_neg ha] at h
    split at h
    next t ht =>
      cases h
      by_cases hb0 : b = 0
      · rw [if_pos hb0] at ht
        have hy : y < 8 := (List.getElem?_eq_some_iff.mp ht).1
        have hg : rEw.getD y 0 = t := by rw [List.getD_eq_getElem?_getD, ht]; rfl
        have h1 := (hC.2.2.2.2.2 y hy).2.1
        rw [hg] at h1
        have hlt : t < 100 := by rw [← hg]; exact (ew_lt hy).1
        exact row1 hb0 (ad y) (.ref (ad t)) (rs.map (rv ad)) h1 (kon_same (st' := .ref t :: rs) F (List.forall_mem_cons.mpr ⟨Nat.lt_of_lt_of_le hlt h100, rF_tl F⟩) k)
      · rw [if_neg hb0] at ht
        have hy : y < 8 := (List.getElem?_eq_some_iff.mp ht).1
        have hg : rEn.getD y 0 = t := by rw [List.getD_eq_getElem?_getD, ht]; rfl
        have h1 := (hC.2.2.2.2.2 y hy).2.2.1
        rw [hg] at h1
        have hlt : t < 100 := by rw [← hg]; exact (ew_lt hy).2
        exact row2 hb0 (ad y) (.ref (ad t)) (rs.map (rv ad)) h1 (kon_same (st' := .ref t :: rs) F (List.forall_mem_cons.mpr ⟨Nat.lt_of_lt_of_le hlt h100, rF_tl F⟩) k)
    next => cases h
  next => cases h
theorem ok_IaldC {a : Nat} {x : rNx} (hx : p.tables.exec = Jvm.exec) (hb : c.code = cc) (h : rIald a (pc + 1) L st M = some x) (ha : ¬ a = 0) (F : rF D base ad nL ls L st M s H locs) (hC : rCe base ad s s.heap) (k : rKon p l e R s m args below meth c Q D base nL ad M cells slots x) (hdg : decode cc pc = .ok (.iaload, 1)) : W p l e R s m args below meth c H locs cells slots Q (F0 m pc ls (st.map (rv ad))) := by
  unfold rIald at h
  split at h
  next i y rs =>
    rw [if_neg ha] at h
    split at h
    next hc =>
      obtain ⟨rfl, hin⟩ := hc
      cases h
      exact va_ti hx hb hC.2.2.2.2.1 F.2.2.2 hin rfl hdg (kon_same (st' := .int _ :: rs) F (List.forall_mem_cons.mpr ⟨trivial, fun w hw => rF_tl F w (List.mem_cons_of_mem _ hw)⟩) k)
    next => cases h
  next => cases h
theorem ok_AaldC {a : Nat} {x : rNx} (hx : p.tables.exec = Jvm.exec) (hb : c.code = cc) (h : rAald a (pc + 1) L st M = some x) (ha : ¬ a = 0) (F : rF D base ad nL ls L st M s H locs) (h100 : 100 ≤ M.1) (hC : rCe base ad s s.heap) (k : rKon p l e R s m args below meth c Q D base nL ad M cells slots x) (hdg : decode cc pc = .ok (.aaload, 1)) : W p l e R s m args below meth c H locs cells slots Q (F0 m pc ls (st.map (rv ad))) := by
  unfold rAald at h
  split at h
  next i y rs =>
    rw [if_neg ha] at h
    split at h
    next hc =>
      obtain ⟨rfl, hin⟩ := hc
      cases h
      have hlt : i.toNatClampNeg < 8 := Nat.not_le.mp fun z => hin (Or.inr z)
      exact vb_tq hx hb hC.2.2.2.1 F.2.2.2 hin rfl hdg (kon_same (st' := .ref _ :: rs) F (List.forall_mem_cons.mpr ⟨(by show _ < M.1; omega), fun w hw => rF_tl F w (List.mem_cons_of_mem _ hw)⟩) k)
    next => cases h
  next => cases h
theorem ok_Alen {x : rNx} (hx : p.tables.exec = Jvm.exec) (hb : c.code = cc) (h : rAlen 0 (pc + 1) L st M = some x) (F : rF D base ad nL ls L st M s H locs) (k : rKon p l e R s m args below meth c Q D base nL ad M cells slots x) (hdg : decode cc pc = .ok (.arraylength, 1)) : W p l e R s m args below meth c H locs cells slots Q (F0 m pc ls (st.map (rv ad))) := by
  unfold rAlen at h
  split at h
  next y rs =>
    rw [if_pos rfl] at h
    split at h
    next t n f hM =>
      cases h
      obtain ⟨ws, tys, k0, e0, hP, hD, hK, hk0, ⟨cA, htm, rfl⟩, hco, -, -⟩ := Rp_at F.2.2.1 hM
      obtain ⟨t0, ht0⟩ := List.getElem?_of_mem htm
      exact va_alen hx hb hK hP k0 t0 hk0 ht0 rfl hdg (kon_same (st' := .int _ :: rs) F (List.forall_mem_cons.mpr ⟨trivial, rF_tl F⟩) k)
    next => cases h
  next => cases h
theorem ok_AlenC {a : Nat} {x : rNx} (hx : p.tables.exec = Jvm.exec) (hb : c.code = cc) (h : rAlen a (pc + 1) L st M = some x) (ha : ¬ a = 0) (F : rF D base ad nL ls L st M s H locs) (hC : rCe base ad s s.heap) (k : rKon p l e R s m args below meth c Q D base nL ad M cells slots x) (hdg : decode cc pc = .ok (.arraylength, 1)) : W p l e R s m args below meth c H locs cells slots Q (F0 m pc ls (st.map (rv ad))) := by
  unfold rAlen at h
  split at h
  next y rs =>
    rw [if_neg ha] at h
    split at h
    next hc =>
      subst hc
      cases h
      exact va_tlen hx hb hC.2.2.2.1 F.2.2.2 rfl hdg (kon_same (st' := .int _ :: rs) F (List.forall_mem_cons.mpr ⟨trivial, rF_tl F⟩) k)
    next => cases h
  next => cases h
theorem kon_new {pc1 n0 : Nat} {st' : List Value} {q : Nat} {c' : rCell} {H1 : Heap} (F : rF D base ad nL ls L st M s H locs) (hs : ∀ v ∈ st', vok M.1 v) (hR : Rp D base (rAdd M c') (rUp ad M.1 q) s H1) (hS : va_S (rA base) s.heap H1 locs)
    (k : rKon p l e R s m args below meth c Q D base nL ad M cells slots ((pc1, (L, (.ref M.1 :: st', rAdd M c'))), (1, n0))) : W p l e R s m args below meth c H1 locs (cells + 1) (slots + n0) Q (F0 m pc1 ls (.ref q :: st'.map (rv ad))) := by
  have hE : rEqv M.1 ad (rUp ad M.1 q) := fun i hi => if_neg (Nat.ne_of_lt hi)
  have h1 := k (rUp ad M.1 q) ls H1 locs hE (Nat.le_succ _) ⟨rLk9_up F.1 hE (Nat.le_succ _), List.forall_mem_cons.mpr ⟨Nat.lt_succ_self _, fun v hv => vok_le (Nat.le_succ _) (hs v hv)⟩, hR, hS⟩
  rw [List.map_cons, rvs_eqv hE hs, show rv (rUp ad M.1 q) (.ref M.1) = .ref q from congrArg Value.ref (if_pos rfl)] at h1
  exact h1
theorem ok_New {a idx : Nat} {x : rNx} (hx : p.tables.exec = Jvm.exec) (hb : c.code = cc) (h : rNew a (pc + 3) L st M = some x) (F : rF D base ad nL ls L st M s H locs) (hb0 : base ≤ s.heap.size) (k : rKon p l e R s m args below meth c Q D base nL ad M cells slots x)
    {r : vw_C} (hts : ∀ w ∈ Ts, w.before args s = true) (hr : rCl[a]? = some r) (hin : ∀ w ∈ u_ws r.1 r.2.1 r.2.2, w ∈ Ts) (hown : s.vm.findClass own = some m.cls) (hcl : (Jvm.Cond.classLink own idx r.1).before args s = true) (hinst : (Jvm.Cond.instantiable r.1 r.2.2).before args s = true) (hini : (Jvm.Cond.initialized r.1).before args s = true)
    (hcells : cells + x.2.1 ≤ R.cells) (hslots : slots + x.2.2 ≤ R.slots) (hdg : decode cc pc = .ok (.new idx, 3)) : W p l e R s m args below meth c H locs cells slots Q (F0 m pc ls (st.map (rv ad))) := by
  unfold rNew at h
  split at h
  next =>
    cases h
    obtain ⟨hdl, hdf⟩ := cl_df hr
    obtain ⟨ws, tys, hP, hD, hK, hnew⟩ := Rp_new F.2.2.1
    have hA : ∀ q : Nat, s.heap.size ≤ q → rA base q := fun q hq => Nat.le_trans hb0 hq
    have hsl : slots + r.2.2 ≤ R.slots := by rw [← hdl]; exact hslots
    have hco : cok M.1 (.inr (a, rDf a)) := by
      intro v hv
      rcases rDf_mem hv with h | h <;> rw [h] <;> trivial
    refine va_new (ci := a) (fs := rDf a) (C := r.1) (T := r.2.1) (N := r.2.2) hx hb hts hin (rTf r) (cl_ty hr) hown hcl hinst hini hK hP hD F.2.2.2 hA hr hdf hcells hsl hdg (fun q H1 hP1 hD1 hS1 => ?_)
    have h2 := kon_new (c' := .inr (a, rDf a)) F F.2.1 (hnew q _ tys H1 (.inr (a, rDf a)) hP1 hD1 hK (fun _ hx => hx) (by show _ = _; rw [rDf_map]) hco (Nat.le_trans hb0 hS1.1)) hS1 k
    rw [hdl] at h2
    exact h2
  next => cases h
theorem ok_Nwa {a : Nat} {at0 : ArrayType} {x : rNx} (hx : p.tables.exec = Jvm.exec) (hb : c.code = cc) (h : rNwa a (pc + 2) L st M = some x) (F : rF D base ad nL ls L st M s H locs) (hb0 : base ≤ s.heap.size) (k : rKon p l e R s m args below meth c Q D base nL ad M cells slots x) (ht : (at0 = .int ∧ a = 0) ∨ (at0 = .long ∧ a = 1))
    (harr : (Jvm.Cond.arrayClass (newarray.typeOf at0)).before args s = true) (hcells : cells + x.2.1 ≤ R.cells) (hslots : slots + x.2.2 ≤ R.slots) (hdg : decode cc pc = .ok (.newarray at0, 2)) : W p l e R s m args below meth c H locs cells slots Q (F0 m pc ls (st.map (rv ad))) := by
  unfold rNwa at h
  split at h
  next n rs =>
    split at h
    next => cases h
    next hn =>
      have hn0 : ¬ n < 0 := fun z => hn (Or.inl z)
      have hn1 : n.toNatClampNeg ≤ 100000 := Nat.not_lt.mp fun z => hn (Or.inr z)
      obtain ⟨ws, tys, hP, hD, hK, hnew⟩ := Rp_new F.2.2.1
      have hA : ∀ q : Nat, s.heap.size ≤ q → rA base q := fun q hq => Nat.le_trans hb0 hq
      rcases ht with ⟨rfl, rfl⟩ | ⟨rfl, rfl⟩
      · rw [if_pos rfl] at h
        cases h
        refine va_newa (atype := .int) (ty := .int) (N' := n.toNatClampNeg) (a0 := (n.toNatClampNeg, .inl (fun _ => 0))) hx hb harr rfl hK hP hD F.2.2.2 hA (fun cA => rfl) hn0 rfl (by show n.toNatClampNeg * 4 ≤ _; omega) hcells hslots hdg (fun q cA H1 hK1 hP1 hD1 hS1 => ?_)
        exact kon_new (c' := .inl (0, (n.toNatClampNeg, .inl (fun _ => 0)))) F (rF_tl F) (hnew q _ _ H1 _ hP1 hD1 hK1 (fun _ hx => List.mem_append_left _ hx) ⟨cA, List.mem_append_right _ List.mem_cons_self, rfl⟩ trivial (Nat.le_trans hb0 hS1.1)) hS1 k
      · rw [if_neg (by decide), if_pos rfl] at h
        cases h
        refine va_newa (atype := .long) (ty := .long) (N' := n.toNatClampNeg) (a0 := (n.toNatClampNeg, .inr (.inl (fun _ => 0)))) hx hb harr rfl hK hP hD F.2.2.2 hA (fun cA => rfl) hn0 rfl (by show n.toNatClampNeg * 8 ≤ _; omega) hcells hslots hdg (fun q cA H1 hK1 hP1 hD1 hS1 => ?_)
        exact kon_new (c' := .inl (1, (n.toNatClampNeg, .inr (.inl (fun _ => 0))))) F (rF_tl F) (hnew q _ _ H1 _ hP1 hD1 hK1 (fun _ hx => List.mem_append_left _ hx) ⟨cA, List.mem_append_right _ List.mem_cons_self, rfl⟩ trivial (Nat.le_trans hb0 hS1.1)) hS1 k
  next => cases h
theorem ok_Nwq {a idx : Nat} {x : rNx} (hx : p.tables.exec = Jvm.exec) (hb : c.code = cc) (h : rNwq a (pc + 3) L st M = some x) (F : rF D base ad nL ls L st M s H locs) (hb0 : base ≤ s.heap.size) (k : rKon p l e R s m args below meth c Q D base nL ad M cells slots x) (hown : s.vm.findClass own = some m.cls) (hcl : ∀ C, rTy a = .object C → (Jvm.Cond.classLink own idx C).before args s = true) (hC : rCt ad s)
    (hcells : cells + x.2.1 ≤ R.cells) (hslots : slots + x.2.2 ≤ R.slots) (hdg : decode cc pc = .ok (.anewarray idx, 3)) : W p l e R s m args below meth c H locs cells slots Q (F0 m pc ls (st.map (rv ad))) := by
  unfold rNwq at h
  split at h
  next n rs =>
    split at h
    next => cases h
    next hn =>
      have hn0 : ¬ n < 0 := fun z => hn (Or.inl z)
      have hn1 : n.toNatClampNeg ≤ 100000 := Nat.not_lt.mp fun z => hn (Or.inr (Or.inl z))
      have ha2 : 2 ≤ a := Nat.not_lt.mp fun z => hn (Or.inr (Or.inr (Or.inl z)))
      have ha5 : a ≤ 5 := Nat.not_lt.mp fun z => hn (Or.inr (Or.inr (Or.inr z)))
      cases h
      obtain ⟨C, hTC⟩ := rTy_obj ha2
      obtain ⟨ws, tys, hP, hD, hK, hnew⟩ := Rp_new F.2.2.1
      have hA : ∀ q : Nat, s.heap.size ≤ q → rA base q := fun q hq => Nat.le_trans hb0 hq
      refine va_newq (C := C) hx hb hown (hcl C hTC) (hC.2.1 a C ha2 ha5 hTC) hK hP hD F.2.2.2 hA hn0 rfl (by omega) hcells hslots hdg (fun q cA H1 hK1 hP1 hD1 hS1 => ?_)
      exact kon_new (c' := .inl (a, (n.toNatClampNeg, .inr (.inr (fun _ => none))))) F (rF_tl F) (hnew q _ _ H1 _ hP1 hD1 hK1 (fun _ hx => List.mem_append_left _ hx) ⟨cA, by rw [hTC]; exact List.mem_append_right _ List.mem_cons_self, rfl⟩ (fun j x hx => by cases hx) (Nat.le_trans hb0 hS1.1)) hS1 k
  next => cases h
end RowsC
