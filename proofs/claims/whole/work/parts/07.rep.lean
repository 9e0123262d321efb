/-! ===== how the machine's heap holds a pure memory ===== -/
def rv (ad : Nat → Nat) (v : Value) : Value := match v with
  | .ref i => .ref (ad i)
  | w => w
def vok (n : Nat) (v : Value) : Prop := match v with
  | .ref i => i < n
  | _ => True
def rAr (ad : Nat → Nat) (a : rArr) : (Nat → Int32) ⊕ (Nat → Int64) ⊕ (Nat → UInt32) ⊕ (Nat → UInt64) ⊕ (Nat → Option Nat) := match a with
  | .inl f => .inl f
  | .inr (.inl f) => .inr (.inl f)
  | .inr (.inr f) => .inr (.inr (.inr (.inr (fun j => (f j).map ad))))
def aok (n : Nat) (a : rArr) : Prop := match a with
  | .inr (.inr f) => ∀ j x, f j = some x → x < n
  | _ => True
def cok (n : Nat) (c : rCell) : Prop := match c with
  | .inl (_, (_, a)) => aok n a
  | .inr (_, fs) => ∀ v ∈ fs, vok n v
def cR (ad : Nat → Nat) (tys : List (ClassId × FieldType)) (c : rCell) (e : va_E) : Prop := match c with
  | .inl (t, (n, a)) => ∃ cA : ClassId, (cA, rTy t) ∈ tys ∧ e = .inl (cA, (n, rAr ad a))
  | .inr (ci, fs) => e = .inr (ci, fs.map (rv ad))
def rEqv (n : Nat) (ad ad' : Nat → Nat) : Prop := ∀ i, i < n → ad' i = ad i
def rUp (ad : Nat → Nat) (n q : Nat) : Nat → Nat := fun i => if i = n then q else ad i
def rA (base : Nat) : Nat → Prop := fun q => base ≤ q
def Rp (D : va_G) (base : Nat) (M : rMem) (ad : Nat → Nat) (U : State) (H : Heap) : Prop :=
  base ≤ H.size ∧ 100 ≤ M.1 ∧ (∀ id c, M.2 id = some c → 100 ≤ id ∧ id < M.1 ∧ cok M.1 c) ∧ (∀ i j, M.2 i ≠ none → M.2 j ≠ none → ad i = ad j → i = j) ∧
  ∃ (ws : va_W) (tys : List (ClassId × FieldType)), va_P D rCl ws H ∧ va_D (rA base) ws ∧ va_K D rCl tys U ∧ ∀ id c, M.2 id = some c → ∃ (k : Nat) (e : va_E), ws[k]? = some (ad id, e) ∧ cR ad tys c e
theorem rv_eqv {n : Nat} {ad ad' : Nat → Nat} (h : rEqv n ad ad') {v : Value} (hv : vok n v) : rv ad' v = rv ad v := by
  cases v <;> first | rfl | exact congrArg Value.ref (h _ hv)
theorem rvs_eqv {n : Nat} {ad ad' : Nat → Nat} (h : rEqv n ad ad') {vs : List Value} (hv : ∀ v ∈ vs, vok n v) : vs.map (rv ad') = vs.map (rv ad) :=
  List.map_congr_left fun v hm => rv_eqv h (hv v hm)
theorem rAr_eqv {n : Nat} {ad ad' : Nat → Nat} (h : rEqv n ad ad') {a : rArr} (ha : aok n a) : rAr ad' a = rAr ad a := by
  rcases a with f | f | f
  · rfl
  · rfl
  · show (Sum.inr (Sum.inr (Sum.inr (Sum.inr _))) : (Nat → Int32) ⊕ (Nat → Int64) ⊕ (Nat → UInt32) ⊕ (Nat → UInt64) ⊕ (Nat → Option Nat)) = _
    congr 4
    funext j
    cases hf : f j with
    | none => rfl
    | some x => exact congrArg some (h _ (ha j x hf))
theorem cR_eqv {n : Nat} {ad ad' : Nat → Nat} (h : rEqv n ad ad') {tys tys' : List (ClassId × FieldType)} (ht : ∀ x ∈ tys, x ∈ tys') {c : rCell} {e : va_E} (hc : cok n c) (hr : cR ad tys c e) : cR ad' tys' c e := by
  rcases c with ⟨t, k, a⟩ | ⟨ci, fs⟩
  · obtain ⟨cA, h1, h2⟩ := hr
    exact ⟨cA, ht _ h1, by rw [h2, rAr_eqv h hc]⟩
  · show e = _
    rw [rvs_eqv h hc]
    exact hr
theorem vok_le {n n' : Nat} (h : n ≤ n') {v : Value} (hv : vok n v) : vok n' v := by
  cases v <;> first | trivial | exact Nat.lt_of_lt_of_le hv h
theorem cok_le {n n' : Nat} (h : n ≤ n') {c : rCell} (hc : cok n c) : cok n' c := by
  rcases c with ⟨t, k, f | f | f⟩ | ⟨ci, fs⟩
  · trivial
  · trivial
  · exact fun j x hx => Nat.lt_of_lt_of_le (hc j x hx) h
  · exact fun v hv => vok_le h (hc v hv)
theorem Rp_at {D : va_G} {base : Nat} {M : rMem} {ad : Nat → Nat} {U : State} {H : Heap} (h : Rp D base M ad U H) {id : Nat} {c : rCell} (hc : M.2 id = some c) :
    ∃ (ws : va_W) (tys : List (ClassId × FieldType)) (k : Nat) (e : va_E), va_P D rCl ws H ∧ va_D (rA base) ws ∧ va_K D rCl tys U ∧ ws[k]? = some (ad id, e) ∧ cR ad tys c e ∧ cok M.1 c ∧ (∀ id2 c2, M.2 id2 = some c2 → ∃ (k2 : Nat) (e2 : va_E), ws[k2]? = some (ad id2, e2) ∧ cR ad tys c2 e2) ∧
      ∀ (H1 : Heap) (c' : rCell) (e' : va_E), va_P D rCl (ws.set k (ad id, e')) H1 → va_D (rA base) (ws.set k (ad id, e')) → cR ad tys c' e' → cok M.1 c' → base ≤ H1.size → Rp D base (rSet M id c') ad U H1 := by
  obtain ⟨hb, h100, hok, hinj, ws, tys, hP, hD, hK, hall⟩ := h
  obtain ⟨k, e, hk, hr⟩ := hall id c hc
  refine ⟨ws, tys, k, e, hP, hD, hK, hk, hr, (hok id c hc).2.2, hall, fun H1 c' e' hP1 hD1 hr1 hc1 hb1 => ?_⟩
  have hdom : ∀ i, (rSet M id c').2 i ≠ none → M.2 i ≠ none := by
    intro i hi
    by_cases he : i = id
    · rw [he, hc]; intro z; cases z
    · have : (rSet M id c').2 i = M.2 i := if_neg he
      rwa [this] at hi
  refine ⟨hb1, h100, ?_, fun i j hi hj => hinj i j (hdom i hi) (hdom j hj), ws.set k (ad id, e'), tys, hP1, hD1, hK, ?_⟩
  · intro i x hx
    by_cases he : i = id
    · have : (rSet M id c').2 i = some c' := if_pos he
      rw [this] at hx
      cases hx
      rw [he]
      exact ⟨(hok id c hc).1, (hok id c hc).2.1, hc1⟩
    · have : (rSet M id c').2 i = M.2 i := if_neg he
      rw [this] at hx
      exact hok i x hx
  · intro i x hx
    by_cases he : i = id
    · have : (rSet M id c').2 i = some c' := if_pos he
      rw [this] at hx
      cases hx
      rw [he]
      exact ⟨k, e', by rw [List.getElem?_set_self (List.getElem?_eq_some_iff.mp hk).1], hr1⟩
    · have : (rSet M id c').2 i = M.2 i := if_neg he
      rw [this] at hx
      obtain ⟨k2, e2, hk2, hr2⟩ := hall i x hx
      refine ⟨k2, e2, ?_, hr2⟩
      have hne : k ≠ k2 := by
        intro hkk
        rw [hkk, hk2] at hk
        have hae : ad i = ad id := congrArg Prod.fst (Option.some.inj hk)
        exact he (hinj i id (by rw [hx]; intro z; cases z) (by rw [hc]; intro z; cases z) hae)
      rw [List.getElem?_set_ne hne]
      exact hk2
theorem Rp_new {D : va_G} {base : Nat} {M : rMem} {ad : Nat → Nat} {U : State} {H : Heap} (h : Rp D base M ad U H) :
    ∃ (ws : va_W) (tys : List (ClassId × FieldType)), va_P D rCl ws H ∧ va_D (rA base) ws ∧ va_K D rCl tys U ∧
      ∀ (q : Nat) (e : va_E) (tys' : List (ClassId × FieldType)) (H1 : Heap) (c' : rCell), va_P D rCl (ws ++ [(q, e)]) H1 → va_D (rA base) (ws ++ [(q, e)]) → va_K D rCl tys' U → (∀ x ∈ tys, x ∈ tys') → cR (rUp ad M.1 q) tys' c' e → cok M.1 c' → base ≤ H1.size → Rp D base (rAdd M c') (rUp ad M.1 q) U H1 := by
  obtain ⟨hb, h100, hok, hinj, ws, tys, hP, hD, hK, hall⟩ := h
  refine ⟨ws, tys, hP, hD, hK, fun q e tys' H1 c' hP1 hD1 hK1 hty hr1 hc1 hb1 => ?_⟩
  have hq : ∀ i, i < M.1 → rUp ad M.1 q i = ad i := fun i hi => if_neg (Nat.ne_of_lt hi)
  have hqq : rUp ad M.1 q M.1 = q := if_pos rfl
  have hsame : ∀ i, i ≠ M.1 → (rAdd M c').2 i = M.2 i := fun i hi => if_neg hi
  have hnew : (rAdd M c').2 M.1 = some c' := if_pos rfl
  have hlast : (ws ++ [(q, e)])[ws.length]? = some (q, e) := by simp
  have hold : ∀ i x, M.2 i = some x → ∃ k e2, k < ws.length ∧ (ws ++ [(q, e)])[k]? = some (ad i, e2) ∧ cR ad tys x e2 := by
    intro i x hx
    obtain ⟨k, e2, hk, hr⟩ := hall i x hx
    have hl := (List.getElem?_eq_some_iff.mp hk).1
    exact ⟨k, e2, hl, by rw [List.getElem?_append_left hl]; exact hk, hr⟩
  have hap : ∀ i x, M.2 i = some x → ad i ≠ q := by
    intro i x hx heq
    obtain ⟨k, e2, hl, hk, -⟩ := hold i x hx
    have := hD1.1 k ws.length _ _ hk hlast heq
    omega
  refine ⟨hb1, Nat.le_succ_of_le h100, ?_, ?_, ws ++ [(q, e)], tys', hP1, hD1, hK1, ?_⟩
  · intro i x hx
    by_cases he : i = M.1
    · rw [he, hnew] at hx
      cases hx
      rw [he]
      exact ⟨h100, Nat.lt_succ_self _, cok_le (Nat.le_succ _) hc1⟩
    · rw [hsame i he] at hx
      have := hok i x hx
      exact ⟨this.1, Nat.lt_succ_of_lt this.2.1, cok_le (Nat.le_succ _) this.2.2⟩
  · intro i j hi hj hij
    by_cases he : i = M.1
    · by_cases hf : j = M.1
      · rw [he, hf]
      · exfalso
        rw [hsame j hf] at hj
        obtain ⟨x, hx⟩ := Option.ne_none_iff_exists'.mp hj
        rw [he, hqq, hq j (hok j x hx).2.1] at hij
        exact hap j x hx hij.symm
    · rw [hsame i he] at hi
      obtain ⟨x, hx⟩ := Option.ne_none_iff_exists'.mp hi
      by_cases hf : j = M.1
      · exfalso
        rw [hf, hqq, hq i (hok i x hx).2.1] at hij
        exact hap i x hx hij
      · rw [hsame j hf] at hj
        obtain ⟨y, hy⟩ := Option.ne_none_iff_exists'.mp hj
        rw [hq i (hok i x hx).2.1, hq j (hok j y hy).2.1] at hij
        exact hinj i j hi hj hij
  · intro i x hx
    by_cases he : i = M.1
    · rw [he, hnew] at hx
      cases hx
      rw [he, hqq]
      exact ⟨ws.length, e, hlast, hr1⟩
    · rw [hsame i he] at hx
      obtain ⟨k, e2, -, hk, hr⟩ := hold i x hx
      have ho := hok i x hx
      rw [hq i ho.2.1]
      exact ⟨k, e2, hk, cR_eqv (n := M.1) (fun j hj => hq j hj) hty ho.2.2 hr⟩
theorem Rp_moved {D : va_G} {base : Nat} {M : rMem} {ad : Nat → Nat} {u U : State} {H : Heap} (hvm : u.vm.Alike U.vm) (h : Rp D base M ad u H) : Rp D base M ad U H := by
  obtain ⟨hb, h100, hok, hinj, ws, tys, hP, hD, hK, hall⟩ := h
  exact ⟨hb, h100, hok, hinj, ws, tys, hP, hD, va_K.moved hvm hK, hall⟩
/-- the locals of a pure frame, as the kit tells them -/
def rPr (ad : Nat → Nat) (L : rLoc) : List (Nat × Value) := (List.range L.length).filterMap (fun i => match L[i]? with
  | some (some v) => some (i, rv ad v)
  | _ => none)
theorem rPr_mem {ad : Nat → Nat} {L : rLoc} {q : Nat × Value} : q ∈ rPr ad L ↔ ∃ v, L[q.1]? = some (some v) ∧ q.2 = rv ad v := by
  constructor
  · intro h
    obtain ⟨i, hi, hq⟩ := List.mem_filterMap.mp h
    split at hq
    next v hv =>
      cases hq
      exact ⟨v, hv, rfl⟩
    next => cases hq
  · rintro ⟨v, hv, hq⟩
    refine List.mem_filterMap.mpr ⟨q.1, List.mem_range.mpr (List.getElem?_eq_some_iff.mp hv).1, ?_⟩
    rw [hv]
    show some (q.1, rv ad v) = some q
    rw [← hq]
def rLk9 (ad : Nat → Nat) (nL : Nat) (ls : Array Slot) (L : rLoc) (n : Nat) : Prop := lv_has ls nL (rPr ad L) ∧ L.length = nL ∧ ∀ (i : Nat) (v : Value), L[i]? = some (some v) → vok n v ∧ v.category = 1
theorem rv_cat {ad : Nat → Nat} {v : Value} : (rv ad v).category = v.category := by cases v <;> rfl
theorem rLk9_at {ad : Nat → Nat} {nL n : Nat} {ls : Array Slot} {L : rLoc} (h : rLk9 ad nL ls L n) {i : Nat} {v : Value} (hi : L[i]? = some (some v)) : ls[i]? = some (.val (rv ad v)) :=
  h.1.2.2 (i, rv ad v) (rPr_mem.mpr ⟨v, hi, rfl⟩)
theorem rLk9_set {ad : Nat → Nat} {nL n : Nat} {ls ls' : Array Slot} {L : rLoc} (h : rLk9 ad nL ls L n) {i : Nat} {v : Value} (hv : vok n v) (hc : v.category = 1)
    (h' : lv_has ls' nL ((i, rv ad v) :: (rPr ad L).filter (fun q => !(q.1 == i) && !(q.1 + 1 == i && q.2.category == 2)))) : rLk9 ad nL ls' (L.set i (some v)) n := by
  refine ⟨⟨h'.1, h'.2.1, fun q hq => ?_⟩, by rw [List.length_set]; exact h.2.1, ?_⟩
  · obtain ⟨w, hw, hq2⟩ := rPr_mem.mp hq
    refine h'.2.2 q ?_
    by_cases he : q.1 = i
    · have hlt : i < L.length := by
        have := (List.getElem?_eq_some_iff.mp hw).1
        rw [List.length_set, he] at this
        exact this
      rw [he, List.getElem?_set_self hlt] at hw
      cases hw
      have : q = (i, rv ad v) := Prod.ext he hq2
      rw [this]
      exact List.mem_cons_self
    · rw [List.getElem?_set_ne (fun z => he z.symm)] at hw
      refine List.mem_cons_of_mem _ (List.mem_filter.mpr ⟨rPr_mem.mpr ⟨w, hw, hq2⟩, ?_⟩)
      have hcat : q.2.category = 1 := by rw [hq2, rv_cat]; exact (h.2.2 _ _ hw).2
      simp [he, hcat]
  · intro j w hw
    by_cases he : j = i
    · have hlt : i < L.length := by
        have := (List.getElem?_eq_some_iff.mp hw).1
        rw [List.length_set, he] at this
        exact this
      rw [he, List.getElem?_set_self hlt] at hw
      cases hw
      exact ⟨hv, hc⟩
    · rw [List.getElem?_set_ne (fun z => he z.symm)] at hw
      exact h.2.2 j w hw
theorem rLk9_up {ad ad' : Nat → Nat} {nL n n' : Nat} {ls : Array Slot} {L : rLoc} (h : rLk9 ad nL ls L n) (he : rEqv n ad ad') (hn : n ≤ n') : rLk9 ad' nL ls L n' := by
  refine ⟨⟨h.1.1, h.1.2.1, fun q hq => ?_⟩, h.2.1, fun i v hi => ⟨vok_le hn (h.2.2 i v hi).1, (h.2.2 i v hi).2⟩⟩
  obtain ⟨w, hw, hq2⟩ := rPr_mem.mp hq
  refine h.1.2.2 q (rPr_mem.mpr ⟨w, hw, ?_⟩)
  rw [hq2]
  exact rv_eqv he (h.2.2 _ _ hw).1
