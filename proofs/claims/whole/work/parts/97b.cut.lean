/-! ===== beyond a row's length there is nothing to say ===== -/
def nMc (c : rCell) : rCell := match c with
  | .inl (t, (n, .inl f)) => .inl (t, (n, .inl (fun j => if j < n then f j else 0)))
  | .inl (t, (n, .inr (.inr g))) => .inl (t, (n, .inr (.inr (fun j => if j < n then g j else none))))
  | c => c
def nM (M : rMem) : rMem := (M.1, fun x => (M.2 x).map nMc)
def trE (e : va_E) : va_E := match e with
  | .inl (cA, (n, .inl f)) => .inl (cA, (n, .inl (fun j => if j < n then f j else 0)))
  | .inl (cA, (n, .inr (.inr (.inr (.inr g))))) => .inl (cA, (n, .inr (.inr (.inr (.inr (fun j => if j < n then g j else none))))))
  | e => e
theorem trE_at {D : va_G} {cl : List vw_C} {a : Nat} {e : va_E} {H : Heap} (h : va_at D cl (a, e) H) : va_at D cl (a, trE e) H := by
  rcases e with ⟨cA, n, f | f | f | f | g⟩ | o
  · have h : H[a]? = some (arrV cA n (fun j => .int (f j))) := h
    show H[a]? = some (arrV cA n (fun j => .int (if j < n then f j else 0)))
    rw [h]
    unfold arrV
    congr 3
    funext j
    show Value.int (f j.val) = Value.int (if j.val < n then f j.val else 0)
    rw [if_pos j.isLt]
  · exact h
  · exact h
  · exact h
  · have h : H[a]? = some (arrV cA n (fun j => va_rf (g j))) := h
    show H[a]? = some (arrV cA n (fun j => va_rf (if j < n then g j else none)))
    rw [h]
    unfold arrV
    congr 3
    funext j
    show va_rf (g j.val) = va_rf (if j.val < n then g j.val else none)
    rw [if_pos j.isLt]
  · exact h
theorem nM_cR {ad : Nat → Nat} {tys : List (ClassId × FieldType)} {c : rCell} {e : va_E} (h : cR ad tys c e) : cR ad tys (nMc c) (trE e) := by
  rcases c with ⟨t, n, f | f | g⟩ | ⟨ci, fs⟩
  · obtain ⟨cA, h1, rfl⟩ := h
    exact ⟨cA, h1, rfl⟩
  · obtain ⟨cA, h1, rfl⟩ := h
    exact ⟨cA, h1, rfl⟩
  · obtain ⟨cA, h1, rfl⟩ := h
    refine ⟨cA, h1, ?_⟩
    show (Sum.inl (cA, (n, Sum.inr (Sum.inr (Sum.inr (Sum.inr (fun j => if j < n then (g j).map ad else none)))))) : va_E) = Sum.inl (cA, (n, Sum.inr (Sum.inr (Sum.inr (Sum.inr (fun j => (if j < n then g j else none).map ad))))))
    congr 7
    funext j
    split <;> rfl
  · have h : e = .inr (ci, fs.map (rv ad)) := h
    rw [h]
    rfl
theorem nM_cok {n : Nat} {c : rCell} (h : cok n c) : cok n (nMc c) := by
  rcases c with ⟨t, k, f | f | g⟩ | ⟨ci, fs⟩
  · exact h
  · exact h
  · intro j x hx
    have hx : (if j < k then g j else none) = some x := hx
    by_cases c : j < k
    · rw [if_pos c] at hx
      exact h j x hx
    · rw [if_neg c] at hx
      cases hx
  · exact h
theorem nM_Rp {D : va_G} {base : Nat} {M : rMem} {ad : Nat → Nat} {U : State} {H : Heap} (h : Rp D base M ad U H) : Rp D base (nM M) ad U H := by
  obtain ⟨hb, h100, hok, hinj, ws, tys, hP, hD, hK, hall⟩ := h
  have hne : ∀ i, (nM M).2 i ≠ none → M.2 i ≠ none := by
    intro i hi e
    apply hi
    show (M.2 i).map nMc = none
    rw [e]
    rfl
  have hw : ∀ (k : Nat) (q : Nat × va_E), (ws.map (fun q => (q.1, trE q.2)))[k]? = some q → ∃ q0, ws[k]? = some q0 ∧ q = (q0.1, trE q0.2) := by
    intro k q hq
    rw [List.getElem?_map] at hq
    obtain ⟨q0, h1, h2⟩ := Option.map_eq_some_iff.mp hq
    exact ⟨q0, h1, h2.symm⟩
  refine ⟨hb, h100, fun id c hc => ?_, fun i j hi hj => hinj i j (hne i hi) (hne j hj), ws.map (fun q => (q.1, trE q.2)), tys, fun k q hq => ?_, ⟨fun i j x y hx hy hxy => ?_, fun k q hq => ?_⟩, hK, fun id c hc => ?_⟩
  · obtain ⟨c0, h1, rfl⟩ := Option.map_eq_some_iff.mp (show (M.2 id).map nMc = some c from hc)
    have := hok id c0 h1
    exact ⟨this.1, this.2.1, nM_cok this.2.2⟩
  · obtain ⟨q0, h1, rfl⟩ := hw k q hq
    exact trE_at (hP k q0 h1)
  · obtain ⟨x0, h1, rfl⟩ := hw i x hx
    obtain ⟨y0, h2, rfl⟩ := hw j y hy
    exact hD.1 i j x0 y0 h1 h2 hxy
  · obtain ⟨q0, h1, rfl⟩ := hw k q hq
    exact hD.2 k q0 h1
  · obtain ⟨c0, h1, rfl⟩ := Option.map_eq_some_iff.mp (show (M.2 id).map nMc = some c from hc)
    obtain ⟨k, e, h2, h3⟩ := hall id c0 h1
    refine ⟨k, trE e, ?_, nM_cR h3⟩
    rw [List.getElem?_map, h2]
    rfl
