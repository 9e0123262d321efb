/-! ===== what the checks give: words of rWs, classes ===== -/
theorem rLk_mem {t : List (Nat × Nat × Nat × Nat × Nat)} {K i a b : Nat} (h : rLk t K i a b = true) : ∃ w, (K, i, a, b, w) ∈ t := by
  obtain ⟨q, hq, h2⟩ := List.any_eq_true.mp h
  simp only [Bool.and_eq_true, Nat.beq_eq] at h2
  obtain ⟨q1, q2, q3, q4, q5⟩ := q
  obtain ⟨h1, h2, h3, h4⟩ := h2
  dsimp only at h1 h2 h3 h4
  subst h1; subst h2; subst h3; subst h4
  exact ⟨q5, hq⟩
theorem res_F {K i a b : Nat} {own : String} (h : rLk rFt K i a b = true) (hK : rKn[K]? = some own) : ∃ r : vw_C, rCl[a]? = some r ∧ b < r.2.2 ∧ Jvm.Cond.fieldLink own i (r.2.1 b).1 (r.2.1 b).2.1 (r.2.1 b).2.2.1 ∈ rWs := by
  obtain ⟨w, hw⟩ := rLk_mem h
  have h2 := List.all_eq_true.mp rFt_ok _ hw
  unfold rOkF at h2
  dsimp only at h2
  rw [hK] at h2
  cases hr : rCl[a]? with
  | none => rw [hr] at h2; cases h2
  | some r =>
    rw [hr] at h2
    simp only [Bool.and_eq_true, decide_eq_true_eq] at h2
    exact ⟨r, rfl, h2.2, rIn_mem h2.1⟩
theorem res_N {K i a b : Nat} {own : String} (h : rLk rNt K i a b = true) (hK : rKn[K]? = some own) (ha : a < 100) : ∃ r : vw_C, rCl[a]? = some r ∧ Jvm.Cond.classLink own i r.1 ∈ rWs ∧ Jvm.Cond.instantiable r.1 r.2.2 ∈ lw_tbl ∧ Jvm.Cond.initialized r.1 ∈ lw_tbl := by
  obtain ⟨w, hw⟩ := rLk_mem h
  have h2 := List.all_eq_true.mp rNt_ok _ hw
  unfold rOkN at h2
  dsimp only at h2
  rw [hK] at h2
  dsimp only at h2
  rw [if_pos ha] at h2
  cases hr : rCl[a]? with
  | none => rw [hr] at h2; cases h2
  | some r =>
    rw [hr] at h2
    simp only [Bool.and_eq_true, decide_eq_true_eq] at h2
    exact ⟨r, rfl, rIn_mem h2.1, h2.2.1, h2.2.2⟩
theorem cl_lt {a : Nat} {r : vw_C} (h : rCl[a]? = some r) : a < 12 := (List.getElem?_eq_some_iff.mp h).1
/-- a class of the worlds: its words, its fields' kinds -/
theorem cl_ok {a : Nat} {r : vw_C} (h : rCl[a]? = some r) : (∀ w ∈ u_ws r.1 r.2.1 r.2.2, w ∈ rWs) ∧ ∃ (l : List Bool) (K : Nat), rFk[a]? = some l ∧ rKc[a]? = some K ∧ rKn[K]? = some r.1 ∧ l.length = r.2.2 ∧
    ∀ k, k < r.2.2 → (l[k]? = some true ∧ parseFieldDescriptor (r.2.1 k).2.2.1 = some .int) ∨ (l[k]? = some false ∧ ((∃ C, parseFieldDescriptor (r.2.1 k).2.2.1 = some (.object C)) ∨ ∃ t, parseFieldDescriptor (r.2.1 k).2.2.1 = some (.array t))) := by
  have h2 := List.all_eq_true.mp rCl_ok a (List.mem_range.mpr (cl_lt h))
  unfold rOkC at h2
  rw [h] at h2
  cases hl : rFk[a]? with
  | none => rw [hl] at h2; cases h2
  | some l =>
    cases hK : rKc[a]? with
    | none => rw [hl, hK] at h2; cases h2
    | some K =>
      rw [hl, hK] at h2
      simp only [Bool.and_eq_true, decide_eq_true_eq, Nat.beq_eq] at h2
      obtain ⟨h3, h4, h5, h6⟩ := h2
      refine ⟨fun w hw => ?_, l, K, rfl, rfl, h5, h4, fun k hk => ?_⟩
      · have := List.all_eq_true.mp h3 w hw
        simp only [Bool.and_eq_true, decide_eq_true_eq] at this
        exact List.mem_filter.mpr ⟨this.2, this.1⟩
      · have := List.all_eq_true.mp h6 k (List.mem_range.mpr hk)
        split at this
        next h7 h8 => exact Or.inl ⟨h7, h8⟩
        next C h7 h8 => exact Or.inr ⟨h7, Or.inl ⟨C, h8⟩⟩
        next t h7 h8 => exact Or.inr ⟨h7, Or.inr ⟨t, h8⟩⟩
        next => cases this
theorem cl_nm {a : Nat} {r : vw_C} (h : rCl[a]? = some r) : ∀ i, i < r.2.2 → ∀ j, j < r.2.2 → i ≠ j → (r.2.1 i).2.1 ≠ (r.2.1 j).2.1 := by
  have hl := cl_lt h
  match a, hl, h with
  | 0, _, h => cases h; exact nmX1
  | 1, _, h => cases h; exact nmX2
  | 2, _, h => cases h; exact nmX3
  | 3, _, h => cases h; exact nmX4
  | 4, _, h => cases h; exact nmX5
  | 5, _, h => cases h; exact nmX6
  | 6, _, h => cases h; exact nmX8
  | 7, _, h => cases h; exact nmX9
  | 8, _, h => cases h; exact nmX10
  | 9, _, h => cases h; exact nmX11
  | 10, _, h => cases h; exact nmX12
  | 11, _, h => cases h; exact nmX13
def rTf (r : vw_C) (k : Nat) : FieldType := (parseFieldDescriptor (r.2.1 k).2.2.1).getD .int
theorem cl_ty {a : Nat} {r : vw_C} (h : rCl[a]? = some r) : ∀ k, k < r.2.2 → parseFieldDescriptor (r.2.1 k).2.2.1 = some (rTf r k) := by
  intro k hk
  obtain ⟨-, l, K, -, -, -, -, h6⟩ := cl_ok h
  unfold rTf
  rcases h6 k hk with ⟨-, h7⟩ | ⟨-, ⟨C, h7⟩ | ⟨t, h7⟩⟩ <;> rw [h7] <;> rfl
theorem cl_kd {a : Nat} {r : vw_C} (h : rCl[a]? = some r) {b : Nat} (hb : b < r.2.2) : ∃ l, rFk[a]? = some l ∧ ((l[b]? = some true ∧ rTf r b = .int) ∨ (l[b]? = some false ∧ ((∃ C, rTf r b = .object C) ∨ ∃ t, rTf r b = .array t))) := by
  obtain ⟨-, l, K, hl, -, -, -, h6⟩ := cl_ok h
  refine ⟨l, hl, ?_⟩
  unfold rTf
  rcases h6 b hb with ⟨h8, h7⟩ | ⟨h8, ⟨C, h7⟩ | ⟨t, h7⟩⟩
  · exact Or.inl ⟨h8, by rw [h7]; rfl⟩
  · exact Or.inr ⟨h8, Or.inl ⟨C, by rw [h7]; rfl⟩⟩
  · exact Or.inr ⟨h8, Or.inr ⟨t, by rw [h7]; rfl⟩⟩
theorem cl_df {a : Nat} {r : vw_C} (h : rCl[a]? = some r) : (rDf a).length = r.2.2 ∧ ∀ j, j < r.2.2 → defaultValue (rTf r j) = vp_V (rDf a) j := by
  obtain ⟨-, l, K, hl, -, -, hn, h6⟩ := cl_ok h
  have hd : rDf a = l.map (fun b => match b with | true => Value.int 0 | false => Value.null) := by unfold rDf; rw [hl]; rfl
  refine ⟨by rw [hd, List.length_map, hn], fun j hj => ?_⟩
  unfold rTf vp_V
  rw [hd, List.getD_eq_getElem?_getD, List.getElem?_map]
  rcases h6 j hj with ⟨h8, h7⟩ | ⟨h8, ⟨C, h7⟩ | ⟨t, h7⟩⟩ <;> rw [h7, h8] <;> rfl
theorem rDf_mem {a : Nat} {v : Value} (h : v ∈ rDf a) : v = .int 0 ∨ v = .null := by
  unfold rDf at h
  obtain ⟨b, -, hb⟩ := List.mem_map.mp h
  cases b
  · exact Or.inr hb.symm
  · exact Or.inl hb.symm
theorem rDf_map {ad : Nat → Nat} {a : Nat} : (rDf a).map (rv ad) = rDf a := by
  rw [List.map_congr_left (g := id) (fun v hv => by rcases rDf_mem hv with h | h <;> rw [h] <;> rfl), List.map_id]
