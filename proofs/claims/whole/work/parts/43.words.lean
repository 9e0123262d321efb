/-! ===== the tape of the class: words, numbers, signs ===== -/
abbrev aWd (T : Nat → Int) (n : Nat) (l : List Nat) (s : rd) : Prop := s.2.1 = 0 ∧ (∀ i, i < l.length → skip T n s.1 + i < n ∧ T (skip T n s.1 + i) = l.getD i 0) ∧ ¬ aF T n (skip T n s.1 + l.length) 97 122
def aTw (T : Nat → Int) (n : Nat) (l : List Nat) (s : rd) : rd := if aWd T n l s then (skip T n s.1 + l.length, s.2) else aN T n s
theorem tx_small {t : Nat} {l : List Nat} (h : rTxt t = some l) : l.length < 16 ∧ ∀ i, (l.getD i 0 : Nat) < 128 := by
  obtain ⟨-, -, -, hm⟩ : 10 ≤ t ∧ t - 10 < rTx.length ∧ True ∧ l ∈ rTx := by
    unfold rTxt at h
    split at h
    next => cases h
    next hy => exact ⟨by omega, (List.getElem?_eq_some_iff.mp h).1, trivial, List.mem_of_getElem? h⟩
  obtain ⟨h1, h2⟩ := (by decide +kernel : ∀ l ∈ rTx, l.length < 16 ∧ ∀ c ∈ l, c < 128) l hm
  refine ⟨h1, fun i => ?_⟩
  rw [List.getD_eq_getElem?_getD]
  cases hi : l[i]? with
  | none => exact (by decide : (0 : Nat) < 128)
  | some c => exact h2 c (List.mem_of_getElem? hi)
section S
variable {d n : Nat} {m : Nat → Nat → Int} {q : Nat → Nat → Option Nat} {w : Option (Nat → Int64)} {T : Nat → Int} {s : rd}
theorem aTw_gd (h : gd n s) {l : List Nat} (hl : ∀ i, i < l.length → skip T n s.1 + i < n) : gd n (aTw T n l s) := by
  unfold aTw
  split
  next hc =>
    have := skip_le T h.1
    refine ⟨?_, h.2⟩
    show skip T n s.1 + l.length ≤ n
    cases hn : l.length with
    | zero => omega
    | succ k =>
      have := hl k (by omega)
      omega
  next => exact aN_gd h
theorem aTw_gd' (h : gd n s) {l : List Nat} : gd n (aTw T n l s) := by
  by_cases hc : aWd T n l s
  · exact aTw_gd h (fun i hi => (hc.2.1 i hi).1)
  · unfold aTw
    rw [if_neg hc]
    exact aN_gd h
theorem U_26 (hd : 2 ≤ d) (h : onT m T n) (hs : gd n s) : ev d 26 [.ref 101] (mk (tr m s) q w) = vI (zb (aOn T n 97 122 s)) (mk (tr m (aN T n s)) q w) := by
  have hn := h.2.2.1
  have hk := skip_le T hs.1
  rw [e_26 (by omega) _ rfl]
  simp only [b_26_0, U_1 (show 1 ≤ d - 1 by omega) hs, rBd_v, Option.toList_some, Option.toList_none, List.cons_append, List.nil_append, List.append_nil, b_26_4, zb_0, b_26_26, b_26_27 (Or.inl rfl)]
  unfold aN
  by_cases h0 : s.2.1 = 0
  · rw [if_pos (not_not_intro h0), if_pos h0]
    simp only [U_2 (show 1 ≤ d - 1 by omega) h hs, rBd_v, Option.toList_some, Option.toList_none, List.cons_append, List.nil_append, List.append_nil, b_26_12, U_3 (show 1 ≤ d - 1 by omega) h (by omega : i32 97) (by omega : i32 122) (show skip T n s.1 ≤ 10000 by omega), b_26_19, zb_0, b_26_26, b_26_27 (Or.inl rfl), b_26_27 (Or.inr rfl)]
    by_cases hf : aF T n (skip T n s.1) 97 122
    · rw [if_neg (not_not_intro hf), zb_t ⟨h0, hf⟩]
    · rw [if_pos hf, zb_f (fun z => hf z.2)]
  · rw [if_neg (not_not_intro h0), if_neg h0, zb_f (fun z => h0 z.1)]
theorem U_5 (hd : 1 ≤ d) (hs : gd n s) {kd : Int} {z : Nat} (hk : kd ≠ 0 := by decide) : ev d 5 [.ref 101, .int (iI kd), .int (iI z)] (mk (tr m s) q w) = vV (mk (tr m (aBl kd z s)) q w) := by
  rw [e_5 (by omega) _ rfl rfl rfl]
  simp only [b_5_0, b_5_17, tr_4, iI_eq hs.2 (by omega : i32 0), tr_w45 hk]
  unfold aBl
  split <;> rfl
theorem U_8 (hd : 2 ≤ d) (h : onT m T n) (hs : gd n s) {c : Int} (hc : i32 c) : ev d 8 [.ref 101, .int (iI c)] (mk (tr m s) q w) = vI (zb (aOn T n c c s)) (mk (tr m (aTk T n c s)) q w) := by
  have hn := h.2.2.1
  have hk := skip_le T hs.1
  rw [e_8 (by omega) _ rfl rfl]
  simp only [b_8_0, U_1 (show 1 ≤ d - 1 by omega) hs, rBd_v, Option.toList_some, Option.toList_none, List.cons_append, List.nil_append, List.append_nil, b_8_4, zb_0, b_8_20]
  unfold aTk aN
  by_cases h0 : s.2.1 = 0
  · rw [if_pos (not_not_intro h0), if_pos h0]
    simp only [U_2 (show 1 ≤ d - 1 by omega) h hs, rBd_v, Option.toList_some, Option.toList_none, List.cons_append, List.nil_append, List.append_nil, b_8_12, U_3 (show 1 ≤ d - 1 by omega) h hc hc (show skip T n s.1 ≤ 10000 by omega), b_8_17, zb_0, b_8_20, tr_3]
    by_cases hf : aF T n (skip T n s.1) c c
    · rw [if_neg (not_not_intro hf), zb_t ⟨h0, hf⟩, if_pos ⟨h0, hf⟩, show ((skip T n s.1 : Nat) : Int) + 1 = ((skip T n s.1 + 1 : Nat) : Int) from rfl, tr_w3]
    · rw [if_pos hf, zb_f (fun z => hf z.2), if_neg (fun z => hf z.2)]
  · rw [if_neg (not_not_intro h0), if_neg h0, zb_f (fun z => h0 z.1), if_neg (fun z => h0 z.1)]
theorem U_9 (hd : 3 ≤ d) (h : onT m T n) (hs : gd n s) {c : Int} (hc : i32 c) : ev d 9 [.ref 101, .int (iI c)] (mk (tr m s) q w) = vV (mk (tr m (aEx T n c s)) q w) := by
  have hn := h.2.2.1
  have hk := skip_le T hs.1
  rw [e_9 (by omega) _ rfl rfl]
  simp only [b_9_0, U_1 (show 1 ≤ d - 1 by omega) hs, rBd_v, Option.toList_some, Option.toList_none, List.cons_append, List.nil_append, List.append_nil, b_9_4, zb_0]
  by_cases h0 : s.2.1 = 0
  · rw [if_pos (not_not_intro h0)]
    have h9 : gd n (skip T n s.1, s.2) := ⟨hk.2, hs.2⟩
    simp only [U_2 (show 1 ≤ d - 1 by omega) h hs, rBd_v, Option.toList_some, Option.toList_none, List.cons_append, List.nil_append, List.append_nil, b_9_12, U_3 (show 1 ≤ d - 1 by omega) h hc hc (show skip T n s.1 ≤ 10000 by omega), b_9_20, zb_0, b_9_42, tr_3, U_5 (kd := 1) (show 1 ≤ d - 1 by omega) h9]
    by_cases hf : aF T n (skip T n s.1) c c
    · have e : aEx T n c s = (skip T n s.1 + 1, s.2) := by
        unfold aEx aTk
        rw [if_pos ⟨h0, hf⟩, if_pos ⟨h0, hf⟩]
      rw [if_neg (not_not_intro hf), e, show ((skip T n s.1 : Nat) : Int) + 1 = ((skip T n s.1 + 1 : Nat) : Int) from rfl, tr_w3]
    · have e : aEx T n c s = aBl 1 (skip T n s.1) (skip T n s.1, s.2) := by
        unfold aEx aTk aN
        rw [if_neg (fun z => hf z.2), if_neg (fun z => hf z.2), if_pos h0]
      rw [if_pos hf, e]
  · have e : aEx T n c s = s := by
      unfold aEx aTk aN
      rw [if_neg (fun z => h0 z.1), if_neg (fun z => h0 z.1), if_neg h0]
      exact if_neg h0
    rw [if_neg (not_not_intro h0), e]
theorem L_7 (hd : 9 ≤ d) (h : onT m T n) {a b : Int} {v3 : Int} {k f : Int} : ∀ (g p : Nat) (v : Int), p + g = n → 0 ≤ v → v ≤ 10000 → gv d rR7 17 [some (.ref 101), some (.int (iI a)), some (.int (iI b)), some (.int (iI v3)), some (.int (iI v))] [] (mk (tr m (p, k, f)) q w) =
    gv d rR7 82 [some (.ref 101), some (.int (iI a)), some (.int (iI b)), some (.int (iI v3)), some (.int (iI (dig T g p v).1))] [] (mk (tr m ((dig T g p v).2, k, f)) q w) := by
  obtain ⟨h1, h2, h3, h4⟩ := h
  intro g
  induction g with
  | zero =>
    intro p v hp h0 hv
    rw [b_7_17]
    simp only [tr_3, tr_2, h2, iI_lt (by omega : i32 (p : Int)) (by omega : i32 (n : Int))]
    rw [if_neg (by omega)]
    rfl
  | succ g ih =>
    intro p v hp h0 hv
    have := h4 p
    rw [b_7_17]
    simp only [tr_3, tr_2, h2, iI_lt (by omega : i32 (p : Int)) (by omega : i32 (n : Int))]
    rw [if_pos (by omega), U_3 (by omega) ⟨h1, h2, h3, h4⟩ (by omega : i32 48) (by omega : i32 57) (show p ≤ 10000 by omega)]
    simp only [rBd_v, Option.toList_some, Option.toList_none, List.cons_append, List.nil_append, List.append_nil, b_7_40, zb_0]
    unfold dig
    by_cases hf : 48 ≤ T p ∧ T p ≤ 57
    · rw [if_neg (not_not_intro ⟨by omega, hf⟩), if_pos hf, b_7_43 (by rw [tr_3]; show 0 ≤ (p : Int); omega) (by rw [tr_3]; show (p : Int) < 600; omega) hd]
      simp only [tr_3, tr_o (by decide : (102 : Nat) ≠ 101), h1, Int.toNat_natCast, iI_lt (by omega : i32 10000) (by omega : i32 (10 * v + T p - 48))]
      rw [show (p : Int) + 1 = ((p + 1 : Nat) : Int) from rfl, tr_w3]
      exact ih (p + 1) _ (by omega) (by split <;> omega) (by split <;> omega)
    · rw [if_pos (fun z => hf z.2), if_neg hf]
theorem U_7 (hd : 10 ≤ d) (h : onT m T n) (hs : gd n s) {a b : Int} (ha : i32 a) (hb : i32 b) : ev d 7 [.ref 101, .int (iI a), .int (iI b)] (mk (tr m s) q w) = vI (aNum T n a b s).1 (mk (tr m (aNum T n a b s).2) q w) := by
  have hn := h.2.2.1
  have hk := skip_le T hs.1
  rw [e_7 (by omega) _ rfl rfl rfl]
  simp only [b_7_0, U_1 (show 1 ≤ d - 1 by omega) hs, rBd_v, Option.toList_some, Option.toList_none, List.cons_append, List.nil_append, List.append_nil, b_7_4, zb_0]
  unfold aNum
  by_cases h0 : s.2.1 = 0
  · rw [if_pos (not_not_intro h0), if_pos h0]
    simp only [U_2 (show 1 ≤ d - 1 by omega) h hs, rBd_v, Option.toList_some, Option.toList_none, List.cons_append, List.nil_append, List.append_nil, b_7_13]
    rw [L_7 (show 9 ≤ d - 1 by omega) h (n - skip T n s.1) (skip T n s.1) 0 (by omega) (by omega) (by omega), b_7_82]
    obtain ⟨d1, d2, d3, d4⟩ := dig_le T (n - skip T n s.1) (skip T n s.1) 0 (by omega) (by omega)
    have hg : gd n ((dig T (n - skip T n s.1) (skip T n s.1) 0).2, s.2) := ⟨by show (dig _ _ _ _).2 ≤ n; omega, hs.2⟩
    simp only [tr_3, iI_eq (by omega : i32 ((dig T (n - skip T n s.1) (skip T n s.1) 0).2 : Int)) (by omega : i32 (skip T n s.1 : Int))]
    by_cases he : (dig T (n - skip T n s.1) (skip T n s.1) 0).2 = skip T n s.1
    · rw [if_pos (congrArg Nat.cast he), if_pos he]
      simp only [U_5 (kd := 1) (show 1 ≤ d - 1 by omega) hg, rBd_v, Option.toList_some, Option.toList_none, List.cons_append, List.nil_append, List.append_nil, b_7_96, b_7_115]
    · rw [if_neg (fun z => he (Int.ofNat_inj.mp z)), if_neg he]
      simp only [T_6 (show 1 ≤ d - 1 by omega) (by omega : i32 (dig T (n - skip T n s.1) (skip T n s.1) 0).1) ha hb, rBd_v, Option.toList_some, Option.toList_none, List.cons_append, List.nil_append, List.append_nil, b_7_106, zb_0, U_5 (kd := 2) (show 1 ≤ d - 1 by omega) hg, b_7_115]
      by_cases hw : a ≤ (dig T (n - skip T n s.1) (skip T n s.1) 0).1 ∧ (dig T (n - skip T n s.1) (skip T n s.1) 0).1 ≤ b
      · rw [if_neg (not_not_intro hw), if_pos hw]
      · rw [if_pos hw, if_neg hw]
  · rw [if_neg (not_not_intro h0), if_neg h0]
theorem L_27 (hd : 9 ≤ d) (h : onT m T n) {t p : Nat} {l : List Nat} (ht : rTxt t = some l) (hp : p ≤ 600) {k f : Int} : ∀ (g i : Nat) (u : Option Value), i + g = l.length → (∀ j, j < i → p + j < n ∧ T (p + j) = l.getD j 0) →
    gv d rR27 21 [some (.ref 101), some (.ref t), some (.int (iI (l.length : Nat))), some (.int (iI i)), u] [] (mk (tr m (p, k, f)) q w) =
    (if (∀ j, j < l.length → p + j < n ∧ T (p + j) = l.getD j 0) ∧ ¬ aF T n (p + l.length) 97 122 then vI 1 (mk (tr m (p + l.length, k, f)) q w) else vI 0 (mk (tr m (p, k, f)) q w)) := by
  obtain ⟨hl, hc⟩ := tx_small ht
  intro g
  induction g with
  | zero =>
    intro i u hi hb
    obtain rfl : i = l.length := by omega
    rw [b_27_21 ht]
    simp only [iI_lt (by omega : i32 ((l.length : Nat) : Int)) (by omega : i32 ((l.length : Nat) : Int))]
    rw [if_neg (by omega)]
    simp only [tr_3, show (p : Int) + (l.length : Nat) = ((p + l.length : Nat) : Int) from rfl, U_3 (show 1 ≤ d by omega) h (by omega : i32 97) (by omega : i32 122) (show p + l.length ≤ 10000 by omega), rBd_v, Option.toList_some, Option.toList_none, List.cons_append, List.nil_append, List.append_nil, b_27_72, zb_0, tr_w3]
    by_cases hf : aF T n (p + l.length) 97 122
    · rw [if_neg (not_not_intro hf), if_neg (fun z => z.2 hf)]
    · rw [if_pos hf, if_pos ⟨hb, hf⟩]
  | succ g ih =>
    intro i u hi hb
    have hci := hc i
    rw [b_27_21 ht]
    simp only [iI_lt (by omega : i32 ((i : Nat) : Int)) (by omega : i32 ((l.length : Nat) : Int))]
    rw [if_pos (by omega), b_27_26 ht hd (by omega) (by omega) (by omega)]
    simp only [tr_3, show (p : Int) + (i : Nat) = ((p + i : Nat) : Int) from rfl, Int.toNat_natCast, U_3 (show 1 ≤ d by omega) h (by omega : i32 ((l.getD i 0 : Nat) : Int)) (by omega : i32 ((l.getD i 0 : Nat) : Int)) (show p + i ≤ 10000 by omega), rBd_v, Option.toList_some, Option.toList_none, List.cons_append, List.nil_append, List.append_nil, b_27_47 ht, zb_0]
    by_cases hf : aF T n (p + i) ((l.getD i 0 : Nat) : Int) ((l.getD i 0 : Nat) : Int)
    · rw [if_neg (not_not_intro hf), show (i : Int) + 1 = ((i + 1 : Nat) : Int) from rfl]
      exact ih (i + 1) _ (by omega) (fun j hj => by
        by_cases he : j = i
        · subst he
          exact ⟨hf.1, by omega⟩
        · exact hb j (by omega))
    · rw [if_pos hf, if_neg (fun z => hf ⟨(z.1 i (by omega)).1, by have := (z.1 i (by omega)).2; omega, by have := (z.1 i (by omega)).2; omega⟩)]
theorem U_27 (hd : 10 ≤ d) (h : onT m T n) (hs : gd n s) {t : Nat} {l : List Nat} (ht : rTxt t = some l) : ev d 27 [.ref 101, .ref t] (mk (tr m s) q w) = vI (zb (aWd T n l s)) (mk (tr m (aTw T n l s)) q w) := by
  have hn := h.2.2.1
  have hk := skip_le T hs.1
  rw [e_27 (by omega) _ rfl rfl]
  simp only [b_27_0 ht, U_1 (show 1 ≤ d - 1 by omega) hs, rBd_v, Option.toList_some, Option.toList_none, List.cons_append, List.nil_append, List.append_nil, b_27_4 ht, zb_0]
  unfold aTw aN
  by_cases h0 : s.2.1 = 0
  · rw [if_pos (not_not_intro h0), if_pos h0]
    simp only [U_2 (show 1 ≤ d - 1 by omega) h hs, rBd_v, Option.toList_some, Option.toList_none, List.cons_append, List.nil_append, List.append_nil, b_27_13 ht (show 9 ≤ d - 1 by omega)]
    have hL := L_27 (q := q) (w := w) (show 9 ≤ d - 1 by omega) h ht (show skip T n s.1 ≤ 600 by omega) (k := s.2.1) (f := s.2.2) l.length 0 none (by omega) (fun j hj => by omega)
    refine Eq.trans hL ?_
    by_cases hf : (∀ j, j < l.length → skip T n s.1 + j < n ∧ T (skip T n s.1 + j) = l.getD j 0) ∧ ¬ aF T n (skip T n s.1 + l.length) 97 122
    · rw [if_pos hf, if_pos ⟨h0, hf⟩, zb_t ⟨h0, hf⟩]
    · rw [if_neg hf, if_neg (fun z => hf z.2), zb_f (fun z => hf z.2)]
  · rw [if_neg (not_not_intro h0), if_neg h0, zb_f (fun z => h0 z.1), if_neg (fun z => h0 z.1)]
theorem U_84 (hd : 2 ≤ d) (h : onT m T n) (hs : gd n s) : ev d 84 [.ref 101] (mk (tr m s) q w) = vI (zb (n ≤ skip T n s.1)) (mk (tr m (skip T n s.1, s.2)) q w) := by
  have hn := h.2.2.1
  have hk := skip_le T hs.1
  rw [e_84 (by omega) _ rfl]
  simp only [b_84_0, U_2 (show 1 ≤ d - 1 by omega) h hs, rBd_v, Option.toList_some, Option.toList_none, List.cons_append, List.nil_append, List.append_nil, b_84_4, tr_2, h.2.1, iI_lt (by omega : i32 (skip T n s.1 : Int)) (by omega : i32 (n : Int)), b_84_16 (Or.inl rfl), b_84_16 (Or.inr rfl)]
  unfold zb
  repeat' split
  all_goals first | rfl | (exfalso; omega)
end S
