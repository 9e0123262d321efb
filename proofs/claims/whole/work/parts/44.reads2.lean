/-! ===== the tape of the reference: place, place of fault (-1: none), kind of fault ===== -/
def mm (m : Nat → Nat → Int) (p b k : Int) : Nat → Nat → Int := row m 363 (row (row (row (m 363) 4 p) 5 b) 6 k)
def mr (m : Nat → Nat → Int) (s : rd) : Nat → Nat → Int := mm m s.1 s.2.1 s.2.2
section TM
variable (m : Nat → Nat → Int) (s : rd) (v v2 : Int)
theorem mr_4 : mr m s 363 4 = s.1 := by simp [mr, mm, row]
theorem mr_5 : mr m s 363 5 = s.2.1 := by simp [mr, mm, row]
theorem mr_6 : mr m s 363 6 = s.2.2 := by simp [mr, mm, row]
theorem mr_b {j : Nat} (h4 : j ≠ 4) (h5 : j ≠ 5) (h6 : j ≠ 6) : mr m s 363 j = m 363 j := by simp [mr, mm, row, h4, h5, h6]
theorem mr_o {y : Nat} (h : y ≠ 363) : mr m s y = m y := by simp [mr, mm, row, h]
theorem mr_w4 (p : Nat) : wr (mr m s) 363 4 p = mr m (p, s.2) := by
  funext y j
  unfold mr mm wr row
  by_cases h : y = 363
  · by_cases h3 : j = 4
    · simp [h, h3]
    · simp [h, h3]
  · simp [h]
theorem mr_w56 : wr (wr (mr m s) 363 5 v) 363 6 v2 = mr m (s.1, v, v2) := by
  funext y j
  unfold mr mm wr row
  by_cases h : y = 363
  · by_cases h3 : j = 6
    · simp [h, h3]
    · by_cases h4 : j = 5
      · simp [h, h4]
      · simp [h, h3, h4]
  · simp [h]
end TM
def onX (m : Nat → Nat → Int) (T : Nat → Int) (n : Nat) : Prop := m 365 = T ∧ m 363 3 = n ∧ n ≤ 600 ∧ isT T
def gx (n : Nat) (s : rd) : Prop := s.1 ≤ n ∧ i32 s.2.1
def hv (T : Nat → Int) (n p : Nat) : Int := if p < n then T p else 0
theorem hv_i (T : Nat → Int) (n p : Nat) (h : isT T) : 0 ≤ hv T n p ∧ hv T n p < 256 := by
  unfold hv
  split
  · exact h p
  · omega
def xWr (kd : Int) (z : Nat) (s : rd) : rd := if s.2.1 = -1 then (s.1, (z : Int), kd) else s
def xSg (T : Nat → Int) (n : Nat) (c : Int) (s : rd) : rd := if s.2.1 = -1 then (if hv T n (skip T n s.1) = c then (skip T n s.1 + 1, s.2) else (skip T n s.1, ((skip T n s.1 : Nat) : Int), 1)) else s
def dgx (T : Nat → Int) : Nat → Nat → Int → Int × Nat
  | 0, p, v => (v, p)
  | g + 1, p, v => if 48 ≤ T p ∧ T p ≤ 57 then dgx T g (p + 1) (if 9999 < v then 10000 else 10 * v + T p - 48) else (v, p)
theorem dgx_le (T : Nat → Int) : ∀ (g p : Nat) (v : Int), 0 ≤ v → v ≤ 100000 → p ≤ (dgx T g p v).2 ∧ (dgx T g p v).2 ≤ p + g ∧ 0 ≤ (dgx T g p v).1 ∧ (dgx T g p v).1 ≤ 100000 := by
  intro g
  induction g with
  | zero => intro p v h0 h1; unfold dgx; omega
  | succ g ih =>
    intro p v h0 h1
    unfold dgx
    split
    · have := ih (p + 1) (if 9999 < v then 10000 else 10 * v + T p - 48) (by split <;> omega) (by split <;> omega)
      omega
    · omega
def xNum (T : Nat → Int) (n : Nat) (lo hi : Int) (s : rd) : Int × rd :=
  if s.2.1 = -1 then
    (if 48 ≤ hv T n (skip T n s.1) ∧ hv T n (skip T n s.1) ≤ 57 then
      (if lo ≤ (dgx T (n - skip T n s.1) (skip T n s.1) 0).1 ∧ (dgx T (n - skip T n s.1) (skip T n s.1) 0).1 ≤ hi then ((dgx T (n - skip T n s.1) (skip T n s.1) 0).1, ((dgx T (n - skip T n s.1) (skip T n s.1) 0).2, s.2))
      else (0, ((dgx T (n - skip T n s.1) (skip T n s.1) 0).2, ((skip T n s.1 : Nat) : Int), 2)))
    else (0, (skip T n s.1, ((skip T n s.1 : Nat) : Int), 1)))
  else (0, s)
section S
variable {d n : Nat} {m : Nat → Nat → Int} {q : Nat → Nat → Option Nat} {w : Option (Nat → Int64)} {T : Nat → Int} {s : rd}
theorem V_167 (hd : 1 ≤ d) (hs : gx n s) : ev d 167 [.ref 363] (mk (mr m s) q w) = vI (zb (s.2.1 = -1)) (mk (mr m s) q w) := by
  rw [e_167 hd _ rfl]
  simp only [b_167_0, b_167_13 (Or.inl rfl), b_167_13 (Or.inr rfl), mr_5, iI_eq hs.2 (by omega : i32 (-1))]
  unfold zb
  split <;> rfl
theorem V_168 (hd : 1 ≤ d) (hs : gx n s) {kd : Int} {z : Nat} : ev d 168 [.ref 363, .int (iI kd), .int (iI z)] (mk (mr m s) q w) = vV (mk (mr m (xWr kd z s)) q w) := by
  rw [e_168 hd _ rfl rfl rfl]
  simp only [b_168_0, mr_5, iI_eq hs.2 (by omega : i32 (-1)), mr_w56]
  unfold xWr
  split <;> rfl
theorem L_169 (h : onX m T n) : ∀ (g p : Nat) (b k : Int), p + g = n → gv d rR169 0 [some (.ref 363)] [] (mk (mr m (p, b, k)) q w) = gv d rR169 38 [some (.ref 363)] [] (mk (mr m (skp T g p, b, k)) q w) := by
  obtain ⟨h1, h2, h3, h4⟩ := h
  intro g
  induction g with
  | zero =>
    intro p b k hp
    rw [b_169_0]
    simp only [mr_4, mr_b m _ (show 3 ≠ 4 by decide) (show 3 ≠ 5 by decide) (show 3 ≠ 6 by decide), h2, iI_lt (by omega : i32 (p : Int)) (by omega : i32 (n : Int))]
    rw [if_neg (by omega)]
    rfl
  | succ g ih =>
    intro p b k hp
    have := h4 p
    rw [b_169_0]
    simp only [mr_4, mr_b m _ (show 3 ≠ 4 by decide) (show 3 ≠ 5 by decide) (show 3 ≠ 6 by decide), h2, iI_lt (by omega : i32 (p : Int)) (by omega : i32 (n : Int))]
    rw [if_pos (by omega), b_169_11 (by rw [mr_4]; show 0 ≤ (p : Int); omega) (by rw [mr_4]; show (p : Int) < 600; omega)]
    simp only [mr_4, mr_o m _ (by decide : (365 : Nat) ≠ 363), h1, Int.toNat_natCast, iI_eq (by omega : i32 (T p)) (by omega : i32 32)]
    unfold skp
    by_cases hb : T p = 32
    · rw [if_pos hb, if_pos hb, show (p : Int) + 1 = ((p + 1 : Nat) : Int) from rfl, mr_w4]
      exact ih (p + 1) b k (by omega)
    · rw [if_neg hb, if_neg hb]
theorem V_169 (hd : 1 ≤ d) (h : onX m T n) (hs : gx n s) : ev d 169 [.ref 363] (mk (mr m s) q w) = vI (hv T n (skip T n s.1)) (mk (mr m (skip T n s.1, s.2)) q w) := by
  have hk := skip_le T hs.1
  rw [e_169 hd _ rfl]
  refine Eq.trans (L_169 h (n - s.1) s.1 s.2.1 s.2.2 (by have := hs.1; omega)) ?_
  obtain ⟨h1, h2, h3, h4⟩ := h
  show gv _ _ _ _ _ (mk (mr m (skip T n s.1, s.2)) q w) = _
  rw [b_169_38]
  simp only [mr_4, mr_b m _ (show 3 ≠ 4 by decide) (show 3 ≠ 5 by decide) (show 3 ≠ 6 by decide), h2, iI_lt (by omega : i32 (skip T n s.1 : Int)) (by omega : i32 (n : Int)), b_169_62]
  unfold hv
  by_cases hl : skip T n s.1 < n
  · rw [if_pos (by omega), if_pos hl, b_169_49 (by rw [mr_4]; show 0 ≤ ((skip T n s.1 : Nat) : Int); omega) (by rw [mr_4]; show ((skip T n s.1 : Nat) : Int) < 600; omega)]
    simp only [mr_4, mr_o m _ (by decide : (365 : Nat) ≠ 363), h1, Int.toNat_natCast, b_169_62]
  · rw [if_neg (by omega), if_neg hl]
theorem V_170 (hd : 1 ≤ d) {c : Int} (hc : i32 c) : ev d 170 [.int (iI c)] (mk m q w) = vI (zb (97 ≤ c ∧ c ≤ 122)) (mk m q w) := by
  rw [e_170 hd _ rfl]
  simp only [b_170_0, b_170_16, b_170_17 (Or.inl rfl), b_170_17 (Or.inr rfl), iI_lt hc (by omega : i32 97), iI_lt (by omega : i32 122) hc]
  unfold zb
  repeat' split
  all_goals first | rfl | (exfalso; omega)
theorem V_171 (hd : 1 ≤ d) {c : Int} (hc : i32 c) : ev d 171 [.int (iI c)] (mk m q w) = vI (zb (48 ≤ c ∧ c ≤ 57)) (mk m q w) := by
  rw [e_171 hd _ rfl]
  simp only [b_171_0, b_171_16, b_171_17 (Or.inl rfl), b_171_17 (Or.inr rfl), iI_lt hc (by omega : i32 48), iI_lt (by omega : i32 57) hc]
  unfold zb
  repeat' split
  all_goals first | rfl | (exfalso; omega)
theorem V_176 (hd : 2 ≤ d) (h : onX m T n) (hs : gx n s) {c : Int} (hc : i32 c) : ev d 176 [.ref 363, .int (iI c)] (mk (mr m s) q w) = vV (mk (mr m (xSg T n c s)) q w) := by
  have hk := skip_le T hs.1
  have hn := h.2.2.1
  have hh := hv_i T n (skip T n s.1) h.2.2.2
  rw [e_176 (by omega) _ rfl rfl]
  simp only [b_176_0, V_167 (show 1 ≤ d - 1 by omega) hs, rBd_v, Option.toList_some, Option.toList_none, List.cons_append, List.nil_append, List.append_nil, b_176_4, zb_0]
  unfold xSg
  by_cases h0 : s.2.1 = -1
  · have hs2 : gx n (skip T n s.1, s.2) := ⟨hk.2, hs.2⟩
    rw [if_neg (not_not_intro h0), if_pos h0]
    simp only [V_169 (show 1 ≤ d - 1 by omega) h hs, rBd_v, Option.toList_some, Option.toList_none, List.cons_append, List.nil_append, List.append_nil, b_176_11, mr_4, iI_eq (by omega : i32 (hv T n (skip T n s.1))) hc, V_168 (show 1 ≤ d - 1 by omega) hs2, b_176_24]
    by_cases hf : hv T n (skip T n s.1) = c
    · rw [if_pos hf, if_pos hf]
      simp only [V_167 (show 1 ≤ d - 1 by omega) hs2, rBd_v, Option.toList_some, Option.toList_none, List.cons_append, List.nil_append, List.append_nil, b_176_28, zb_0, mr_4]
      rw [if_neg (not_not_intro h0), show ((skip T n s.1 : Nat) : Int) + 1 = ((skip T n s.1 + 1 : Nat) : Int) from rfl, mr_w4, b_176_41]
    · have hs3 : gx n (xWr 1 (skip T n s.1) (skip T n s.1, s.2)) := by
        unfold xWr
        rw [if_pos h0]
        exact ⟨hk.2, by show i32 ((skip T n s.1 : Nat) : Int); omega⟩
      rw [if_neg hf, if_neg hf]
      simp only [V_167 (show 1 ≤ d - 1 by omega) hs3, rBd_v, Option.toList_some, Option.toList_none, List.cons_append, List.nil_append, List.append_nil, b_176_28, zb_0, mr_4]
      have h9 : xWr 1 (skip T n s.1) (skip T n s.1, s.2) = (skip T n s.1, ((skip T n s.1 : Nat) : Int), 1) := by
        unfold xWr
        rw [if_pos h0]
      rw [h9, if_pos (by show ¬ ((skip T n s.1 : Nat) : Int) = -1; omega), b_176_41]
  · rw [if_pos h0, if_neg h0]
    simp only [b_176_24, V_167 (show 1 ≤ d - 1 by omega) hs, rBd_v, Option.toList_some, Option.toList_none, List.cons_append, List.nil_append, List.append_nil, b_176_28, zb_0]
    rw [if_pos h0, b_176_41]
theorem V_177 (hd : 2 ≤ d) (h : onX m T n) (hs : gx n s) : ev d 177 [.ref 363] (mk (mr m s) q w) = vI (zb (skip T n s.1 < n)) (mk (mr m (skip T n s.1, s.2)) q w) := by
  have hk := skip_le T hs.1
  have hn := h.2.2.1
  rw [e_177 (by omega) _ rfl]
  simp only [b_177_0, V_169 (show 1 ≤ d - 1 by omega) h hs, rBd_v, Option.toList_some, Option.toList_none, List.cons_append, List.nil_append, List.append_nil, b_177_4, b_177_21 (Or.inl rfl), b_177_21 (Or.inr rfl), mr_4, mr_b m _ (show 3 ≠ 4 by decide) (show 3 ≠ 5 by decide) (show 3 ≠ 6 by decide), h.2.1, iI_lt (by omega : i32 (skip T n s.1 : Int)) (by omega : i32 (n : Int))]
  unfold zb
  repeat' split
  all_goals first | rfl | (exfalso; omega)
theorem L_175 (hd : 1 ≤ d) (h : onX m T n) {a b v4 : Int} {u : Option Value} {bb k : Int} : ∀ (g p : Nat) (v : Int), p + g = n → 0 ≤ v → v ≤ 100000 → gv d rR175 41 [some (.ref 363), some (.int (iI a)), some (.int (iI b)), u, some (.int (iI v4)), some (.int (iI v))] [] (mk (mr m (p, bb, k)) q w) =
    gv d rR175 114 [some (.ref 363), some (.int (iI a)), some (.int (iI b)), u, some (.int (iI v4)), some (.int (iI (dgx T g p v).1))] [] (mk (mr m ((dgx T g p v).2, bb, k)) q w) := by
  obtain ⟨h1, h2, h3, h4⟩ := h
  intro g
  induction g with
  | zero =>
    intro p v hp h0 hv
    rw [b_175_41]
    simp only [mr_4, mr_b m _ (show 3 ≠ 4 by decide) (show 3 ≠ 5 by decide) (show 3 ≠ 6 by decide), h2, iI_lt (by omega : i32 (p : Int)) (by omega : i32 (n : Int))]
    rw [if_neg (by omega)]
    rfl
  | succ g ih =>
    intro p v hp h0 hv
    have := h4 p
    rw [b_175_41]
    simp only [mr_4, mr_b m _ (show 3 ≠ 4 by decide) (show 3 ≠ 5 by decide) (show 3 ≠ 6 by decide), h2, iI_lt (by omega : i32 (p : Int)) (by omega : i32 (n : Int))]
    rw [if_pos (by omega), b_175_52 (by rw [mr_4]; show 0 ≤ (p : Int); omega) (by rw [mr_4]; show (p : Int) < 600; omega)]
    simp only [mr_4, mr_o m _ (by decide : (365 : Nat) ≠ 363), h1, Int.toNat_natCast, V_171 (show 1 ≤ d by omega) (by omega : i32 (T p)), rBd_v, Option.toList_some, Option.toList_none, List.cons_append, List.nil_append, List.append_nil, b_175_64, zb_0, iI_lt (by omega : i32 9999) (by omega : i32 v)]
    unfold dgx
    by_cases hf : 48 ≤ T p ∧ T p ≤ 57
    · rw [if_neg (not_not_intro hf), if_pos hf]
      by_cases hb : 9999 < v
      · rw [if_pos hb, if_pos hb, b_175_99]
        rw [mr_4, show ((p, bb, k) : rd).1 = p from rfl, show (p : Int) + 1 = ((p + 1 : Nat) : Int) from rfl, mr_w4]
        exact ih (p + 1) 10000 (by omega) (by omega) (by omega)
      · rw [if_neg hb, if_neg hb, b_175_81 (by rw [mr_4]; show 0 ≤ (p : Int); omega) (by rw [mr_4]; show (p : Int) < 600; omega)]
        rw [mr_4, mr_o m _ (by decide : (365 : Nat) ≠ 363), h1, show ((p, bb, k) : rd).1 = p from rfl, Int.toNat_natCast, b_175_99]
        rw [mr_4, show ((p, bb, k) : rd).1 = p from rfl, show (p : Int) + 1 = ((p + 1 : Nat) : Int) from rfl, mr_w4]
        exact ih (p + 1) _ (by omega) (by omega) (by omega)
    · rw [if_pos hf, if_neg hf]
theorem V_175 (hd : 2 ≤ d) (h : onX m T n) (hs : gx n s) {a b : Int} (ha : i32 a) (hb : i32 b) : ev d 175 [.ref 363, .int (iI a), .int (iI b)] (mk (mr m s) q w) = vI (xNum T n a b s).1 (mk (mr m (xNum T n a b s).2) q w) := by
  have hk := skip_le T hs.1
  have hn := h.2.2.1
  have hh := hv_i T n (skip T n s.1) h.2.2.2
  rw [e_175 (by omega) _ rfl rfl rfl]
  simp only [b_175_0, V_167 (show 1 ≤ d - 1 by omega) hs, rBd_v, Option.toList_some, Option.toList_none, List.cons_append, List.nil_append, List.append_nil, b_175_4, zb_0]
  unfold xNum
  by_cases h0 : s.2.1 = -1
  · have hs2 : gx n (skip T n s.1, s.2) := ⟨hk.2, hs.2⟩
    rw [if_neg (not_not_intro h0), if_pos h0]
    simp only [V_169 (show 1 ≤ d - 1 by omega) h hs, rBd_v, Option.toList_some, Option.toList_none, List.cons_append, List.nil_append, List.append_nil, b_175_13, mr_4, V_171 (show 1 ≤ d - 1 by omega) (by omega : i32 (hv T n (skip T n s.1))), b_175_27, zb_0, V_168 (show 1 ≤ d - 1 by omega) hs2, b_175_39]
    by_cases hf : 48 ≤ hv T n (skip T n s.1) ∧ hv T n (skip T n s.1) ≤ 57
    · obtain ⟨d1, d2, d3, d4⟩ := dgx_le T (n - skip T n s.1) (skip T n s.1) 0 (by omega) (by omega)
      have hs3 : gx n ((dgx T (n - skip T n s.1) (skip T n s.1) 0).2, s.2) := ⟨by show (dgx _ _ _ _).2 ≤ n; omega, hs.2⟩
      rw [if_neg (not_not_intro hf), if_pos hf]
      refine Eq.trans (L_175 (show 1 ≤ d - 1 by omega) h (n - skip T n s.1) (skip T n s.1) 0 (by omega) (by omega) (by omega)) ?_
      show gv _ _ _ _ _ (mk (mr m ((dgx T (n - skip T n s.1) (skip T n s.1) 0).2, s.2)) q w) = _
      simp only [b_175_114, iI_lt (by omega : i32 (dgx T (n - skip T n s.1) (skip T n s.1) 0).1) ha, iI_lt hb (by omega : i32 (dgx T (n - skip T n s.1) (skip T n s.1) 0).1), b_175_126, V_168 (show 1 ≤ d - 1 by omega) hs3, rBd_v, Option.toList_some, Option.toList_none, List.cons_append, List.nil_append, List.append_nil, b_175_133]
      have h9 : xWr 2 (skip T n s.1) ((dgx T (n - skip T n s.1) (skip T n s.1) 0).2, s.2) = ((dgx T (n - skip T n s.1) (skip T n s.1) 0).2, ((skip T n s.1 : Nat) : Int), 2) := by
        unfold xWr
        rw [if_pos h0]
      by_cases hw : a ≤ (dgx T (n - skip T n s.1) (skip T n s.1) 0).1 ∧ (dgx T (n - skip T n s.1) (skip T n s.1) 0).1 ≤ b
      · rw [if_pos hw, if_neg (by omega), if_neg (by omega)]
      · rw [if_neg hw, h9]
        by_cases hl : (dgx T (n - skip T n s.1) (skip T n s.1) 0).1 < a
        · rw [if_pos hl]
        · rw [if_neg hl, if_pos (by omega)]
    · rw [if_pos hf, if_neg hf]
      unfold xWr
      rw [if_pos h0]
  · rw [if_pos h0, if_neg h0]
end S
