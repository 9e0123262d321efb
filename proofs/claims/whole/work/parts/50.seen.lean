/-! ===== a fan of the class: what is told, what is seen ===== -/
def bt (o k : Nat) : Nat := o / 2 ^ k % 2
theorem bt_01 (o k : Nat) : bt o k = 0 ∨ bt o k = 1 := by
  unfold bt
  omega
theorem bit_ok : ∀ o : Nat, o < 128 → ∀ k : Nat, k < 7 → zAnd (zShr o k) 1 = (bt o k : Int) := by decide +kernel
/-- sticks, and those that are turned over -/
def fk (A : Nat → Int) (n o : Nat) : Prop := A 0 = n ∧ n ≤ 7 ∧ A 6 = o ∧ o < 128
def fl (B : Nat → Int) (n : Nat) : Prop := ∀ k, k < n → 0 ≤ B k ∧ B k < 7
def th (o s h : Nat) : Nat := if bt o s = 1 then 3 - h else h
theorem th_lt {o s h : Nat} (hh : h < 4) : th o s h < 4 := by
  unfold th
  split <;> omega
def lm (C : Nat → Int) (o s h : Nat) : Int := C (4 * s + th o s h)
def pl (n v : Nat) (k : Int) : Int := if v < 2 then k else n - 1 - k
def mkI (n : Nat) (B C : Nat → Int) (o v : Nat) (k : Int) : Int := if 0 ≤ pl n v k ∧ pl n v k < n then lm C o (B (pl n v k).toNat).toNat v else -1
section S
variable {d n : Nat} {m : Nat → Nat → Int} {q : Nat → Nat → Option Nat} {w : Option (Nat → Int64)} {o x : Nat}
theorem T_14 (hd : 1 ≤ d) (hx : iFan x) (hk : fk (m x) n o) {s : Nat} (hs : s < 7) : ev d 14 [.ref x, .int (iI s)] (mk m q w) = vI (zb (bt o s = 1)) (mk m q w) := by
  have h1 := bit_ok o hk.2.2.2 s hs
  have h2 := bt_01 o s
  rw [e_14 hd _ rfl rfl]
  simp only [b_14_0 hx, b_14_17 (Or.inl rfl), b_14_17 (Or.inr rfl), hk.2.2.1, h1, iI_eq (by omega : i32 (bt o s : Int)) (by omega : i32 1)]
  unfold zb
  by_cases h : bt o s = 1
  · rw [if_pos (by omega), if_pos h]
  · rw [if_neg (by omega), if_neg h]
theorem T_15 (hd : 2 ≤ d) (hx : iFan x) (hk : fk (m x) n o) {s h : Nat} (hs : s < 7) (hh : h < 4) : ev d 15 [.ref x, .int (iI s), .int (iI h)] (mk m q w) = vI (th o s h) (mk m q w) := by
  rw [e_15 (by omega) _ rfl rfl rfl]
  simp only [b_15_0 hx, T_14 (show 1 ≤ d - 1 by omega) hx hk hs, rBd_v, Option.toList_some, Option.toList_none, List.cons_append, List.nil_append, List.append_nil, b_15_5, zb_0, b_15_15]
  unfold th
  by_cases h1 : bt o s = 1
  · rw [if_neg (not_not_intro h1), if_pos h1, show ((3 - h : Nat) : Int) = 3 - (h : Int) by omega]
  · rw [if_pos h1, if_neg h1]
theorem T_16 (hd : 1 ≤ d) {s h : Nat} (hs : s < 7) (hh : h < 4) : ev d 16 [.int (iI s), .int (iI h)] (mk m q w) = vI 1 (mk m q w) := by
  rw [e_16 hd _ rfl rfl]
  simp only [b_16_0, b_16_23, b_16_24 (Or.inl rfl), b_16_24 (Or.inr rfl), iI_lt (by omega : i32 (s : Int)) (by omega : i32 0), iI_lt (by omega : i32 (s : Int)) (by omega : i32 7), iI_lt (by omega : i32 (h : Int)) (by omega : i32 0), iI_lt (by omega : i32 (h : Int)) (by omega : i32 4)]
  rw [if_neg (by omega), if_pos (by omega), if_neg (by omega), if_pos (by omega)]
theorem T_17 (hd : 2 ≤ d) (hx : iFan x) {s h : Nat} (hs : s < 7) (hh : h < 4) : ev d 17 [.ref x, .int (iI s), .int (iI h)] (mk m q w) = vI (m (x + 2) (4 * s + h)) (mk m q w) := by
  rw [e_17 (by omega) _ rfl rfl rfl]
  simp only [b_17_0 hx, T_16 (show 1 ≤ d - 1 by omega) hs hh, rBd_v, Option.toList_some, Option.toList_none, List.cons_append, List.nil_append, List.append_nil, b_17_5 hx]
  rw [if_neg iI10, b_17_8 hx (by omega) (by omega), b_17_22, show (4 * (s : Int) + (h : Int)).toNat = 4 * s + h by omega]
theorem T_18 (hd : 3 ≤ d) (hx : iFan x) (hk : fk (m x) n o) {s h : Nat} (hs : s < 7) (hh : h < 4) : ev d 18 [.ref x, .int (iI s), .int (iI h)] (mk m q w) = vI (lm (m (x + 2)) o s h) (mk m q w) := by
  rw [e_18 (by omega) _ rfl rfl rfl]
  simp only [b_18_0 hx, T_15 (show 2 ≤ d - 1 by omega) hx hk hs hh, rBd_v, Option.toList_some, Option.toList_none, List.cons_append, List.nil_append, List.append_nil, b_18_8 hx, T_17 (show 2 ≤ d - 1 by omega) hx hs (th_lt hh), b_18_11]
  rfl
theorem T_19 (hd : 4 ≤ d) (hx : iFan x) (hk : fk (m x) n o) (hl : fl (m (x + 1)) n) {v : Nat} (hv : v < 4) {k : Int} (h0 : 0 ≤ k) (h1 : i32 k) : ev d 19 [.ref x, .int (iI v), .int (iI k)] (mk m q w) = vI (mkI n (m (x + 1)) (m (x + 2)) o v k) (mk m q w) := by
  have hn := hk.2.1
  have hp : (if (v : Int) < 2 then k else (n : Int) - 1 - k) = pl n v k := by
    unfold pl
    by_cases h : v < 2
    · rw [if_pos (by omega), if_pos h]
    · rw [if_neg (by omega), if_neg h]
  have hpi : i32 (pl n v k) := by
    unfold pl
    split <;> omega
  rw [e_19 (by omega) _ rfl rfl rfl]
  simp only [b_19_0 hx, T_12 (show 1 ≤ d - 1 by omega) hx (by omega : i32 (v : Int)), rBd_v, Option.toList_some, Option.toList_none, List.cons_append, List.nil_append, List.append_nil, b_19_6 hx, hp, T_13 (m := m) (show 2 ≤ d - 1 by omega) hx hpi (by rw [hk.1]; omega), hk.1]
  unfold mkI
  by_cases hc : 0 ≤ pl n v k ∧ pl n v k < n
  · obtain ⟨hb0, hb1⟩ := hl (pl n v k).toNat (by omega)
    rw [if_pos hc, zb_t hc]
    simp only [b_19_12 hx]
    rw [if_neg iI10]
    first
      | rw [b_19_15 hx (by omega) (by omega)]
      | skip
    rw [show iI (m (x + 1) (pl n v k).toNat) = iI ((m (x + 1) (pl n v k).toNat).toNat : Nat) by rw [Int.toNat_of_nonneg hb0], T_18 (show 3 ≤ d - 1 by omega) hx hk (by omega) hv]
    simp only [rBd_v, Option.toList_some, Option.toList_none, List.cons_append, List.nil_append, List.append_nil, b_19_26, b_19_30]
  · rw [if_neg hc, zb_f hc]
    simp only [b_19_12 hx]
    rw [if_pos trivial, b_19_30]
/-! the reference: its row s (377) -/
def xm (G : Nat → Int) (s h : Nat) : Int := G (4 * s + if G (35 + s) = 1 then 3 - h else h)
theorem V_208 (hd : 1 ≤ d) {s h : Nat} (hs : s < 7) (hh : h < 4) {o1 : Int} (ho : i32 o1) : ev d 208 [.ref 363, .int (iI s), .int (iI o1), .int (iI h)] (mk m q w) = vI (m 377 (4 * s + if o1 = 1 then 3 - h else h)) (mk m q w) := by
  rw [e_208 hd _ rfl rfl rfl rfl]
  simp only [b_208_0, iI_eq ho (by omega : i32 1)]
  by_cases h1 : o1 = 1
  · rw [if_pos h1, if_pos h1, b_208_19 (by omega) (by omega), show (4 * (s : Int) + (3 - (h : Int))).toNat = 4 * s + (3 - h) by omega]
  · rw [if_neg h1, if_neg h1, b_208_19 (by omega) (by omega), show (4 * (s : Int) + (h : Int)).toNat = 4 * s + h by omega]
theorem V_209 (hd : 2 ≤ d) {s h : Nat} (hs : s < 7) (hh : h < 4) (ho : i32 (m 377 (35 + s))) : ev d 209 [.ref 363, .int (iI s), .int (iI h)] (mk m q w) = vI (xm (m 377) s h) (mk m q w) := by
  rw [e_209 (by omega) _ rfl rfl rfl, b_209_0 (by omega) (by omega), show (35 + (s : Int)).toNat = 35 + s by omega]
  simp only [V_208 (show 1 ≤ d - 1 by omega) hs hh ho, rBd_v, Option.toList_some, Option.toList_none, List.cons_append, List.nil_append, List.append_nil, b_209_15]
  rfl
theorem V_216 (hd : 1 ≤ d) {v : Nat} (hv : v < 4) {k : Int} (hn : m 363 15 = n) : ev d 216 [.ref 363, .int (iI v), .int (iI k)] (mk m q w) = vI (pl n v k) (mk m q w) := by
  rw [e_216 hd _ rfl rfl rfl]
  simp only [b_216_0, b_216_17, iI_lt (by omega : i32 (v : Int)) (by omega : i32 2), hn]
  unfold pl
  by_cases h : v < 2
  · rw [if_pos (by omega), if_pos h]
  · rw [if_neg (by omega), if_neg h]
theorem V_217 (hd : 3 ≤ d) {v : Nat} (hv : v < 4) {k : Nat} (hn : m 363 15 = n) (hn7 : n ≤ 7) (hk : k < n) (hl : ∀ j, j < n → 0 ≤ m 377 (28 + j) ∧ m 377 (28 + j) < 7) (ho : ∀ s, s < 7 → i32 (m 377 (35 + s))) : ev d 217 [.ref 363, .int (iI v), .int (iI k)] (mk m q w) = vI (xm (m 377) (m 377 (28 + (pl n v k).toNat)).toNat v) (mk m q w) := by
  have hp : 0 ≤ pl n v k ∧ pl n v k < n := by
    unfold pl
    split <;> omega
  obtain ⟨h0, h1⟩ := hl (pl n v k).toNat (by omega)
  rw [e_217 (by omega) _ rfl rfl rfl]
  simp only [b_217_0, V_216 (show 1 ≤ d - 1 by omega) hv hn, rBd_v, Option.toList_some, Option.toList_none, List.cons_append, List.nil_append, List.append_nil]
  rw [b_217_13 (by omega) (by omega), show (28 + pl n v k).toNat = 28 + (pl n v k).toNat by omega, show iI (m 377 (28 + (pl n v k).toNat)) = iI ((m 377 (28 + (pl n v k).toNat)).toNat : Nat) by rw [Int.toNat_of_nonneg h0], V_209 (show 2 ≤ d - 1 by omega) (by omega) hv (ho _ (by omega))]
  simp only [rBd_v, Option.toList_some, Option.toList_none, List.cons_append, List.nil_append, List.append_nil, b_217_19]
end S
