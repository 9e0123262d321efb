/-! ===== bytes are fed to both ===== -/
theorem b255 : ∀ i, i < 32 → (255#32).getLsbD i = decide (i < 8) := by decide
theorem bv_byte (x : BitVec 32) (k : Nat) (hk : k ≤ 24) : (x >>> k) &&& 255#32 = (x.sshiftRight k) &&& 255#32 := by
  apply BitVec.eq_of_getLsbD_eq
  intro i hi
  rw [BitVec.getLsbD_and, BitVec.getLsbD_and, b255 i hi]
  by_cases h8 : i < 8
  · rw [BitVec.getLsbD_ushiftRight, BitVec.getLsbD_sshiftRight]
    have h1 : k + i < 32 := by omega
    have h2 : ¬ 32 ≤ i := by omega
    simp [h1, h2]
  · simp [h8]
theorem byte_eq {v k : Int} (hk : k = 24 ∨ k = 16 ∨ k = 8 ∨ k = 0) : zAnd (zUsh v k) 255 = zAnd (zShr v k) 255 := by
  unfold zAnd zUsh zShr
  rw [iI_toInt, iI_toInt]
  congr 1
  apply Int32.toBitVec_inj.mp
  have e255 : (iI 255).toBitVec = 255#32 := by decide
  rw [Int32.toBitVec_and, Int32.toBitVec_and, e255]
  rcases hk with rfl | rfl | rfl | rfl
  · exact bv_byte (iI v).toBitVec 24 (by decide)
  · exact bv_byte (iI v).toBitVec 16 (by decide)
  · exact bv_byte (iI v).toBitVec 8 (by decide)
  · exact bv_byte (iI v).toBitVec 0 (by decide)
theorem byte_b {v : Int} : 0 ≤ zAnd v 255 ∧ zAnd v 255 < 256 := by
  unfold zAnd
  have e255 : (iI 255).toBitVec = 255#32 := by decide
  have h : ((iI v &&& iI 255).toBitVec).toNat ≤ 255 := by
    rw [Int32.toBitVec_and, e255, BitVec.toNat_and]
    exact Nat.and_le_right
  have h2 : (iI v &&& iI 255).toInt = (((iI v &&& iI 255).toBitVec).toNat : Int) := by
    show ((iI v &&& iI 255).toBitVec).toInt = _
    rw [BitVec.toInt_eq_toNat_of_lt (by omega)]
  rw [h2]
  omega
def cT (m : Nat → Nat → Int) (T : Nat → Int) (z : Nat) : Nat → Nat → Int := wr (row m 102 T) 101 1 z
def xT (m : Nat → Nat → Int) (T : Nat → Int) (z : Nat) : Nat → Nat → Int := wr (row m 365 T) 363 2 z
def by8 (v k : Int) : Int := zAnd (zShr v k) 255
def pt4 (T : Nat → Int) (z : Nat) (v : Int) : Nat → Int := row (row (row (row T z (by8 v 24)) (z + 1) (by8 v 16)) (z + 2) (by8 v 8)) (z + 3) (by8 v 0)
theorem pt4_T {T : Nat → Int} {z : Nat} {v : Int} (h : isT T) : isT (pt4 T z v) := by
  have hb : ∀ k, 0 ≤ by8 v k ∧ by8 v k < 256 := fun k => byte_b
  intro i
  unfold pt4 row
  split
  · exact hb _
  · split
    · exact hb _
    · split
      · exact hb _
      · split
        · exact hb _
        · exact h i
section M
variable {m : Nat → Nat → Int} {T : Nat → Int} {z : Nat}
theorem cT_1 : cT m T z 101 1 = z := wr_s _ _ _ _
theorem xT_2 : xT m T z 363 2 = z := wr_s _ _ _ _
theorem cT_w {i : Nat} {v : Int} : wr (wr (cT m T z) 102 i v) 101 1 ((z + 1 : Nat) : Int) = cT m (row T i v) (z + 1) := by
  funext a b
  unfold cT wr row
  by_cases h1 : a = 101
  · subst h1
    by_cases h2 : b = 1
    · simp [h2]
    · simp [h2]
  · by_cases h2 : a = 102
    · subst h2
      simp
    · simp [h1, h2]
theorem xT_w {i : Nat} {v : Int} : wr (wr (xT m T z) 365 i v) 363 2 ((z + 1 : Nat) : Int) = xT m (row T i v) (z + 1) := by
  funext a b
  unfold xT wr row
  by_cases h1 : a = 363
  · subst h1
    by_cases h2 : b = 2
    · simp [h2]
    · simp [h2]
  · by_cases h2 : a = 365
    · subst h2
      simp
    · simp [h1, h2]
end M
section S
variable {d : Nat} {m : Nat → Nat → Int} {q : Nat → Nat → Option Nat} {w : Option (Nat → Int64)} {T : Nat → Int} {z : Nat}
theorem C_81 {v k k' : Int} (hz : z < 600) (h0 : k = 24 ∨ k = 16 ∨ k = 8 ∨ k = 0) (hk : k' = k + (-8)) : gv d rR81 3 [some (.ref 101), some (.int (iI v)), some (.int (iI k))] [] (mk (cT m T z) q w) = gv d rR81 3 [some (.ref 101), some (.int (iI v)), some (.int (iI k'))] [] (mk (cT m (row T z (by8 v k)) (z + 1)) q w) := by
  rw [b_81_3, if_neg (by rw [iI_lt (by omega) (by omega)]; omega), if_pos (by rw [cT_1, iI_lt (by omega) (by omega)]; omega), b_81_17 (by rw [cT_1]; omega) (by rw [cT_1]; omega), cT_1, Int.toNat_natCast, wr_o _ _ _ _ (show 101 ≠ 102 by decide), cT_1, show (z : Int) + 1 = ((z + 1 : Nat) : Int) from rfl, cT_w, byte_eq h0, hk]
  rfl
theorem T_81 (hd : 1 ≤ d) {v : Int} (hz : z + 4 ≤ 600) : ev d 81 [.ref 101, .int (iI v)] (mk (cT m T z) q w) = vV (mk (cT m (pt4 T z v) (z + 4)) q w) := by
  rw [e_81 hd _ rfl rfl, b_81_0, C_81 (k' := 16) (by omega) (Or.inl rfl) (by decide), C_81 (k' := 8) (by omega) (Or.inr (Or.inl rfl)) (by decide), C_81 (k' := 0) (by omega) (Or.inr (Or.inr (Or.inl rfl))) (by decide), C_81 (k' := -8) (by omega) (Or.inr (Or.inr (Or.inr rfl))) (by decide), b_81_3, if_pos (by decide), b_81_49]
  rfl
def pt20 (T : Nat → Int) (z : Nat) (a b c e f : Int) : Nat → Int := pt4 (pt4 (pt4 (pt4 (pt4 T z a) (z + 4) b) (z + 8) c) (z + 12) e) (z + 16) f
theorem pt20_T {a b c e f : Int} (h : isT T) : isT (pt20 T z a b c e f) := pt4_T (pt4_T (pt4_T (pt4_T (pt4_T h))))
theorem T_115 (hd : 3 ≤ d) {a b c e f : Int} (hz : z ≤ 600) : ev d 115 [.ref 100, .int (iI a), .int (iI b), .int (iI c), .int (iI e), .int (iI f)] (mk (cT m T z) q w) = if z ≤ 580 then vI ((z + 20 : Nat) : Int) (mk (cT m (pt20 T z a b c e f) (z + 20)) q w) else vI (-1) (mk (cT m T z) q w) := by
  rw [e_115 (by omega) _ rfl rfl rfl rfl rfl rfl, b_115_0, T_80 (by omega) (by rw [cT_1]; omega), cT_1]
  simp only [rBd_v, Option.toList_some, Option.toList_none, List.cons_append, List.nil_append, List.append_nil, b_115_7, zb_0]
  by_cases h : z ≤ 580
  · rw [if_pos h, if_neg (by omega), T_81 (by omega) (by omega)]
    simp only [rBd_v, Option.toList_some, Option.toList_none, List.cons_append, List.nil_append, List.append_nil, b_115_20]
    rw [T_81 (by omega) (by omega)]
    simp only [rBd_v, Option.toList_some, Option.toList_none, List.cons_append, List.nil_append, List.append_nil, b_115_28]
    rw [T_81 (by omega) (by omega)]
    simp only [rBd_v, Option.toList_some, Option.toList_none, List.cons_append, List.nil_append, List.append_nil, b_115_36]
    rw [T_81 (by omega) (by omega)]
    simp only [rBd_v, Option.toList_some, Option.toList_none, List.cons_append, List.nil_append, List.append_nil, b_115_45]
    rw [T_81 (by omega) (by omega)]
    simp only [rBd_v, Option.toList_some, Option.toList_none, List.cons_append, List.nil_append, List.append_nil, b_115_54, cT_1]
    rfl
  · rw [if_neg h, if_pos (by omega)]
theorem X_76 {k k' s j : Int} {u7 : Option Value} (hz : z < 600) (hk : k' = k + 1) (hj : 24 - 8 * zRem k 4 = j) {a b c e f : Int} : gv d rR166 76 [some (.ref 363), some (.int (iI a)), some (.int (iI b)), some (.int (iI c)), some (.int (iI e)), some (.int (iI f)), some (.int (iI k)), u7] [.int (iI s)] (mk (xT m T z) q w) = gv d rR166 23 [some (.ref 363), some (.int (iI a)), some (.int (iI b)), some (.int (iI c)), some (.int (iI e)), some (.int (iI f)), some (.int (iI k')), some (.int (iI s))] [] (mk (xT m (row T z (by8 s j)) (z + 1)) q w) := by
  rw [b_166_76 (by rw [xT_2]; omega) (by rw [xT_2]; omega), xT_2, Int.toNat_natCast, wr_o _ _ _ _ (show 363 ≠ 365 by decide), xT_2, show (z : Int) + 1 = ((z + 1 : Nat) : Int) from rfl, xT_w, hj, hk]
  rfl
theorem X4_0 {a b c e f : Int} {u7 : Option Value} (hz : z + 4 ≤ 600) : gv d rR166 23 [some (.ref 363), some (.int (iI a)), some (.int (iI b)), some (.int (iI c)), some (.int (iI e)), some (.int (iI f)), some (.int (iI 0)), u7] [] (mk (xT m T z) q w) = gv d rR166 23 [some (.ref 363), some (.int (iI a)), some (.int (iI b)), some (.int (iI c)), some (.int (iI e)), some (.int (iI f)), some (.int (iI 4)), some (.int (iI a))] [] (mk (xT m (pt4 T z a) (z + 4)) q w) := by
  rw [b_166_23, if_pos (by decide), if_pos (by decide), X_76 (k' := 1) (j := 24) (by omega) (by decide) (by decide)]
  rw [b_166_23, if_pos (by decide), if_pos (by decide), X_76 (k' := 2) (j := 16) (by omega) (by decide) (by decide)]
  rw [b_166_23, if_pos (by decide), if_pos (by decide), X_76 (k' := 3) (j := 8) (by omega) (by decide) (by decide)]
  rw [b_166_23, if_pos (by decide), if_pos (by decide), X_76 (k' := 4) (j := 0) (by omega) (by decide) (by decide)]
  rfl
theorem X4_1 {a b c e f : Int} {u7 : Option Value} (hz : z + 4 ≤ 600) : gv d rR166 23 [some (.ref 363), some (.int (iI a)), some (.int (iI b)), some (.int (iI c)), some (.int (iI e)), some (.int (iI f)), some (.int (iI 4)), u7] [] (mk (xT m T z) q w) = gv d rR166 23 [some (.ref 363), some (.int (iI a)), some (.int (iI b)), some (.int (iI c)), some (.int (iI e)), some (.int (iI f)), some (.int (iI 8)), some (.int (iI b))] [] (mk (xT m (pt4 T z b) (z + 4)) q w) := by
  rw [b_166_23, if_pos (by decide), if_neg (by decide), if_pos (by decide), X_76 (k' := 5) (j := 24) (by omega) (by decide) (by decide)]
  rw [b_166_23, if_pos (by decide), if_neg (by decide), if_pos (by decide), X_76 (k' := 6) (j := 16) (by omega) (by decide) (by decide)]
  rw [b_166_23, if_pos (by decide), if_neg (by decide), if_pos (by decide), X_76 (k' := 7) (j := 8) (by omega) (by decide) (by decide)]
  rw [b_166_23, if_pos (by decide), if_neg (by decide), if_pos (by decide), X_76 (k' := 8) (j := 0) (by omega) (by decide) (by decide)]
  rfl
theorem X4_2 {a b c e f : Int} {u7 : Option Value} (hz : z + 4 ≤ 600) : gv d rR166 23 [some (.ref 363), some (.int (iI a)), some (.int (iI b)), some (.int (iI c)), some (.int (iI e)), some (.int (iI f)), some (.int (iI 8)), u7] [] (mk (xT m T z) q w) = gv d rR166 23 [some (.ref 363), some (.int (iI a)), some (.int (iI b)), some (.int (iI c)), some (.int (iI e)), some (.int (iI f)), some (.int (iI 12)), some (.int (iI c))] [] (mk (xT m (pt4 T z c) (z + 4)) q w) := by
  rw [b_166_23, if_pos (by decide), if_neg (by decide), if_neg (by decide), if_pos (by decide), X_76 (k' := 9) (j := 24) (by omega) (by decide) (by decide)]
  rw [b_166_23, if_pos (by decide), if_neg (by decide), if_neg (by decide), if_pos (by decide), X_76 (k' := 10) (j := 16) (by omega) (by decide) (by decide)]
  rw [b_166_23, if_pos (by decide), if_neg (by decide), if_neg (by decide), if_pos (by decide), X_76 (k' := 11) (j := 8) (by omega) (by decide) (by decide)]
  rw [b_166_23, if_pos (by decide), if_neg (by decide), if_neg (by decide), if_pos (by decide), X_76 (k' := 12) (j := 0) (by omega) (by decide) (by decide)]
  rfl
theorem X4_3 {a b c e f : Int} {u7 : Option Value} (hz : z + 4 ≤ 600) : gv d rR166 23 [some (.ref 363), some (.int (iI a)), some (.int (iI b)), some (.int (iI c)), some (.int (iI e)), some (.int (iI f)), some (.int (iI 12)), u7] [] (mk (xT m T z) q w) = gv d rR166 23 [some (.ref 363), some (.int (iI a)), some (.int (iI b)), some (.int (iI c)), some (.int (iI e)), some (.int (iI f)), some (.int (iI 16)), some (.int (iI e))] [] (mk (xT m (pt4 T z e) (z + 4)) q w) := by
  rw [b_166_23, if_pos (by decide), if_neg (by decide), if_neg (by decide), if_neg (by decide), if_pos (by decide), X_76 (k' := 13) (j := 24) (by omega) (by decide) (by decide)]
  rw [b_166_23, if_pos (by decide), if_neg (by decide), if_neg (by decide), if_neg (by decide), if_pos (by decide), X_76 (k' := 14) (j := 16) (by omega) (by decide) (by decide)]
  rw [b_166_23, if_pos (by decide), if_neg (by decide), if_neg (by decide), if_neg (by decide), if_pos (by decide), X_76 (k' := 15) (j := 8) (by omega) (by decide) (by decide)]
  rw [b_166_23, if_pos (by decide), if_neg (by decide), if_neg (by decide), if_neg (by decide), if_pos (by decide), X_76 (k' := 16) (j := 0) (by omega) (by decide) (by decide)]
  rfl
theorem X4_4 {a b c e f : Int} {u7 : Option Value} (hz : z + 4 ≤ 600) : gv d rR166 23 [some (.ref 363), some (.int (iI a)), some (.int (iI b)), some (.int (iI c)), some (.int (iI e)), some (.int (iI f)), some (.int (iI 16)), u7] [] (mk (xT m T z) q w) = gv d rR166 23 [some (.ref 363), some (.int (iI a)), some (.int (iI b)), some (.int (iI c)), some (.int (iI e)), some (.int (iI f)), some (.int (iI 20)), some (.int (iI f))] [] (mk (xT m (pt4 T z f) (z + 4)) q w) := by
  rw [b_166_23, if_pos (by decide), if_neg (by decide), if_neg (by decide), if_neg (by decide), if_neg (by decide), X_76 (k' := 17) (j := 24) (by omega) (by decide) (by decide)]
  rw [b_166_23, if_pos (by decide), if_neg (by decide), if_neg (by decide), if_neg (by decide), if_neg (by decide), X_76 (k' := 18) (j := 16) (by omega) (by decide) (by decide)]
  rw [b_166_23, if_pos (by decide), if_neg (by decide), if_neg (by decide), if_neg (by decide), if_neg (by decide), X_76 (k' := 19) (j := 8) (by omega) (by decide) (by decide)]
  rw [b_166_23, if_pos (by decide), if_neg (by decide), if_neg (by decide), if_neg (by decide), if_neg (by decide), X_76 (k' := 20) (j := 0) (by omega) (by decide) (by decide)]
  rfl
theorem V_166 (hd : 1 ≤ d) {a b c e f : Int} (hz : z ≤ 600) : ev d 166 [.ref 363, .int (iI a), .int (iI b), .int (iI c), .int (iI e), .int (iI f)] (mk (xT m T z) q w) = if z ≤ 580 then vI ((z + 20 : Nat) : Int) (mk (xT (wr m 363 0 0) (pt20 T z a b c e f) (z + 20)) q w) else vI (-1) (mk (xT (wr m 363 0 0) T z) q w) := by
  have hw : wr (xT m T z) 363 0 0 = xT (wr m 363 0 0) T z := by
    funext x y
    unfold xT wr row
    by_cases h1 : x = 363
    · subst h1
      by_cases h2 : y = 0
      · simp [h2]
      · simp [h2]
    · simp [h1]
  rw [e_166 hd _ rfl rfl rfl rfl rfl rfl, b_166_0, hw, xT_2, show (z : Int) + 20 = ((z + 20 : Nat) : Int) from rfl]
  simp only [iI_lt (by omega : i32 600) (by omega : i32 ((z + 20 : Nat) : Int))]
  by_cases h : z ≤ 580
  · rw [if_pos h, if_neg (by omega), X4_0 (by omega), X4_1 (by omega), X4_2 (by omega), X4_3 (by omega), X4_4 (by omega), b_166_23, if_neg (by decide), xT_2]
    rfl
  · rw [if_neg h, if_pos (by omega)]
end S
