/-! ===== years: what is drawn, and an act, by both ===== -/
theorem b32767 : ∀ i, i < 32 → (32767#32).getLsbD i = decide (i < 15) := by decide
theorem bv_draw (x : BitVec 32) : (x >>> 16) &&& 32767#32 = (x.sshiftRight 16) &&& 32767#32 := by
  apply BitVec.eq_of_getLsbD_eq
  intro i hi
  rw [BitVec.getLsbD_and, BitVec.getLsbD_and, b32767 i hi]
  by_cases h8 : i < 15
  · rw [BitVec.getLsbD_ushiftRight, BitVec.getLsbD_sshiftRight]
    have h1 : 16 + i < 32 := by omega
    have h2 : ¬ 32 ≤ i := by omega
    simp [h1, h2]
  · simp [h8]
theorem draw_eq {v : Int} : zAnd (zUsh v 16) 32767 = zAnd (zShr v 16) 32767 := by
  unfold zAnd zUsh zShr
  rw [iI_toInt, iI_toInt]
  congr 1
  apply Int32.toBitVec_inj.mp
  have e : (iI 32767).toBitVec = 32767#32 := by decide
  rw [Int32.toBitVec_and, Int32.toBitVec_and, e]
  exact bv_draw (iI v).toBitVec
theorem draw_b {v : Int} : 0 ≤ zAnd v 32767 ∧ zAnd v 32767 ≤ 32767 := by
  unfold zAnd
  have e : (iI 32767).toBitVec = 32767#32 := by decide
  have h : ((iI v &&& iI 32767).toBitVec).toNat ≤ 32767 := by
    rw [Int32.toBitVec_and, e, BitVec.toNat_and]
    exact Nat.and_le_right
  have h2 : (iI v &&& iI 32767).toInt = ((iI v &&& iI 32767).toBitVec).toInt := rfl
  rw [h2, BitVec.toInt_eq_toNat_cond, if_pos (by omega)]
  omega
def nx (S : Int) : Int := S * ((1103515245 : Nat) : Int) + 12345
def dr (S : Int) : Nat := (zAnd (zShr S 16) 32767).toNat
theorem dr_r (S : Int) : zAnd (zShr S 16) 32767 = ((dr S : Nat) : Int) ∧ dr S ≤ 32767 := by
  have := draw_b (v := zShr S 16)
  unfold dr
  omega
/-- what a draw of k comes to -/
def dw (S : Int) (k : Nat) : Nat := dr (nx S) % k
theorem dw_lt {S : Int} {k : Nat} (h : 0 < k) : dw S k < k := Nat.mod_lt _ h
theorem iI_n0 {k : Nat} (h0 : 0 < k) (hk : k < 2147483648) : iI (k : Int) ≠ 0 := fun e => by
  have e2 : iI (k : Int) = iI 0 := e
  rw [iI_eq (by omega) (by omega)] at e2
  omega
section S
variable {d n : Nat} {m : Nat → Nat → Int} {q : Nat → Nat → Option Nat} {w : Option (Nat → Int64)} {x y : Nat} {r Q z : Nat} {G : Nat → Int} {C : Nat → Int}
theorem T_108 (hd : 1 ≤ d) {k : Nat} (h0 : 0 < k) (hk : k < 2147483648) : ev d 108 [.ref 177, .int (iI (k : Int))] (mk m q w) = vI ((dw (m 177 2) k : Nat) : Int) (mk (wr m 177 2 (nx (m 177 2))) q w) := by
  have h := dr_r (nx (m 177 2))
  rw [e_108 hd _ rfl rfl, b_108_0, if_pos (by rw [iI_lt (by omega) (by omega)]; omega), b_108_19 (iI_n0 h0 hk), wr_s, show (m 177 2) * (((1103515245 : Nat) : Int)) + 12345 = nx (m 177 2) from rfl, draw_eq, h.1, zRem_n h0 hk (by omega), b_108_36]
  rfl
theorem V_262 (hd : 1 ≤ d) {k : Nat} (h0 : 0 < k) (hk : k < 2147483648) : ev d 262 [.ref 363, .int (iI (k : Int))] (mk m q w) = vI ((dw (m 363 50) k : Nat) : Int) (mk (wr m 363 50 (nx (m 363 50))) q w) := by
  have h := dr_r (nx (m 363 50))
  rw [e_262 hd _ rfl rfl, b_262_0 (iI_n0 h0 hk), wr_s, show (m 363 50) * (((1103515245 : Nat) : Int)) + 12345 = nx (m 363 50) from rfl, h.1, zRem_n h0 hk (by omega)]
  rfl
/-- what a year of the class may change; of the reference -/
def qY (m m1 : Nat → Nat → Int) : Prop := ∀ a, a ≠ 177 → a ≠ 178 → a ≠ 179 → a ≠ 180 → a ≠ 184 → a ≠ 185 → a ≠ 188 → a ≠ 189 → m1 a = m a
def qZ (m m2 : Nat → Nat → Int) : Prop := (∀ a, a ≠ 377 → a ≠ 372 → a ≠ 373 → a ≠ 363 → m2 a = m a) ∧ ∀ j, j ≠ 50 → m2 363 j = m 363 j
theorem qY_refl : qY m m := fun _ _ _ _ _ _ _ _ _ => rfl
theorem qZ_refl : qZ m m := ⟨fun _ _ _ _ _ => rfl, fun _ _ => rfl⟩
theorem qY_trans {m1 m2 : Nat → Nat → Int} (h : qY m m1) (h2 : qY m1 m2) : qY m m2 := fun a a1 a2 a3 a4 a5 a6 a7 a8 => (h2 a a1 a2 a3 a4 a5 a6 a7 a8).trans (h a a1 a2 a3 a4 a5 a6 a7 a8)
theorem qZ_trans {m1 m2 : Nat → Nat → Int} (h : qZ m m1) (h2 : qZ m1 m2) : qZ m m2 := ⟨fun a a1 a2 a3 a4 => (h2.1 a a1 a2 a3 a4).trans (h.1 a a1 a2 a3 a4), fun j hj => (h2.2 j hj).trans (h.2 j hj)⟩
theorem f178 : iFan 178 := (by decide +kernel : 178 ∈ fanIds)
theorem qC_qY {mA m1 : Nat → Nat → Int} (hA : ∀ a, a ≠ 177 → mA a = m a) (h : qC 178 mA m1) : qY m m1 := fun a a1 a2 a3 a4 a5 a6 a7 a8 => (h a a2 a3 a4 a5 a6 a7 a8).trans (hA a a1)
theorem clsL_y {m1 : Nat → Nat → Int} (h : qY m m1) (hy : clsL m y z) : clsL m1 y z ∧ m1 (y + 1) = m (y + 1) := by
  obtain ⟨h1, h2, h3⟩ := hy
  have hl := law_rng h1
  have e1 : m1 (y + 1) = m (y + 1) := h (y + 1) (by omega) (by omega) (by omega) (by omega) (by omega) (by omega) (by omega) (by omega)
  have e2 : m1 y = m y := h y (by omega) (by omega) (by omega) (by omega) (by omega) (by omega) (by omega) (by omega)
  exact ⟨⟨h1, by rw [e1]; exact h2, by rw [e2]; exact h3⟩, e1⟩
theorem xR_z {m1 : Nat → Nat → Int} (h : qZ m m1) (hx : xR m n r C z) : xR m1 n r C z := by
  unfold xR at *
  rw [h.2 15 (by decide), h.2 16 (by decide), h.2 24 (by decide), h.1 370 (by decide) (by decide) (by decide) (by decide), h.1 371 (by decide) (by decide) (by decide) (by decide)]
  exact hx
theorem qZ_50 {v : Int} : qZ m (wr m 363 50 v) := ⟨fun a _ _ _ a4 => wr_o _ _ _ _ a4, fun j hj => wr_b _ _ _ _ hj⟩
/-- the reference does the step that was drawn -/
theorem act_end {As : List Value} {e : Int} {G1 : Nat → Int} (h : sim d n r C z 213 As e G G1) {m' mB : Nat → Nat → Int} {q' : Nat → Nat → Option Nat} {w' : Option (Nat → Int64)} (hG : m' 377 = G) (hx : xR m' n r C z) (h1 : qZ m' mB) (h7 : mB 377 = m' 377) : ∃ m2, ev d 213 As (mk mB q' w') = vI e (mk m2 q' w') ∧ m2 377 = G1 ∧ m2 363 50 = mB 363 50 ∧ qZ m' m2 := by
  obtain ⟨m2, g1, g2, g3⟩ := h mB q' w' (by rw [h7]; exact hG) (xR_z h1 hx)
  refine ⟨m2, g1, g2, by rw [g3 363 (by decide) (by decide) (by decide)], qZ_trans h1 ⟨fun a a1 a2 a3 _ => g3 a a1 a2 a3, fun j _ => by rw [g3 363 (by decide) (by decide) (by decide)]⟩⟩
abbrev actR (d n r Q z y : Nat) (G : Nat → Int) (S : Int) (k : Nat) (m : Nat → Nat → Int) (q : Nat → Nat → Option Nat) (w : Option (Nat → Int64)) : Prop := ∃ (m1 : Nat → Nat → Int) (G1 : Nat → Int) (S1 : Int), gv d rR112 6 [some (.ref 177), some (.ref y)] [.int (iI (k : Int))] (mk m q w) = vV (mk m1 q w) ∧ qY m m1 ∧ m1 177 2 = S1 ∧ fnR n r Q (m1 178) (m1 179) (m1 180) G1 ∧ (m1 178 5 = m 178 5 ∨ m1 178 5 = m 178 5 + 1) ∧
    ∀ (m' : Nat → Nat → Int) (q' : Nat → Nat → Option Nat) (w' : Option (Nat → Int64)), m' 377 = G → xR m' n r (m (y + 1)) z → m' 363 50 = S → ∃ m2, gv d rR263 0 [some (.ref 363), some (.int (iI (k : Int))), none, none] [] (mk m' q' w') = vV (mk m2 q' w') ∧ m2 377 = G1 ∧ m2 363 50 = S1 ∧ qZ m' m2
theorem i01 {e : Int} (h : e = 0 ∨ e = 1) : iI e = iI 0 ∨ iI e = iI 1 := by
  rcases h with rfl | rfl
  · exact Or.inl rfl
  · exact Or.inr rfl
theorem J_act (hd : 20 ≤ d) (hn1 : 1 ≤ n) (hF : fnR n r Q (m 178) (m 179) (m 180) G) (hy : clsL m y z) {S : Int} (hS : m 177 2 = S) {k : Nat} (hk : k < 6) : actR d n r Q z y G S k m q w := by
  have hn7 := hF.1.2.1
  have h0n : ∀ mA : Nat → Nat → Int, (∀ a, a ≠ 177 → mA a = m a) → mA 178 0 = n := fun mA h => by rw [h 178 (by decide)]; exact hF.1.1
  have hFA : ∀ mA : Nat → Nat → Int, (∀ a, a ≠ 177 → mA a = m a) → fnR n r Q (mA 178) (mA (178 + 1)) (mA (178 + 2)) G := fun mA h => by rw [h 178 (by decide), h (178 + 1) (by decide), h (178 + 2) (by decide)]; exact hF
  have hyA : ∀ mA : Nat → Nat → Int, (∀ a, a ≠ 177 → mA a = m a) → clsL mA y z ∧ mA (y + 1) = m (y + 1) := fun mA h => clsL_y (fun a a1 _ _ _ _ _ _ _ => h a a1) hy
  have o1 : ∀ v : Int, ∀ a, a ≠ 177 → wr m 177 2 v a = m a := fun v a ha => wr_o _ _ _ _ ha
  have s1 : ∀ v : Int, wr m 177 2 v 177 2 = v := fun v => wr_s _ _ _ _
  have ww : ∀ (mm : Nat → Nat → Int) (x j : Nat) (u v : Int), wr (wr mm x j u) x j v = wr mm x j v := fun mm x j u v => by
    unfold wr
    rw [row_s, row_row]
    congr 1
    funext t
    by_cases e : t = j
    · subst e
      rw [row_s, row_s]
    · rw [row_o _ _ _ e, row_o _ _ _ e, row_o _ _ _ e]
  rcases (show k = 0 ∨ k = 1 ∨ k = 2 ∨ k = 3 ∨ k = 4 ∨ k = 5 by omega) with rfl | rfl | rfl | rfl | rfl | rfl
  · -- open
    obtain ⟨S2, hS2⟩ : ∃ S2, S2 = nx (nx S) := ⟨_, rfl⟩
    have v1 := dw_lt (S := S) (k := 4) (by decide)
    have v2 := dw_lt (S := nx S) (k := n) (by omega)
    obtain ⟨e, m1, G1, he, h1, h2, h3, h4, h5⟩ := M_open2 (d := d - 1) (m := wr m 177 2 S2) (q := q) (w := w) (by omega) f178 (hyA _ (o1 S2)).1 (hFA _ (o1 S2)) (v := dw S 4) (k := dw (nx S) n + 1) v1 (by omega)
    rw [(hyA _ (o1 S2)).2] at h4
    refine ⟨m1, G1, S2, ?_, qC_qY (o1 S2) h2, ?_, h3, by rw [o1 S2 178 (by decide)] at h5; exact h5, fun m' q' w' hG hx h50 => ?_⟩
    · rw [show iI ((0 : Nat) : Int) = iI 0 from rfl, b_112_6_0 hy.1, b_112_40 hy.1, e_109 (by omega) _ rfl rfl, b_109_0 hy.1, show iI 4 = iI ((4 : Nat) : Int) from rfl, T_108 (by omega) (by decide) (by decide), hS]
      simp only [rBd_v, Option.toList_some, Option.toList_none, List.cons_append, List.nil_append, List.append_nil]
      rw [b_109_5 hy.1, h0n _ (o1 _), T_108 (by omega) (by omega) (by omega), s1, ww, ← hS2]
      simp only [rBd_v, Option.toList_some, Option.toList_none, List.cons_append, List.nil_append, List.append_nil]
      rw [b_109_17 hy.1, show ((dw (nx S) n : Nat) : Int) + 1 = ((dw (nx S) n + 1 : Nat) : Int) from rfl, h1]
      simp only [rBd_v, Option.toList_some, Option.toList_none, List.cons_append, List.nil_append, List.append_nil]
      rw [b_109_30]
      simp only [rBd_v, Option.toList_some, Option.toList_none, List.cons_append, List.nil_append, List.append_nil]
      rw [b_112_45, b_112_103]
    · rw [h2 177 (by decide) (by decide) (by decide) (by decide) (by decide) (by decide) (by decide), s1]
    · obtain ⟨m2, g1, g2, g3, g4⟩ := act_end (sim_213 (d := d) (k := 0) (a := ((dw S 4 : Nat) : Int)) (b := ((dw (nx S) n + 1 : Nat) : Int)) (c := 0) (by omega) he (Or.inl ⟨rfl, rfl, rfl⟩) h4) (q' := q') (w' := w') hG hx (mB := wr m' 363 50 S2) qZ_50 (wr_o _ _ _ _ (by decide))
      refine ⟨m2, ?_, g2, by rw [g3, wr_s], g4⟩
      rw [b_263_0, if_pos (show iI ((0 : Nat) : Int) = iI 0 from rfl), show iI 4 = iI ((4 : Nat) : Int) from rfl, V_262 (by omega) (by decide) (by decide), h50]
      simp only [rBd_v, Option.toList_some, Option.toList_none, List.cons_append, List.nil_append, List.append_nil]
      rw [b_263_9, b_263_39, if_pos (show iI ((0 : Nat) : Int) = iI 0 from rfl), wr_b _ _ _ _ (by decide), hx.1, V_262 (by omega) (by omega) (by omega), wr_s, ww, ← hS2]
      simp only [rBd_v, Option.toList_some, Option.toList_none, List.cons_append, List.nil_append, List.append_nil]
      rw [b_263_52, b_263_87, if_neg (show ¬ iI ((0 : Nat) : Int) = iI 4 by decide), b_263_107, show ((dw (nx S) n : Nat) : Int) + 1 = ((dw (nx S) n + 1 : Nat) : Int) from rfl, g1]
      simp only [rBd_v, Option.toList_some, Option.toList_none, List.cons_append, List.nil_append, List.append_nil]
      rw [b_263_110]
  · -- shut
    obtain ⟨e, m1, G1, he, h1, h2, h3, h4, h5⟩ := M_shut2 (d := d) (d2 := d - 1) (m := m) (q := q) (w := w) (z := z) (C := m (y + 1)) (by omega) (by omega) f178 hF
    refine ⟨m1, G1, S, ?_, qC_qY (fun _ _ => rfl) h2, ?_, h3, Or.inl h5, fun m' q' w' hG hx h50 => ?_⟩
    · rw [show iI ((1 : Nat) : Int) = iI 1 from rfl, b_112_6_1 hy.1, b_112_48, h1]
      simp only [rBd_v, Option.toList_some, Option.toList_none, List.cons_append, List.nil_append, List.append_nil]
      rw [b_112_55, b_112_103]
    · rw [h2 177 (by decide) (by decide) (by decide) (by decide) (by decide) (by decide) (by decide)]
      exact hS
    · obtain ⟨m2, g1, g2, g3, g4⟩ := act_end (sim_213 (d := d) (k := 1) (a := 0) (b := 0) (c := 0) (by omega) he (Or.inr (Or.inl ⟨rfl, rfl, rfl⟩)) h4) (q' := q') (w' := w') hG hx (mB := m') qZ_refl rfl
      refine ⟨m2, ?_, g2, by rw [g3, h50], g4⟩
      rw [b_263_0, if_neg (show ¬ iI ((1 : Nat) : Int) = iI 0 by decide), if_neg (show ¬ iI ((1 : Nat) : Int) = iI 2 by decide), if_neg (show ¬ iI ((1 : Nat) : Int) = iI 3 by decide), if_neg (show ¬ iI ((1 : Nat) : Int) = iI 4 by decide), b_263_39, if_neg (show ¬ iI ((1 : Nat) : Int) = iI 0 by decide), if_neg (show ¬ iI ((1 : Nat) : Int) = iI 2 by decide), if_neg (show ¬ iI ((1 : Nat) : Int) = iI 4 by decide), b_263_87, if_neg (show ¬ iI ((1 : Nat) : Int) = iI 4 by decide), b_263_107, g1]
      simp only [rBd_v, Option.toList_some, Option.toList_none, List.cons_append, List.nil_append, List.append_nil]
      rw [b_263_110]
  · -- swap
    obtain ⟨S2, hS2⟩ : ∃ S2, S2 = nx (nx S) := ⟨_, rfl⟩
    have v1 := dw_lt (S := S) (k := n) (by omega)
    have v2 := dw_lt (S := nx S) (k := n) (by omega)
    obtain ⟨e, m1, G1, he, h1, h2, h3, h4, h5⟩ := M_swap2 (d := d - 1) (d2 := d - 1) (m := wr m 177 2 S2) (q := q) (w := w) (z := z) (C := m (y + 1)) (by omega) (by omega) f178 (hFA _ (o1 S2)) (a := dw S n) (b := dw (nx S) n) v1 v2
    refine ⟨m1, G1, S2, ?_, qC_qY (o1 S2) h2, ?_, h3, by rw [o1 S2 178 (by decide)] at h5; exact h5, fun m' q' w' hG hx h50 => ?_⟩
    · rw [show iI ((2 : Nat) : Int) = iI 2 from rfl, b_112_6_2 hy.1, b_112_59, e_110 (by omega) _ rfl, b_110_0, hF.1.1, T_108 (by omega) (by omega) (by omega), hS]
      simp only [rBd_v, Option.toList_some, Option.toList_none, List.cons_append, List.nil_append, List.append_nil]
      rw [b_110_11, h0n _ (o1 _), T_108 (by omega) (by omega) (by omega), s1, ww, ← hS2]
      simp only [rBd_v, Option.toList_some, Option.toList_none, List.cons_append, List.nil_append, List.append_nil]
      rw [b_110_23, h1]
      simp only [rBd_v, Option.toList_some, Option.toList_none, List.cons_append, List.nil_append, List.append_nil]
      rw [b_110_33]
      simp only [rBd_v, Option.toList_some, Option.toList_none, List.cons_append, List.nil_append, List.append_nil]
      rw [b_112_63, b_112_103]
    · rw [h2 177 (by decide) (by decide) (by decide) (by decide) (by decide) (by decide) (by decide), s1]
    · obtain ⟨m2, g1, g2, g3, g4⟩ := act_end (sim_213 (d := d) (k := 2) (a := ((dw S n : Nat) : Int)) (b := ((dw (nx S) n : Nat) : Int)) (c := 0) (by omega) he (Or.inr (Or.inr (Or.inl ⟨rfl, rfl, rfl⟩))) h4) (q' := q') (w' := w') hG hx (mB := wr m' 363 50 S2) qZ_50 (wr_o _ _ _ _ (by decide))
      refine ⟨m2, ?_, g2, by rw [g3, wr_s], g4⟩
      rw [b_263_0, if_neg (show ¬ iI ((2 : Nat) : Int) = iI 0 by decide), if_pos (show iI ((2 : Nat) : Int) = iI 2 from rfl), b_263_27, hx.1, V_262 (by omega) (by omega) (by omega), h50]
      simp only [rBd_v, Option.toList_some, Option.toList_none, List.cons_append, List.nil_append, List.append_nil]
      rw [b_263_35, b_263_39, if_neg (show ¬ iI ((2 : Nat) : Int) = iI 0 by decide), if_pos (show iI ((2 : Nat) : Int) = iI 2 from rfl), wr_b _ _ _ _ (by decide), hx.1, V_262 (by omega) (by omega) (by omega), wr_s, ww, ← hS2]
      simp only [rBd_v, Option.toList_some, Option.toList_none, List.cons_append, List.nil_append, List.append_nil]
      rw [b_263_70, b_263_87, if_neg (show ¬ iI ((2 : Nat) : Int) = iI 4 by decide), b_263_107, g1]
      simp only [rBd_v, Option.toList_some, Option.toList_none, List.cons_append, List.nil_append, List.append_nil]
      rw [b_263_110]
  · -- turn
    obtain ⟨S2, hS2⟩ : ∃ S2, S2 = nx S := ⟨_, rfl⟩
    have v1 := dw_lt (S := S) (k := n) (by omega)
    obtain ⟨e, m1, G1, he, h1, h2, h3, h4, h5⟩ := M_turn2 (d := d) (d2 := d - 1) (m := wr m 177 2 S2) (q := q) (w := w) (z := z) (C := m (y + 1)) (by omega) (by omega) f178 (hFA _ (o1 S2)) (a := dw S n) v1
    refine ⟨m1, G1, S2, ?_, qC_qY (o1 S2) h2, ?_, h3, by rw [o1 S2 178 (by decide)] at h5; exact h5, fun m' q' w' hG hx h50 => ?_⟩
    · rw [show iI ((3 : Nat) : Int) = iI 3 from rfl, b_112_6_3 hy.1, b_112_66, hF.1.1, T_108 (by omega) (by omega) (by omega), hS, ← hS2]
      simp only [rBd_v, Option.toList_some, Option.toList_none, List.cons_append, List.nil_append, List.append_nil]
      rw [b_112_81, h1]
      simp only [rBd_v, Option.toList_some, Option.toList_none, List.cons_append, List.nil_append, List.append_nil]
      rw [b_112_84, b_112_103]
    · rw [h2 177 (by decide) (by decide) (by decide) (by decide) (by decide) (by decide) (by decide), s1]
    · obtain ⟨m2, g1, g2, g3, g4⟩ := act_end (sim_213 (d := d) (k := 3) (a := ((dw S n : Nat) : Int)) (b := 0) (c := 0) (by omega) he (Or.inr (Or.inr (Or.inr (Or.inl ⟨rfl, rfl, rfl⟩)))) h4) (q' := q') (w' := w') hG hx (mB := wr m' 363 50 S2) qZ_50 (wr_o _ _ _ _ (by decide))
      refine ⟨m2, ?_, g2, by rw [g3, wr_s], g4⟩
      rw [b_263_0, if_neg (show ¬ iI ((3 : Nat) : Int) = iI 0 by decide), if_neg (show ¬ iI ((3 : Nat) : Int) = iI 2 by decide), if_pos (show iI ((3 : Nat) : Int) = iI 3 from rfl), b_263_27, hx.1, V_262 (by omega) (by omega) (by omega), h50, ← hS2]
      simp only [rBd_v, Option.toList_some, Option.toList_none, List.cons_append, List.nil_append, List.append_nil]
      rw [b_263_35, b_263_39, if_neg (show ¬ iI ((3 : Nat) : Int) = iI 0 by decide), if_neg (show ¬ iI ((3 : Nat) : Int) = iI 2 by decide), if_neg (show ¬ iI ((3 : Nat) : Int) = iI 4 by decide), b_263_87, if_neg (show ¬ iI ((3 : Nat) : Int) = iI 4 by decide), b_263_107, g1]
      simp only [rBd_v, Option.toList_some, Option.toList_none, List.cons_append, List.nil_append, List.append_nil]
      rw [b_263_110]
  · -- paint
    obtain ⟨S2, hS2⟩ : ∃ S2, S2 = nx (nx (nx S)) := ⟨_, rfl⟩
    have v1 := dw_lt (S := S) (k := n) (by omega)
    have v2 := dw_lt (S := nx S) (k := 4) (by decide)
    have v3 := dw_lt (S := nx (nx S)) (k := 16) (by decide)
    obtain ⟨e, m1, G1, he, h1, h2, h3, h4, h5⟩ := M_paint2 (d := d - 1) (d2 := d - 1) (m := wr m 177 2 S2) (q := q) (w := w) (z := z) (C := m (y + 1)) (by omega) (by omega) f178 (hFA _ (o1 S2)) (a := dw S n) (h := dw (nx S) 4) (c := dw (nx (nx S)) 16) v1 v2 v3
    refine ⟨m1, G1, S2, ?_, qC_qY (o1 S2) h2, ?_, h3, by rw [o1 S2 178 (by decide)] at h5; exact h5, fun m' q' w' hG hx h50 => ?_⟩
    · rw [show iI ((4 : Nat) : Int) = iI 4 from rfl, b_112_6_4 hy.1, b_112_88, e_111 (by omega) _ rfl, b_111_0, hF.1.1, T_108 (by omega) (by omega) (by omega), hS]
      simp only [rBd_v, Option.toList_some, Option.toList_none, List.cons_append, List.nil_append, List.append_nil]
      rw [b_111_11, show iI 4 = iI ((4 : Nat) : Int) from rfl, T_108 (by omega) (by decide) (by decide), s1, ww]
      simp only [rBd_v, Option.toList_some, Option.toList_none, List.cons_append, List.nil_append, List.append_nil]
      rw [b_111_17, show iI 16 = iI ((16 : Nat) : Int) from rfl, T_108 (by omega) (by decide) (by decide), s1, ww, ← hS2]
      simp only [rBd_v, Option.toList_some, Option.toList_none, List.cons_append, List.nil_append, List.append_nil]
      rw [b_111_24, h1]
      simp only [rBd_v, Option.toList_some, Option.toList_none, List.cons_append, List.nil_append, List.append_nil]
      rw [b_111_35]
      simp only [rBd_v, Option.toList_some, Option.toList_none, List.cons_append, List.nil_append, List.append_nil]
      rw [b_112_92, b_112_103]
    · rw [h2 177 (by decide) (by decide) (by decide) (by decide) (by decide) (by decide) (by decide), s1]
    · obtain ⟨m2, g1, g2, g3, g4⟩ := act_end (sim_213 (d := d) (k := 4) (a := ((dw S n : Nat) : Int)) (b := ((dw (nx S) 4 : Nat) : Int)) (c := ((dw (nx (nx S)) 16 : Nat) : Int)) (by omega) he (Or.inr (Or.inr (Or.inr (Or.inr (Or.inl ⟨rfl, rfl, rfl⟩))))) h4) (q' := q') (w' := w') hG hx (mB := wr m' 363 50 S2) qZ_50 (wr_o _ _ _ _ (by decide))
      refine ⟨m2, ?_, g2, by rw [g3, wr_s], g4⟩
      rw [b_263_0, if_neg (show ¬ iI ((4 : Nat) : Int) = iI 0 by decide), if_neg (show ¬ iI ((4 : Nat) : Int) = iI 2 by decide), if_neg (show ¬ iI ((4 : Nat) : Int) = iI 3 by decide), if_pos (show iI ((4 : Nat) : Int) = iI 4 from rfl), b_263_27, hx.1, V_262 (by omega) (by omega) (by omega), h50]
      simp only [rBd_v, Option.toList_some, Option.toList_none, List.cons_append, List.nil_append, List.append_nil]
      rw [b_263_35, b_263_39, if_neg (show ¬ iI ((4 : Nat) : Int) = iI 0 by decide), if_neg (show ¬ iI ((4 : Nat) : Int) = iI 2 by decide), if_pos (show iI ((4 : Nat) : Int) = iI 4 from rfl), show iI 4 = iI ((4 : Nat) : Int) from rfl, V_262 (by omega) (by decide) (by decide), wr_s, ww]
      simp only [rBd_v, Option.toList_some, Option.toList_none, List.cons_append, List.nil_append, List.append_nil]
      rw [b_263_83, b_263_87, if_pos (show iI ((4 : Nat) : Int) = iI 4 from rfl), show iI 16 = iI ((16 : Nat) : Int) from rfl, V_262 (by omega) (by decide) (by decide), wr_s, ww, ← hS2]
      simp only [rBd_v, Option.toList_some, Option.toList_none, List.cons_append, List.nil_append, List.append_nil]
      rw [b_263_103, b_263_107, g1]
      simp only [rBd_v, Option.toList_some, Option.toList_none, List.cons_append, List.nil_append, List.append_nil]
      rw [b_263_110]
  · -- oil
    obtain ⟨e, m1, G1, he, h1, h2, h3, h4, h5⟩ := M_oil2 (d := d) (d2 := d - 1) (m := m) (q := q) (w := w) (z := z) (C := m (y + 1)) (by omega) (by omega) f178 hF
    refine ⟨m1, G1, S, ?_, qC_qY (fun _ _ => rfl) h2, ?_, h3, h5, fun m' q' w' hG hx h50 => ?_⟩
    · rw [b_112_6_d hy.1 (by decide) (by decide), b_112_95, h1]
      simp only [rBd_v, Option.toList_some, Option.toList_none, List.cons_append, List.nil_append, List.append_nil]
      rw [b_112_102, b_112_103]
    · rw [h2 177 (by decide) (by decide) (by decide) (by decide) (by decide) (by decide) (by decide)]
      exact hS
    · obtain ⟨m2, g1, g2, g3, g4⟩ := act_end (sim_213 (d := d) (k := 5) (a := 0) (b := 0) (c := 0) (by omega) he (Or.inr (Or.inr (Or.inr (Or.inr (Or.inr ⟨rfl, rfl, rfl⟩))))) h4) (q' := q') (w' := w') hG hx (mB := m') qZ_refl rfl
      refine ⟨m2, ?_, g2, by rw [g3, h50], g4⟩
      rw [b_263_0, if_neg (show ¬ iI ((5 : Nat) : Int) = iI 0 by decide), if_neg (show ¬ iI ((5 : Nat) : Int) = iI 2 by decide), if_neg (show ¬ iI ((5 : Nat) : Int) = iI 3 by decide), if_neg (show ¬ iI ((5 : Nat) : Int) = iI 4 by decide), b_263_39, if_neg (show ¬ iI ((5 : Nat) : Int) = iI 0 by decide), if_neg (show ¬ iI ((5 : Nat) : Int) = iI 2 by decide), if_neg (show ¬ iI ((5 : Nat) : Int) = iI 4 by decide), b_263_87, if_neg (show ¬ iI ((5 : Nat) : Int) = iI 4 by decide), b_263_107, g1]
      simp only [rBd_v, Option.toList_some, Option.toList_none, List.cons_append, List.nil_append, List.append_nil]
      rw [b_263_110]
end S
