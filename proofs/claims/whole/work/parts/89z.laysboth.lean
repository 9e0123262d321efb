/-! ===== the calls lays and both, alike ===== -/
section Q
variable {m m1 M : Nat → Nat → Int} {q : Nat → Nat → Option Nat} {w : Option (Nat → Int64)}
theorem RR_pics (hR : RR m q) : ∃ p z p2 z2 : Nat, q 181 0 = some p ∧ iPic p ∧ z ≤ 7 ∧ m p 1 = z ∧ m 381 0 = z ∧ rP z (m (p + 1)) (m 380) ∧ q 181 1 = some p2 ∧ iPic p2 ∧ z2 ≤ 7 ∧ m p2 1 = z2 ∧ m 381 1 = z2 ∧ rP z2 (m (p2 + 1)) (fun i => m 380 (7 + i)) := by
  obtain ⟨-, -, -, ⟨p0, p1, p2, p3, p4, p5, p6, p7, p8, -, -, -, ⟨z0, pc1, pc2, pc3, pc4⟩, ⟨z1, pd1, pd2, pd3, pd4⟩⟩, -⟩ := hR
  refine ⟨p0, z0, p1, z1, p3, p6, pc1, pc2, pc3, fun i hi => ?_, p4, p7, pd1, pd2, pd3, pd4⟩
  have h := pc4 i hi
  simp only [Nat.mul_zero, Nat.zero_add] at h
  exact h
theorem bg_0 {n : Nat} : bgW m n 164 1 = n := by
  unfold bgW
  rw [row_o _ _ _ (by decide), wr_s]
theorem bg_o {n a : Nat} (h : a ≠ 164) (h2 : a ≠ 165) (h3 : a ≠ 166) (h4 : a ≠ 167) (h5 : a ≠ 168) : bgW m n a = m a := by
  unfold bgW
  rw [row_o _ _ _ h5, wr_o _ _ _ _ h, bc_o m h2 h3 h4]
theorem bg_f {n a : Nat} (h : a ≠ 164) (h5 : a ≠ 168) : bgW m n a = bc m 165 108 a := by
  unfold bgW
  rw [row_o _ _ _ h5, wr_o _ _ _ _ h]
theorem bg_a {n j : Nat} (h : j < 49) : bgW m n 168 j = 3 := by
  unfold bgW
  rw [row_s, if_pos h]
theorem alw_lt {C P : Nat → Int} {n z v t s : Nat} : alw C n z P v t s < 4 := ft_lt
theorem alw_c {C D P R : Nat → Int} {n z v t s : Nat} (hs : s < 7) (hv : v < 4) (hC : ∀ j, j < 28 → C j = D j) (hP : P = R) : alw C n z P v t s = alw D n z R v t s := by
  unfold alw
  rw [hP]
  exact ft_congr (hC _ (by omega)) (hC _ (by omega))
theorem ov_i {a : Nat} {P Q : Prop} {ov v : Nat} (h0 : bt a 0 = 1 ↔ P) (h1 : bt a 1 = 1 ↔ Q) (hov : ov < 2) : bt a ov = 1 ↔ (if ov = 1 then Q else P) := by
  rcases (show ov = 0 ∨ ov = 1 by omega) with rfl | rfl
  · rw [if_neg (by decide)]
    exact h0
  · rw [if_pos rfl]
    exact h1
theorem al_ml {n r Q : Nat} {A B C G : Nat → Int} (hF : fnR n r Q A B C G) {z : Nat} {P R : Nat → Int} (hP : rP z P R) {v t s ov : Nat} (hv : v < 4) (ht : t < n) (hs : s < n) (hov : ov < 2) : bt (alw C n z P v t s) ov = 1 ↔ mlX (wa z R (pl n v t)) (G (4 * s + if ov = 1 then 3 - v else v)) := by
  have hw := wa_eq hP (pl_in (v := v) ht).1
  have hc := hF.2.2.2.2.2.2.2.2.2
  have hb := ft_bt (C := C) (s := s) (h := v) (z := wa z P (pl n v t))
  unfold alw
  rw [← hw.1]
  rcases (show ov = 0 ∨ ov = 1 by omega) with rfl | rfl
  · rw [hb.1, (hc (4 * s + v) (by omega)).1, if_neg (by decide)]
  · rw [hb.2, (hc (4 * s + (3 - v)) (by omega)).1, if_pos rfl]
/-- the reference stands at its row and both pictures -/
def xMs (M : Nat → Nat → Int) (n z z2 : Nat) (G P P2 : Nat → Int) : Prop := M 363 15 = n ∧ n ≤ 7 ∧ M 381 0 = z ∧ z ≤ 7 ∧ M 381 1 = z2 ∧ z2 ≤ 7 ∧ rP z P (M 380) ∧ rP z2 P2 (fun i => M 380 (7 + i)) ∧ ∀ j, j < 48 → M 377 j = G j
theorem hML_1 {d n r Q z z2 : Nat} (hd : 3 ≤ d) {A B C G P P2 : Nat → Int} (hF : fnR n r Q A B C G) (hx : xMs M n z z2 G P P2) {v : Nat} (hv : v < 4) : hML d n (fun t s => alw C n z P v t s) v (-1) M q w := by
  obtain ⟨h15, hn7, hz, hz7, hz2, hz27, hP, hP2, hG⟩ := hx
  intro m1 hm t s ov ht hs hov
  have hc := hF.2.2.2.2.2.2.2.2
  rw [V_238 (n := n) (z := z) (z2 := z2) hd hn7 hs hov ht hv (Or.inl rfl) (by rw [hm 363 (by decide) (by decide) (by decide)]; exact h15) (by rw [hm 381 (by decide) (by decide) (by decide)]; exact hz) hz7 (by rw [hm 381 (by decide) (by decide) (by decide)]; exact hz2) hz27 (fun i hi => by rw [hm 380 (by decide) (by decide) (by decide)]; have := hP i hi; omega) (fun i hi => by
    rw [hm 380 (by decide) (by decide) (by decide)]
    have h1 := (hP2 i hi).1
    have h2 := (hP2 i hi).2
    have h1 : P2 i = M 380 (7 + i) := h1
    omega) (fun i hi => by
    rw [hm 377 (by decide) (by decide) (by decide), hG i (by omega)]
    have h1 := hc.1 i (by omega)
    have h2 := hc.2 i hi
    omega)]
  refine congrArg (fun y => vI y (mk m1 q w)) (zb_iff ?_)
  rw [hm 380 (by decide) (by decide) (by decide), hm 377 (by decide) (by decide) (by decide), hG _ (by split <;> omega), al_ml hF hP hv ht hs hov]
  exact ⟨fun y => y.1, fun y => ⟨y, Or.inl rfl⟩⟩
theorem hML_2 {d n r Q z z2 : Nat} (hd : 3 ≤ d) {A B C G P P2 : Nat → Int} (hF : fnR n r Q A B C G) (hx : xMs M n z z2 G P P2) {v u : Nat} (hv : v < 4) (hu : u < 4) : hML d n (fun t s => alw C n z P v t s &&& alw C n z2 P2 u t s) v (u : Int) M q w := by
  obtain ⟨h15, hn7, hz, hz7, hz2, hz27, hP, hP2, hG⟩ := hx
  intro m1 hm t s ov ht hs hov
  have hc := hF.2.2.2.2.2.2.2.2
  rw [V_238 (n := n) (z := z) (z2 := z2) hd hn7 hs hov ht hv (by omega) (by rw [hm 363 (by decide) (by decide) (by decide)]; exact h15) (by rw [hm 381 (by decide) (by decide) (by decide)]; exact hz) hz7 (by rw [hm 381 (by decide) (by decide) (by decide)]; exact hz2) hz27 (fun i hi => by rw [hm 380 (by decide) (by decide) (by decide)]; have := hP i hi; omega) (fun i hi => by
    rw [hm 380 (by decide) (by decide) (by decide)]
    have h1 := (hP2 i hi).1
    have h2 := (hP2 i hi).2
    have h1 : P2 i = M 380 (7 + i) := h1
    omega) (fun i hi => by
    rw [hm 377 (by decide) (by decide) (by decide), hG i (by omega)]
    have h1 := hc.1 i (by omega)
    have h2 := hc.2 i hi
    omega)]
  refine congrArg (fun y => vI y (mk m1 q w)) (zb_iff ?_)
  rw [hm 380 (by decide) (by decide) (by decide), hm 377 (by decide) (by decide) (by decide), hG _ (by split <;> omega), Int.toNat_natCast, hG _ (by split <;> omega)]
  show _ ↔ bt (alw C n z P v t s &&& alw C n z2 P2 u t s) ov = 1
  rw [(and_bt _ alw_lt _ alw_lt).2 ov hov]
  refine Iff.trans ?_ (and_congr (al_ml hF hP hv ht hs hov) (al_ml hF hP2 hu ht hs hov)).symm
  exact ⟨fun y => ⟨y.1, y.2.resolve_left (by omega)⟩, fun y => ⟨y.1, Or.inr y.2⟩⟩
theorem xM_tk {n r o p z p2 z2 : Nat} (h15 : m 363 15 = n) (hn7 : n ≤ 7) (hz7 : z ≤ 7) (hz : m 381 0 = z) (hP : rP z (m (p + 1)) (m 380)) (hz27 : z2 ≤ 7) (hz2 : m 381 1 = z2) (hP2 : rP z2 (m (p2 + 1)) (fun i => m 380 (7 + i))) (h1 : ∀ e, 363 ≤ e → m1 e = m e) : xMs (tk m1) n z z2 (m 376) (m (p + 1)) (m (p2 + 1)) := by
  unfold xMs
  rw [tk_b (by decide), tk_o (show 381 ≠ 363 by decide) (by decide), tk_o (show 380 ≠ 363 by decide) (by decide), h1 363 (by decide), h1 380 (by decide), h1 381 (by decide)]
  exact ⟨h15, hn7, hz, hz7, hz2, hz27, hP, hP2, fun j hj => by rw [tk_r hj, h1 376 (by decide)]⟩
end Q
section S
variable {d n : Nat} {m : Nat → Nat → Int} {q : Nat → Nat → Option Nat} {w : Option (Nat → Int64)}
/-- the first narrowing -/
theorem W_1 (hd : 7 ≤ d) {p z v : Nat} (hn0 : m 108 0 = n) (hn7 : n ≤ 7) (hp : iPic p) (hz : m p 1 = z) (hz7 : z ≤ 7) (hP : ∀ i, i < z → 0 ≤ m (p + 1) i ∧ m (p + 1) i ≤ 16) (hC : ∀ i, i < 28 → i32 (m 110 i)) (hv : v < 4) : ∃ A : Nat → Int,
    ev d 90 [.ref 164, .int (iI v), .ref p] (mk (bgW m n) q w) = (if z ≤ n then vI 1 (mk (row (bgW m n) 168 A) q w) else vI 0 (mk (bgW m n) q w)) ∧
    (z ≤ n → ∀ t s, t < n → s < n → A (7 * t + s) = ((alw (m 110) n z (m (p + 1)) v t s : Nat) : Int)) := by
  have hpr := pic_three hp
  have e7 : ∀ j, j < 28 → bgW m n 167 j = m 110 j := fun j hj => by rw [bg_f (by decide) (by decide)]; exact bc_2 m hj
  have ep : bgW m n (p + 1) = m (p + 1) := bg_o (by omega) (by omega) (by omega) (by omega) (by omega)
  obtain ⟨A, h1, h2⟩ := T_90 (d := d) (m := bgW m n) (q := q) (w := w) (n := n) (p := p) (z := z) hd hp bg_0 (by rw [bg_f (by decide) (by decide)]; exact (bc_0 m (by decide)).trans hn0) hn7 (by rw [bg_o (by omega) (by omega) (by omega) (by omega) (by omega)]; exact hz) hz7 (by rw [ep]; exact hP) (fun i hi => by rw [e7 i hi]; exact hC i hi) hv (al := fun _ _ => 3) (fun t s ht hs => ⟨bg_a (by omega), by decide⟩)
  refine ⟨A, h1, fun hzn t s ht hs => ?_⟩
  rw [h2 hzn t s ht hs, (and_3 _ alw_lt).1, ep, alw_c (by omega) hv e7 rfl]
/-- what countLays leaves -/
def cntR (m m1 : Nat → Nat → Int) (n z v : Nat) (P : Nat → Int) : Prop := (∀ a, a < 164 ∨ 169 < a → m1 a = m a) ∧ (m1 165 = bc m 165 108 165 ∧ m1 166 = bc m 165 108 166) ∧ (z ≤ n → m1 164 1 = n ∧ (∀ t s, t < n → s < n → m1 168 (7 * t + s) = ((alw (m 110) n z P v t s : Nat) : Int)))
theorem T_135 (hd : 14 ≤ d) {p z v : Nat} (hn0 : m 108 0 = n) (hn7 : n ≤ 7) (hq : q 181 0 = some p) (hp : iPic p) (hz : m p 1 = z) (hz7 : z ≤ 7) (hP : ∀ i, i < z → 0 ≤ m (p + 1) i ∧ m (p + 1) i ≤ 16) (hC : ∀ i, i < 28 → i32 (m 110 i)) (hv : v < 4) : ∃ m1 : Nat → Nat → Int,
    ev d 135 [.ref 100, .int (iI v)] (mk m q w) = vI (if z ≤ n then wW (fun t s => alw (m 110) n z (m (p + 1)) v t s) n (2 ^ n - 1) else 0) (mk m1 q w) ∧ cntR m m1 n z v (m (p + 1)) ∧ (z ≤ n → ∀ y, y < 2 ^ n → m1 169 y = wW (fun t s => alw (m 110) n z (m (p + 1)) v t s) n (2 ^ n - 1 - y)) := by
  obtain ⟨A, h1, h2⟩ := W_1 (d := d - 1) (m := m) (q := q) (w := w) (n := n) (v := v) (by omega) hn0 hn7 hp hz hz7 hP hC hv
  have hb : ∀ R : Nat → Int, (fun a : Nat => a) = (fun a : Nat => a) := fun _ => rfl
  by_cases c : z ≤ n
  · have h3 := h2 c
    obtain ⟨R, h4, h5⟩ := T_92 (d := d - 1) (m := row (bgW m n) 168 A) (q := q) (w := w) (n := n) (al := fun t s => alw (m 110) n z (m (p + 1)) v t s) (by omega) (by rw [row_o _ _ _ (by decide)]; exact bg_0) hn7 (fun t s ht hs => by rw [row_s]; exact ⟨h3 t s ht hs, alw_lt⟩)
    refine ⟨row (row (bgW m n) 168 A) 169 R, ?_, ⟨fun a ha => ?_, ⟨?_, ?_⟩, fun _ => ⟨?_, fun t s ht hs => ?_⟩⟩, fun _ y hy => ?_⟩
    · rw [e_135 (by omega) _ rfl rfl, b_135_0, T_88 (by omega) hn0]
      simp only [rBd_v, Option.toList_some, Option.toList_none, List.cons_append, List.nil_append, List.append_nil]
      rw [b_135_14, hq]
      refine Eq.trans (b_135_25 hp) ?_
      rw [h1, if_pos c]
      simp only [rBd_v, Option.toList_some, Option.toList_none, List.cons_append, List.nil_append, List.append_nil]
      rw [b_135_28, if_neg (by decide), h4]
      simp only [rBd_v, Option.toList_some, Option.toList_none, List.cons_append, List.nil_append, List.append_nil]
      rw [b_135_38, b_135_42, if_pos c]
    · rw [row_o _ _ _ (by omega), row_o _ _ _ (by omega), bg_o (by omega) (by omega) (by omega) (by omega) (by omega)]
    · rw [row_o _ _ _ (by decide), row_o _ _ _ (by decide), bg_f (by decide) (by decide)]
    · rw [row_o _ _ _ (by decide), row_o _ _ _ (by decide), bg_f (by decide) (by decide)]
    · rw [row_o _ _ _ (by decide), row_o _ _ _ (by decide)]
      exact bg_0
    · rw [row_o _ _ _ (by decide), row_s]
      exact h3 t s ht hs
    · rw [row_s]
      exact h5 y hy
  · refine ⟨bgW m n, ?_, ⟨fun a ha => bg_o (by omega) (by omega) (by omega) (by omega) (by omega), ⟨bg_f (by decide) (by decide), bg_f (by decide) (by decide)⟩, fun h => absurd h c⟩, fun h => absurd h c⟩
    rw [e_135 (by omega) _ rfl rfl, b_135_0, T_88 (by omega) hn0]
    simp only [rBd_v, Option.toList_some, Option.toList_none, List.cons_append, List.nil_append, List.append_nil]
    rw [b_135_14, hq]
    refine Eq.trans (b_135_25 hp) ?_
    rw [h1, if_neg c]
    simp only [rBd_v, Option.toList_some, Option.toList_none, List.cons_append, List.nil_append, List.append_nil]
    rw [b_135_28, if_pos rfl, b_135_42, if_neg c]
theorem cnt_qs {m1 : Nat → Nat → Int} {P : Nat → Int} {z v : Nat} (h : cntR m m1 n z v P) : qs m m1 := ⟨fun a h1 h2 => h.1 a (by unfold scr at h1; omega), fun j _ => by rw [h.1 363 (by omega)]⟩
/-- and what the reference's laysWays leaves -/
theorem X_239 (hd : 5 ≤ d) {r Q z z2 : Nat} {A B C G P P2 : Nat → Int} (hF : fnR n r Q A B C G) (hx : xMs m n z z2 G P P2) {v : Nat} (hv : v < 4) : ∃ R : Nat → Int, ev d 239 [.ref 363, .int (iI v), .int (iI (-1))] (mk m q w) = vI (if z ≤ n then wW (fun t s => alw C n z P v t s) n (2 ^ n - 1) else 0) (mk (row m 384 R) q w) ∧ (z ≤ n → ∀ y, y < 2 ^ n → R y = wW (fun t s => alw C n z P v t s) n y) := by
  obtain ⟨h15, hn7, hz, hz7, hz2, hz27, hP, hP2, hG⟩ := id hx
  by_cases c : z ≤ n
  · obtain ⟨R, h1, h2⟩ := V_239 (d := d) (m := m) (q := q) (w := w) (by omega) hn7 h15 hz hz7 hz2 hz27 (v := v) (ot := -1) (Or.inl rfl) (hML_1 (by omega) hF hx hv) (fun _ _ _ _ => alw_lt) ⟨c, Or.inl rfl⟩
    exact ⟨R, by rw [if_pos c]; exact h1, fun _ => h2⟩
  · obtain ⟨R, h1⟩ := V_239z (d := d) (m := m) (q := q) (w := w) (by omega) hn7 h15 hz hz7 hz2 hz27 (v := v) (ot := -1) (Or.inl rfl) (fun y => c y.1)
    exact ⟨R, by rw [if_neg c]; exact h1, fun h => absurd h c⟩
theorem row_qs {x : Nat} {f : Nat → Int} (h : scr x) (h2 : x ≠ 363) (h3 : x ≠ 101) : qs m (row m x f) := ⟨fun a h1 _ => row_o _ _ _ (fun e => h1 (e ▸ h)), fun j _ => by rw [row_o _ _ _ (Ne.symm h2)]⟩
theorem K_lays {a : Int} (ha : i32 a) : cTH 136 240 [.int (iI a)] 1 := by
  intro m q w hR d hd
  obtain ⟨n, r, o, hF, k15, k16, hn7, hfk, hfl, hCi, ho, hbt⟩ := RR_fan hR
  obtain ⟨p, z, p2, z2, p1, p3, hz7, p4, p5, hP, i1, i2, i3, i4, i5, i6⟩ := RR_pics hR
  by_cases h : 0 ≤ a ∧ a ≤ 3
  · obtain ⟨v, rfl⟩ : ∃ v : Nat, a = v := ⟨a.toNat, by omega⟩
    obtain ⟨m1, h1, h2, h3⟩ := T_135 (d := d - 1) (m := m) (q := q) (w := w) (n := n) (v := v) (by omega) hfk.1 hn7 p1 p3 p4 hz7 (fun i hi => (hP i hi).2) hCi (by omega)
    have hRm := RR_s (cnt_qs h2) (gS_o (h2.1 161 (by omega)) (h2.1 163 (by omega)) hR.2.2.2.2.2.2) hR
    have hx := xM_tk (o := o) (r := r) k15 hn7 hz7 p5 hP i3 i5 i6 (m1 := m1) (fun e he => h2.1 e (by omega))
    obtain ⟨R, h4, h5⟩ := X_239 (d := d - 1) (m := tk m1) (q := q) (w := w) (by omega) hF hx (v := v) (by omega)
    refine q_in (V := if z ≤ n then wW (fun t s => alw (m 110) n z (m (p + 1)) v t s) n (2 ^ n - 1) else 0) (m1 := m1) (m2 := row (tk m1) 384 R) ?_ ?_ (by rw [row_o _ _ _ (by decide)]; exact tk_0) (RR_s (row_qs (by unfold scr; omega) (by decide) (by decide)) (gS_o (row_o _ _ _ (by decide)) (row_o _ _ _ (by decide)) (tk_RR hRm).2.2.2.2.2.2) (tk_RR hRm))
    · rw [e_136 (by omega) _ rfl rfl, b_136_0, T_128 (by omega) ha]
      simp only [rBd_v, Option.toList_some, Option.toList_none, List.cons_append, List.nil_append, List.append_nil]
      rw [b_136_5, T_116 (by omega), zb_t h, if_neg (by decide)]
      simp only [rBd_v, Option.toList_some, Option.toList_none, List.cons_append, List.nil_append, List.append_nil]
      rw [b_136_8, h1]
      simp only [rBd_v, Option.toList_some, Option.toList_none, List.cons_append, List.nil_append, List.append_nil]
      rw [b_136_13]
    · rw [e_240 (by omega) _ rfl rfl, b_240_0, V_224 (by omega) ha]
      simp only [rBd_v, Option.toList_some, Option.toList_none, List.cons_append, List.nil_append, List.append_nil]
      rw [b_240_10, V_160 (by omega) (Or.inr rfl) (by omega) (by decide) (wr_s _ _ _ _), if_pos h]
      simp only [rBd_v, Option.toList_some, Option.toList_none, List.cons_append, List.nil_append, List.append_nil]
      rw [b_240_15, if_neg (by decide), V_200 (by omega)]
      simp only [rBd_v, Option.toList_some, Option.toList_none, List.cons_append, List.nil_append, List.append_nil]
      rw [show cp (wr m1 363 0 0) 376 377 48 = tk m1 from rfl, b_240_24, h4]
      simp only [rBd_v, Option.toList_some, Option.toList_none, List.cons_append, List.nil_append, List.append_nil]
      rw [b_240_30]
  · refine q_no hR ?_ ?_
    · rw [e_136 (by omega) _ rfl rfl, b_136_0, T_128 (by omega) ha]
      simp only [rBd_v, Option.toList_some, Option.toList_none, List.cons_append, List.nil_append, List.append_nil]
      rw [b_136_5, T_116 (by omega), zb_f h, if_pos rfl]
      rfl
    · rw [e_240 (by omega) _ rfl rfl, b_240_0, V_224 (by omega) ha]
      simp only [rBd_v, Option.toList_some, Option.toList_none, List.cons_append, List.nil_append, List.append_nil]
      rw [b_240_10, V_160 (by omega) (Or.inr rfl) (by omega) (by decide) (wr_s _ _ _ _), if_neg h]
      simp only [rBd_v, Option.toList_some, Option.toList_none, List.cons_append, List.nil_append, List.append_nil]
      rw [b_240_15, if_pos rfl]
      rfl
theorem K_both {a b : Int} (ha : i32 a) (hb : i32 b) : cTH 138 242 [.int (iI a), .int (iI b)] 1 := by
  intro m q w hR d hd
  obtain ⟨n, r, o, hF, k15, k16, hn7, hfk, hfl, hCi, ho, hbt⟩ := RR_fan hR
  obtain ⟨p, z, p2, z2, p1, p3, hz7, p4, p5, hP, i1, i2, i3, i4, i5, i6⟩ := RR_pics hR
  have hpr2 := pic_three i2
  have hcl : ∀ m1 : Nat → Nat → Int, (∀ e, e < 164 ∨ 169 < e → m1 e = m e) → RR m1 q := fun m1 h => RR_s ⟨fun e h1 h2 => h e (by unfold scr at h1; omega), fun j _ => by rw [h 363 (by omega)]⟩ (gS_o (h 161 (by omega)) (h 163 (by omega)) hR.2.2.2.2.2.2) hR
  by_cases h : (0 ≤ a ∧ a ≤ 3) ∧ (0 ≤ b ∧ b ≤ 3)
  · obtain ⟨v, rfl⟩ : ∃ v : Nat, a = v := ⟨a.toNat, by omega⟩
    obtain ⟨u, rfl⟩ : ∃ u : Nat, b = u := ⟨b.toNat, by omega⟩
    obtain ⟨A, h1, h2⟩ := W_1 (d := d - 1) (m := m) (q := q) (w := w) (n := n) (v := v) (by omega) hfk.1 hn7 p3 p4 hz7 (fun i hi => (hP i hi).2) hCi (by omega)
    have hC23 : ev d 138 [.ref 100, .int (iI (v : Int)), .int (iI (u : Int))] (mk m q w) = rBd (if z ≤ n then vI 1 (mk (row (bgW m n) 168 A) q w) else vI 0 (mk (bgW m n) q w)) (fun x M' => gv (d - 1) rR138 51 [some (.ref 100), some (.int (iI (v : Int))), some (.int (iI (u : Int)))] (x.toList ++ []) M') := by
      rw [e_138 (by omega) _ rfl rfl rfl, b_138_0, T_128 (by omega) ha]
      simp only [rBd_v, Option.toList_some, Option.toList_none, List.cons_append, List.nil_append, List.append_nil]
      rw [b_138_5]
      simp only [zb_0]
      rw [if_neg (not_not_intro h.1), T_128 (by omega) hb]
      simp only [rBd_v, Option.toList_some, Option.toList_none, List.cons_append, List.nil_append, List.append_nil]
      rw [b_138_12]
      simp only [zb_0]
      rw [if_neg (not_not_intro h.2), b_138_20, T_116 (by omega), if_neg (by decide)]
      simp only [rBd_v, Option.toList_some, Option.toList_none, List.cons_append, List.nil_append, List.append_nil]
      rw [b_138_23, T_88 (by omega) hfk.1]
      simp only [rBd_v, Option.toList_some, Option.toList_none, List.cons_append, List.nil_append, List.append_nil]
      rw [b_138_37, p1]
      refine Eq.trans (b_138_48 p3) ?_
      rw [h1]
      simp only [rBd_v, Option.toList_some, Option.toList_none, List.cons_append, List.nil_append, List.append_nil]
    have hX39 : ∀ m1 : Nat → Nat → Int, ev d 242 [.ref 363, .int (iI (v : Int)), .int (iI (u : Int))] (mk m1 q w) = rBd (ev (d - 1) 239 [.ref 363, .int (iI (v : Int)), .int (iI (u : Int))] (mk (tk m1) q w)) (fun x M' => gv (d - 1) rR242 45 [some (.ref 363), some (.int (iI (v : Int))), some (.int (iI (u : Int)))] (x.toList ++ []) M') := by
      intro m1
      rw [e_242 (by omega) _ rfl rfl rfl, b_242_0, V_224 (by omega) ha]
      simp only [rBd_v, Option.toList_some, Option.toList_none, List.cons_append, List.nil_append, List.append_nil]
      rw [b_242_10]
      simp only [zb_0]
      rw [if_neg (not_not_intro h.1), V_224 (by omega) hb]
      simp only [rBd_v, Option.toList_some, Option.toList_none, List.cons_append, List.nil_append, List.append_nil]
      rw [b_242_17]
      simp only [zb_0]
      rw [if_neg (not_not_intro h.2), show iI 1 = iI (zb True) from rfl, b_242_25, V_160 (by omega) (Or.inr rfl) (by omega) (by decide) (wr_s _ _ _ _), if_pos trivial]
      simp only [rBd_v, Option.toList_some, Option.toList_none, List.cons_append, List.nil_append, List.append_nil]
      rw [b_242_30, if_neg (by decide), V_200 (by omega)]
      simp only [rBd_v, Option.toList_some, Option.toList_none, List.cons_append, List.nil_append, List.append_nil]
      rw [b_242_39]
      simp only [List.append_nil]
      rfl
    have hend : ∀ (V : Int) (m1 : Nat → Nat → Int) (R : Nat → Int), (∀ e, e < 164 ∨ 169 < e → m1 e = m e) → ev d 138 [.ref 100, .int (iI (v : Int)), .int (iI (u : Int))] (mk m q w) = vI V (mk m1 q w) → ev (d - 1) 239 [.ref 363, .int (iI (v : Int)), .int (iI (u : Int))] (mk (tk m1) q w) = vI V (mk (row (tk m1) 384 R) q w) → sAl 138 242 [.int (iI (v : Int)), .int (iI (u : Int))] 1 d m q w := by
      intro V m1 R hm hC hX
      have hRm := hcl m1 hm
      refine q_in hC ?_ (by rw [row_o _ _ _ (by decide)]; exact tk_0) (RR_s (row_qs (x := 384) (f := R) (by unfold scr; omega) (by decide) (by decide)) (gS_o (row_o _ _ _ (by decide)) (row_o _ _ _ (by decide)) (tk_RR hRm).2.2.2.2.2.2) (tk_RR hRm))
      rw [hX39, hX]
      simp only [rBd_v, Option.toList_some, Option.toList_none, List.cons_append, List.nil_append, List.append_nil]
      rw [b_242_45]
    have hxt : ∀ m1 : Nat → Nat → Int, (∀ e, e < 164 ∨ 169 < e → m1 e = m e) → xMs (tk m1) n z z2 (m 376) (m (p + 1)) (m (p2 + 1)) := fun m1 hm => xM_tk (o := o) (r := r) k15 hn7 hz7 p5 hP i3 i5 i6 (fun e he => hm e (by omega))
    by_cases c : z ≤ n
    · have h3 := h2 c
      rw [if_pos c] at hC23
      simp only [rBd_v, Option.toList_some, Option.toList_none, List.cons_append, List.nil_append, List.append_nil] at hC23
      obtain ⟨M1, eM1⟩ : ∃ M1, M1 = row (bgW m n) 168 A := ⟨_, rfl⟩
      have M1o : ∀ e, e ≠ 164 → e ≠ 165 → e ≠ 166 → e ≠ 167 → e ≠ 168 → M1 e = m e := fun e a1 a2 a3 a4 a5 => by rw [eM1, row_o _ _ _ a5, bg_o a1 a2 a3 a4 a5]
      have M17 : ∀ j, j < 28 → M1 167 j = m 110 j := fun j hj => by rw [eM1, row_o _ _ _ (by decide), bg_f (by decide) (by decide)]; exact bc_2 m hj
      have M14 : M1 164 1 = n := by rw [eM1, row_o _ _ _ (by decide)]; exact bg_0
      have M15 : M1 165 0 = n := by rw [eM1, row_o _ _ _ (by decide), bg_f (by decide) (by decide)]; exact (bc_0 m (by decide)).trans hfk.1
      have M18 : ∀ t s, t < n → s < n → M1 168 (7 * t + s) = ((alw (m 110) n z (m (p + 1)) v t s : Nat) : Int) ∧ alw (m 110) n z (m (p + 1)) v t s < 4 := fun t s ht hs => ⟨by rw [eM1, row_s]; exact h3 t s ht hs, alw_lt⟩
      have Mp : M1 (p2 + 1) = m (p2 + 1) := M1o _ (by omega) (by omega) (by omega) (by omega) (by omega)
      rw [← eM1] at hC23
      obtain ⟨A2, h4, h5⟩ := T_90 (d := d - 1) (m := M1) (q := q) (w := w) (n := n) (p := p2) (z := z2) (by omega) i2 M14 M15 hn7 (by rw [M1o _ (by omega) (by omega) (by omega) (by omega) (by omega)]; exact i4) i3 (by rw [Mp]; exact fun i hi => (i6 i hi).2) (fun i hi => by rw [M17 i hi]; exact hCi i hi) (show u < 4 by omega) (al := fun t s => alw (m 110) n z (m (p + 1)) v t s) M18
      have hC68 : ev d 138 [.ref 100, .int (iI (v : Int)), .int (iI (u : Int))] (mk m q w) = rBd (if z2 ≤ n then vI 1 (mk (row M1 168 A2) q w) else vI 0 (mk M1 q w)) (fun x M' => gv (d - 1) rR138 68 [some (.ref 100), some (.int (iI (v : Int))), some (.int (iI (u : Int)))] (x.toList ++ []) M') := by
        rw [hC23, b_138_51, if_neg (by decide), i1]
        refine Eq.trans (b_138_65 i2) ?_
        rw [h4]
      by_cases c2 : z2 ≤ n
      · have h6 := h5 c2
        obtain ⟨R, h7, h8⟩ := T_92 (d := d - 1) (m := row M1 168 A2) (q := q) (w := w) (n := n) (al := fun t s => alw (m 110) n z (m (p + 1)) v t s &&& alw (m 110) n z2 (m (p2 + 1)) u t s) (by omega) (by rw [row_o _ _ _ (by decide)]; exact M14) hn7 (fun t s ht hs => by
          rw [row_s]
          refine ⟨?_, (and_bt _ alw_lt _ alw_lt).1⟩
          rw [h6 t s ht hs, Mp, alw_c (C := M1 167) (D := m 110) (by omega) (by omega) M17 rfl])
        have hm3 : ∀ e, e < 164 ∨ 169 < e → row (row M1 168 A2) 169 R e = m e := fun e he => by rw [row_o _ _ _ (by omega), row_o _ _ _ (by omega), M1o _ (by omega) (by omega) (by omega) (by omega) (by omega)]
        have hx := hxt _ hm3
        obtain ⟨R2, h9, -⟩ := V_239 (d := d - 1) (m := tk (row (row M1 168 A2) 169 R)) (q := q) (w := w) (by omega) hn7 hx.1 hx.2.2.1 hz7 hx.2.2.2.2.1 i3 (v := v) (ot := (u : Int)) (by omega) (hML_2 (by omega) hF hx (show v < 4 by omega) (show u < 4 by omega)) (fun _ _ _ _ => (and_bt _ alw_lt _ alw_lt).1) ⟨c, Or.inr c2⟩
        refine hend _ _ R2 hm3 ?_ h9
        rw [hC68, if_pos c2]
        simp only [rBd_v, Option.toList_some, Option.toList_none, List.cons_append, List.nil_append, List.append_nil]
        rw [b_138_68, if_neg (by decide), h7]
        simp only [rBd_v, Option.toList_some, Option.toList_none, List.cons_append, List.nil_append, List.append_nil]
        rw [b_138_80]
      · have hm3 : ∀ e, e < 164 ∨ 169 < e → M1 e = m e := fun e he => M1o _ (by omega) (by omega) (by omega) (by omega) (by omega)
        have hx := hxt _ hm3
        obtain ⟨R2, h9⟩ := V_239z (d := d - 1) (m := tk M1) (q := q) (w := w) (by omega) hn7 hx.1 hx.2.2.1 hz7 hx.2.2.2.2.1 i3 (v := v) (ot := (u : Int)) (by omega) (fun y => y.2.elim (by omega) c2)
        refine hend 0 M1 R2 hm3 ?_ h9
        rw [hC68, if_neg c2]
        simp only [rBd_v, Option.toList_some, Option.toList_none, List.cons_append, List.nil_append, List.append_nil]
        rw [b_138_68, if_pos rfl, b_138_71]
    · have hm3 : ∀ e, e < 164 ∨ 169 < e → bgW m n e = m e := fun e he => bg_o (by omega) (by omega) (by omega) (by omega) (by omega)
      have hx := hxt _ hm3
      obtain ⟨R2, h9⟩ := V_239z (d := d - 1) (m := tk (bgW m n)) (q := q) (w := w) (by omega) hn7 hx.1 hx.2.2.1 hz7 hx.2.2.2.2.1 i3 (v := v) (ot := (u : Int)) (by omega) (fun y => c y.1)
      refine hend 0 (bgW m n) R2 hm3 ?_ h9
      rw [hC23, if_neg c]
      simp only [rBd_v, Option.toList_some, Option.toList_none, List.cons_append, List.nil_append, List.append_nil]
      rw [b_138_51, if_pos rfl, b_138_71]
  · have hEc : gv (d - 1) rR138 19 [some (.ref 100), some (.int (iI a)), some (.int (iI b))] [.ref 100] (mk m q w) = some (.inr 0, (mk (wr m 100 17 (m 100 17 + 1)) q w, (1, 6))) := by
      rw [b_138_19, b_138_20, T_116 (by omega), if_pos rfl]
      rfl
    have hE : ∀ m1 : Nat → Nat → Int, gv (d - 1) rR242 24 [some (.ref 363), some (.int (iI a)), some (.int (iI b))] [.ref 363] (mk (wr m1 363 0 0) q w) = vI 0 (mk (noX m1 1 1) q w) := by
      intro m1
      rw [b_242_24, show iI 0 = iI (zb False) from rfl, b_242_25, V_160 (by omega) (Or.inr rfl) (by omega) (by decide) (wr_s _ _ _ _), if_neg not_false]
      simp only [rBd_v, Option.toList_some, Option.toList_none, List.cons_append, List.nil_append, List.append_nil]
      rw [b_242_30, if_pos rfl]
      rfl
    refine q_no hR ?_ ?_
    · rw [e_138 (by omega) _ rfl rfl rfl, b_138_0, T_128 (by omega) ha]
      simp only [rBd_v, Option.toList_some, Option.toList_none, List.cons_append, List.nil_append, List.append_nil]
      rw [b_138_5]
      simp only [zb_0]
      by_cases c : 0 ≤ a ∧ a ≤ 3
      · rw [if_neg (not_not_intro c), T_128 (by omega) hb]
        simp only [rBd_v, Option.toList_some, Option.toList_none, List.cons_append, List.nil_append, List.append_nil]
        rw [b_138_12]
        simp only [zb_0]
        rw [if_pos (fun y => h ⟨c, y⟩), hEc]
      · rw [if_pos c, hEc]
    · rw [e_242 (by omega) _ rfl rfl rfl, b_242_0, V_224 (by omega) ha]
      simp only [rBd_v, Option.toList_some, Option.toList_none, List.cons_append, List.nil_append, List.append_nil]
      rw [b_242_10]
      simp only [zb_0]
      by_cases c : 0 ≤ a ∧ a ≤ 3
      · rw [if_neg (not_not_intro c), V_224 (by omega) hb]
        simp only [rBd_v, Option.toList_some, Option.toList_none, List.cons_append, List.nil_append, List.append_nil]
        rw [b_242_17]
        simp only [zb_0]
        rw [if_pos (fun y => h ⟨c, y⟩), hE]
      · rw [if_pos c, hE]
end S
