/-! ===== a law is read by both: products, sums ===== -/
section J
variable {T : Nat → Int} {n g : Nat}
theorem seg_pos {C : Nat → Int} {a k : Nat} (h : seg C a k) : True := trivial
theorem C_69 {d x op i : Nat} {C : Nat → Int} {z : Nat} {s : rd} {u : Option Value} {m : Nat → Nat → Int} {q : Nat → Nat → Option Nat} {w : Option (Nat → Int64)} (hd : 2 ≤ d) (hx : iLaw x) (h : onT m T n) (hs : gd n s) (h0 : s.2.1 = 0) (hi : i < 150) : gv d rR69 8 [some (.ref x), some (.ref 101), some (.int (iI op)), some (.int (iI i)), u] [] (mk (tr (lw m x C z) s) q w) =
    if hv T n (skip T n s.1) = 42 then gv d rR69 58 [some (.ref x), some (.ref 101), some (.int (iI op)), some (.int (iI i)), u] [.int (iI (cd 4))] (mk (tr (lw m x C z) (skip T n s.1 + 1, s.2)) q w) else
    if hv T n (skip T n s.1) = 47 then gv d rR69 58 [some (.ref x), some (.ref 101), some (.int (iI op)), some (.int (iI i)), u] [.int (iI (cd 5))] (mk (tr (lw m x C z) (skip T n s.1 + 1, s.2)) q w) else
    if hv T n (skip T n s.1) = 37 then gv d rR69 58 [some (.ref x), some (.ref 101), some (.int (iI op)), some (.int (iI i)), u] [.int (iI (cd 8))] (mk (tr (lw m x C z) (skip T n s.1 + 1, s.2)) q w) else
    vV (mk (tr (lw m x C z) (skip T n s.1, s.2)) q w) := by
  have hO := lw_on m C z hx h
  have hsk := skip_le T hs.1
  obtain ⟨s0, e0⟩ : ∃ s0 : rd, s0 = (skip T n s.1, s.2) := ⟨_, rfl⟩
  have hp : skip T n s.1 = s0.1 := by rw [e0]
  have hs0 : gd n s0 := by rw [e0]; exact ⟨hsk.2, hs.2⟩
  have h00 : s0.2.1 = 0 := by rw [e0]; exact h0
  have hk0 : skip T n s0.1 = s0.1 := by rw [e0]; exact skip_fix T hs.1
  have tk : ∀ (c : Int) (s9 : rd), s9.2 = s.2 → skip T n s9.1 = s0.1 → 0 < c → aTk T n c s9 = if hv T n s0.1 = c then (s0.1 + 1, s0.2) else s0 := by
    intro c s9 e1 e2 hc
    have e9 : s9.2.1 = 0 := by rw [e1]; exact h0
    have hon := hv_on (T := T) (n := n) (p := s0.1) (a := c) (b := c) hc
    have e20 : s9.2 = s0.2 := by rw [e1, e0]
    unfold aTk aN
    by_cases h1 : hv T n s0.1 = c
    · rw [if_pos ⟨e9, by rw [e2]; exact hon.mpr (by omega)⟩, if_pos h1, e2, e20]
    · rw [if_neg (fun z => h1 (by have := z.2; rw [e2] at this; have := hon.mp this; omega)), if_neg h1, if_pos e9, e2, e20]
  have on : ∀ (c : Int) (s9 : rd), s9.2 = s.2 → skip T n s9.1 = s0.1 → 0 < c → (aOn T n c c s9 ↔ hv T n s0.1 = c) := by
    intro c s9 e1 e2 hc
    have e9 : s9.2.1 = 0 := by rw [e1]; exact h0
    have hon := hv_on (T := T) (n := n) (p := s0.1) (a := c) (b := c) hc
    constructor
    · intro z
      have := z.2
      rw [e2] at this
      have := hon.mp this
      omega
    · intro z
      exact ⟨e9, by rw [e2]; exact hon.mpr (by omega)⟩
  have e02 : s0.2 = s.2 := by rw [e0]
  rw [b_69_8 hx, if_pos (by rw [iI_lt (by omega) (by omega)]; omega), hp, ← e02]
  rw [U_8 (by omega) hO hs (by omega : i32 42), tk 42 s rfl hp (by omega)]
  simp only [rBd_v, Option.toList_some, Option.toList_none, List.cons_append, List.nil_append, List.append_nil, b_69_21 hx, zb_0]
  by_cases h1 : hv T n s0.1 = 42
  · rw [if_neg (not_not_intro ((on 42 s rfl hp (by omega)).mpr h1)), if_pos h1, if_pos h1]
    rfl
  · rw [if_pos (fun z => h1 ((on 42 s rfl hp (by omega)).mp z)), if_neg h1, if_neg h1]
    rw [U_8 (by omega) hO hs0 (by omega : i32 47), tk 47 s0 e02 hk0 (by omega)]
    simp only [rBd_v, Option.toList_some, Option.toList_none, List.cons_append, List.nil_append, List.append_nil, b_69_35 hx, zb_0]
    by_cases h2 : hv T n s0.1 = 47
    · rw [if_neg (not_not_intro ((on 47 s0 e02 hk0 (by omega)).mpr h2)), if_pos h2, if_pos h2]
      rfl
    · rw [if_pos (fun z => h2 ((on 47 s0 e02 hk0 (by omega)).mp z)), if_neg h2, if_neg h2]
      rw [U_8 (by omega) hO hs0 (by omega : i32 37), tk 37 s0 e02 hk0 (by omega)]
      simp only [rBd_v, Option.toList_some, Option.toList_none, List.cons_append, List.nil_append, List.append_nil, b_69_49 hx, zb_0]
      by_cases h3 : hv T n s0.1 = 37
      · rw [if_neg (not_not_intro ((on 37 s0 e02 hk0 (by omega)).mpr h3)), if_pos h3, if_pos h3]
        rfl
      · rw [if_pos (fun z => h3 ((on 37 s0 e02 hk0 (by omega)).mp z)), if_neg h3, if_neg h3]
        rw [b_69_58 hx, if_pos rfl]
theorem X_187 {d : Nat} {E F : Nat → Int} {k op : Nat} {xs : rd} {u : Option Value} {m : Nat → Nat → Int} {q : Nat → Nat → Option Nat} {w : Option (Nat → Int64)} (hd : 2 ≤ d) (h : onX m T n) (hs : gx n xs) (h0 : xs.2.1 = -1) : gv d rR187 4 [some (.ref 363), u] [] (mk (mr (lx m E F k op) xs) q w) =
    if hv T n (skip T n xs.1) = 42 then gv d rR187 66 [some (.ref 363), u] [.int (iI 4)] (mk (mr (lx m E F k op) (skip T n xs.1, xs.2)) q w) else
    if hv T n (skip T n xs.1) = 47 then gv d rR187 66 [some (.ref 363), u] [.int (iI 5)] (mk (mr (lx m E F k op) (skip T n xs.1, xs.2)) q w) else
    if hv T n (skip T n xs.1) = 37 then gv d rR187 66 [some (.ref 363), u] [.int (iI 8)] (mk (mr (lx m E F k op) (skip T n xs.1, xs.2)) q w) else
    vV (mk (mr (lx m E F k op) (skip T n xs.1, xs.2)) q w) := by
  have hO := lx_on m E F k op h
  have hsk := skip_le T hs.1
  have hv0 := hv_i T n (skip T n xs.1) h.2.2.2
  have hs0 : gx n (skip T n xs.1, xs.2) := ⟨hsk.2, hs.2⟩
  have hk0 : skip T n (skip T n xs.1) = skip T n xs.1 := skip_fix T hs.1
  have hY : ev d 169 [.ref 363] (mk (mr (lx m E F k op) (skip T n xs.1, xs.2)) q w) = vI (hv T n (skip T n xs.1)) (mk (mr (lx m E F k op) (skip T n xs.1, xs.2)) q w) := by
    rw [V_169 (by omega) hO hs0]
    show vI (hv T n (skip T n (skip T n xs.1))) (mk (mr (lx m E F k op) (skip T n (skip T n xs.1), xs.2)) q w) = _
    rw [hk0]
  rw [b_187_4, V_167 (by omega) hs]
  simp only [rBd_v, Option.toList_some, Option.toList_none, List.cons_append, List.nil_append, List.append_nil, b_187_8, zb_0]
  rw [if_neg (not_not_intro h0), V_169 (by omega) hO hs]
  generalize hv T n (skip T n xs.1) = c at *
  simp only [rBd_v, Option.toList_some, Option.toList_none, List.cons_append, List.nil_append, List.append_nil, b_187_15, b_187_24, b_187_33, b_187_38, b_187_42, b_187_55, hY, iI_eq (by omega : i32 c) (by omega : i32 42), iI_eq (by omega : i32 c) (by omega : i32 47), iI_eq (by omega : i32 c) (by omega : i32 37)]
  by_cases h1 : c = 42
  · simp only [h1, if_true]
  · simp only [h1, if_false]
    by_cases h2 : c = 47
    · simp only [h2, if_true]
    · simp only [h2, if_false]
      by_cases h3 : c = 37
      · simp only [h3, if_true]
      · simp only [h3, if_false]
        rw [b_187_90]
set_option maxHeartbeats 4000000 in
theorem L_69 (hn : n ≤ 150) (hU : PJ T n 71 190 36 g) {d dx x op a : Nat} (hx : iLaw x) (hop : op ≤ 6) (hd : 36 ≤ d + 4 * op) (hdx : 36 ≤ dx + 4 * op) : ∀ (h i z : Nat) (C E F : Nat → Int) (s xs : rd), gd n s → gx n xs → rel s xs → s.2.1 = 0 → n - s.1 ≤ h → h ≤ g → i < s.1 → z ≤ s.1 → a < z → (∀ i, i < z → lk (C i) (E i) (F i)) → seg C a (z - a) →
  ∃ (s' xs' : rd) (C' E' F' : Nat → Int) (z' k' : Nat),
    (∀ (m : Nat → Nat → Int) (q : Nat → Nat → Option Nat) (w : Option (Nat → Int64)) (u : Option Value), onT m T n → gv d rR69 8 [some (.ref x), some (.ref 101), some (.int (iI op)), some (.int (iI i)), u] [] (mk (tr (lw m x C z) s) q w) = vV (mk (tr (lw m x C' z') s') q w)) ∧
    (∀ (m : Nat → Nat → Int) (q : Nat → Nat → Option Nat) (w : Option (Nat → Int64)) (u : Option Value), onX m T n → gv dx rR187 4 [some (.ref 363), u] [] (mk (mr (lx m E F z op) xs) q w) = vV (mk (mr (lx m E' F' k' op) xs') q w)) ∧
    resJ n a z s C s' xs' C' E' F' z' k' ∧ (s'.2.1 = 0 → s.1 ≤ s'.1) := by
  intro h
  induction h using Nat.strongRecOn with
  | _ h ih =>
    intro i z C E F s xs hs hxs hr h0 hg hhg hi hz haz hl hseg
    have hx0 := (rel_fine hr).mp h0
    have hxp := rel_at hr h0
    have hsk := skip_le T hs.1
    have hsn := hs.1
    have step : ∀ e : Nat, (2 ≤ e ∧ e ≤ 8) → 0 < hv T n (skip T n s.1) →
        (∀ (m : Nat → Nat → Int) (q : Nat → Nat → Option Nat) (w : Option (Nat → Int64)) (u : Option Value), onT m T n → gv d rR69 8 [some (.ref x), some (.ref 101), some (.int (iI op)), some (.int (iI i)), u] [] (mk (tr (lw m x C z) s) q w) = gv d rR69 58 [some (.ref x), some (.ref 101), some (.int (iI op)), some (.int (iI i)), u] [.int (iI (cd e))] (mk (tr (lw m x C z) (skip T n s.1 + 1, s.2)) q w)) →
        (∀ (m : Nat → Nat → Int) (q : Nat → Nat → Option Nat) (w : Option (Nat → Int64)) (u : Option Value), onX m T n → gv dx rR187 4 [some (.ref 363), u] [] (mk (mr (lx m E F z op) xs) q w) = gv dx rR187 66 [some (.ref 363), u] [.int (iI e)] (mk (mr (lx m E F z op) (skip T n s.1, xs.2)) q w)) →
        ∃ (s' xs' : rd) (C' E' F' : Nat → Int) (z' k' : Nat),
          (∀ (m : Nat → Nat → Int) (q : Nat → Nat → Option Nat) (w : Option (Nat → Int64)) (u : Option Value), onT m T n → gv d rR69 8 [some (.ref x), some (.ref 101), some (.int (iI op)), some (.int (iI i)), u] [] (mk (tr (lw m x C z) s) q w) = vV (mk (tr (lw m x C' z') s') q w)) ∧
          (∀ (m : Nat → Nat → Int) (q : Nat → Nat → Option Nat) (w : Option (Nat → Int64)) (u : Option Value), onX m T n → gv dx rR187 4 [some (.ref 363), u] [] (mk (mr (lx m E F z op) xs) q w) = vV (mk (mr (lx m E' F' k' op) xs') q w)) ∧
          resJ n a z s C s' xs' C' E' F' z' k' ∧ (s'.2.1 = 0 → s.1 ≤ s'.1) := by
      intro e he hv0 hcl hxl
      have hlt : skip T n s.1 < n := by
        unfold hv at hv0
        by_cases h9 : skip T n s.1 < n
        · exact h9
        · rw [if_neg h9] at hv0
          omega
      have hcd := cd_dc he
      have hsA : gd n (skip T n s.1 + 1, s.2) := ⟨hlt, hs.2⟩
      have gxA : gx n (skip T n s.1 + 1, xs.2) := ⟨hlt, hxs.2⟩
      obtain ⟨s2, x2, C2, E2, F2, z2, k2, c2, y2, ⟨g2, gx2, r2, z2l, i2⟩, j2⟩ := hU (d) (dx) x op z C E F (skip T n s.1 + 1, s.2) (skip T n s.1 + 1, xs.2) hx hop (by omega) (by omega) hsA gxA (rel_go hr h0) h0 (by show n - (skip T n s.1 + 1) ≤ g; omega) (by show z ≤ skip T n s.1 + 1; omega) hl
      have hcl2 : ∀ (m : Nat → Nat → Int) (q : Nat → Nat → Option Nat) (w : Option (Nat → Int64)) (u : Option Value), onT m T n → gv d rR69 8 [some (.ref x), some (.ref 101), some (.int (iI op)), some (.int (iI i)), u] [] (mk (tr (lw m x C z) s) q w) = gv d rR69 8 [some (.ref x), some (.ref 101), some (.int (iI op)), some (.int (iI ((i + 1 : Nat) : Int))), some (.int (iI (cd e)))] [] (mk (tr (lw m x (adC C2 z2 (cd e)) (adZ z2)) s2) q w) := by
        intro m q w u h
        rw [hcl m q w u h, b_69_58 hx, if_neg (by rw [iI_eq (by omega) (by omega)]; omega), c2 m q w h]
        simp only [rBd_v, Option.toList_some, Option.toList_none, List.cons_append, List.nil_append, List.append_nil, b_69_72 hx]
        rw [T_65 (by omega) hx z2l]
        simp only [rBd_v, Option.toList_some, Option.toList_none, List.cons_append, List.nil_append, List.append_nil, b_69_78 hx]
        rfl
      have hxl2 : ∀ (m : Nat → Nat → Int) (q : Nat → Nat → Option Nat) (w : Option (Nat → Int64)) (u : Option Value), onX m T n → gv dx rR187 4 [some (.ref 363), u] [] (mk (mr (lx m E F z op) xs) q w) = rBd (ev dx 184 [.ref 363, .int (iI e), .int (iI 0)] (mk (mr (lx m E2 F2 k2 op) x2) q w)) (fun v M' => gv dx rR187 87 [some (.ref 363), some (.int (iI e))] (v.toList ++ []) M') := by
        intro m q w u h
        have e4 : mr (lx m E F z op) (skip T n s.1, xs.2) 363 4 = ((skip T n s.1 : Nat) : Int) := mr_4 _ _
        rw [hxl m q w u h, b_187_66, e4, show ((skip T n s.1 : Nat) : Int) + 1 = ((skip T n s.1 + 1 : Nat) : Int) from rfl, mr_w4, y2 m q w h]
        simp only [rBd_v, Option.toList_some, Option.toList_none, List.cons_append, List.nil_append, List.append_nil, b_187_81]
      by_cases q2 : s2.2.1 = 0
      · obtain ⟨rfl, a2, b2, d2, l2, m2, w2⟩ := i2 q2
        have p2 : skip T n s.1 + 1 < s2.1 := j2 q2
        have d2' : k2 + (skip T n s.1 + 1) ≤ z + s2.1 := d2
        have n2 := g2.1
        have hk : k2 < 150 := by omega
        have y0 := (rel_fine r2).mp q2
        have u1 : seg (row C2 k2 (cd e)) a (z - a) := seg_congr hseg (fun j j1 j3 => ⟨by rw [row_o _ _ _ (by omega), m2 j (by omega)], lk_ok (hl j (by omega))⟩)
        have u2 : seg (row C2 k2 (cd e)) (a + (z - a)) (k2 - z) := by
          rw [show a + (z - a) = z by omega]
          exact seg_congr w2 (fun j j1 j3 => ⟨by rw [row_o _ _ _ (by omega)], lk_ok (l2 j (by omega))⟩)
        have u3 := seg_join u1 u2 (by rw [show a + (z - a) + (k2 - z) = k2 by omega, row_s]; omega)
        rw [show z - a + (k2 - z) + 1 = k2 + 1 - a by omega] at u3
        obtain ⟨s', x', C', E', F', z', k', c1, y1, ⟨v1, v2, v3, v4, v5⟩, v6⟩ := ih (n - s2.1) (by omega) (i + 1) (k2 + 1) (row C2 k2 (cd e)) (row E2 k2 e) (row F2 k2 0) s2 x2 g2 gx2 r2 q2 (Nat.le_refl _) (by omega) (by omega) (by omega) (by omega) (fun j hj => by
          by_cases h9 : j = k2
          · rw [h9, row_s, row_s, row_s]
            exact lk_cd he
          · rw [row_o _ _ _ h9, row_o _ _ _ h9, row_o _ _ _ h9]
            exact l2 j (by omega)) u3
        refine ⟨s', x', C', E', F', z', k', fun m q w u h => ?_, fun m q w u h => ?_, ⟨v1, v2, v3, v4, fun q' => ?_⟩, fun q' => by have := v6 q'; omega⟩
        · rw [hcl2 m q w u h]
          unfold adC adZ
          rw [if_pos hk, if_pos hk]
          exact c1 m q w _ h
        · rw [hxl2 m q w u h, V_184 (by omega) gx2 (fun _ => hk), if_pos y0]
          simp only [rBd_v, Option.toList_some, Option.toList_none, List.cons_append, List.nil_append, List.append_nil, b_187_87]
          exact y1 m q w _ h
        · obtain ⟨t1, t2, t3, t4, t5, t6, t7⟩ := v5 q'
          refine ⟨t1, by omega, t3, by omega, t5, fun j hj => ?_, t7⟩
          rw [t6 j (by omega), row_o _ _ _ (by omega), m2 j hj]
      · have y0 := rel_nf r2 q2
        refine ⟨s2, x2, adC C2 z2 (cd e), E2, F2, adZ z2, k2, fun m q w u h => ?_, fun m q w u h => ?_, ⟨g2, gx2, r2, adZ_le z2l, fun q' => absurd q' q2⟩, fun q' => absurd q' q2⟩
        · rw [hcl2 m q w u h]
          exact F_69_8 (by omega) hx h g2 q2 (by omega)
        · rw [hxl2 m q w u h, V_184 (by omega) gx2 (fun y => absurd y y0), if_neg y0]
          simp only [rBd_v, Option.toList_some, Option.toList_none, List.cons_append, List.nil_append, List.append_nil, b_187_87, b_187_4]
          rw [V_167 (by omega) gx2]
          simp only [rBd_v, Option.toList_some, Option.toList_none, List.cons_append, List.nil_append, List.append_nil, b_187_8, zb_0]
          rw [if_pos y0, b_187_90]
    have cC := fun (m : Nat → Nat → Int) (q : Nat → Nat → Option Nat) (w : Option (Nat → Int64)) (u : Option Value) (h : onT m T n) => C_69 (q := q) (w := w) (u := u) (op := op) (i := i) (C := C) (z := z) (show 2 ≤ d by omega) hx h hs h0 (by omega)
    have cX := fun (m : Nat → Nat → Int) (q : Nat → Nat → Option Nat) (w : Option (Nat → Int64)) (u : Option Value) (h : onX m T n) => X_187 (q := q) (w := w) (u := u) (op := op) (E := E) (F := F) (k := z) (show 2 ≤ dx by omega) h hxs hx0
    rw [hxp] at cX
    by_cases h1 : hv T n (skip T n s.1) = 42
    · refine step 4 (by omega) (by omega) (fun m q w u h => ?_) (fun m q w u h => ?_)
      · rw [cC m q w u h, if_pos h1]
      · rw [cX m q w u h, if_pos h1]
        rfl
    by_cases h2 : hv T n (skip T n s.1) = 47
    · refine step 5 (by omega) (by omega) (fun m q w u h => ?_) (fun m q w u h => ?_)
      · rw [cC m q w u h, if_neg h1, if_pos h2]
      · rw [cX m q w u h, if_neg h1, if_pos h2]
        rfl
    by_cases h3 : hv T n (skip T n s.1) = 37
    · refine step 8 (by omega) (by omega) (fun m q w u h => ?_) (fun m q w u h => ?_)
      · rw [cC m q w u h, if_neg h1, if_neg h2, if_pos h3]
      · rw [cX m q w u h, if_neg h1, if_neg h2, if_pos h3]
        rfl
    refine ⟨(skip T n s.1, s.2), (skip T n s.1, xs.2), C, E, F, z, z, fun m q w u h => ?_, fun m q w u h => ?_, ⟨⟨hsk.2, hs.2⟩, ⟨hsk.2, hxs.2⟩, rel_go hr h0, by omega, fun _ => ⟨rfl, Nat.le_refl _, haz, by show z + s.1 ≤ z + skip T n s.1; omega, hl, fun _ _ => rfl, hseg⟩⟩, fun _ => hsk.1⟩
    · rw [cC m q w u h, if_neg h1, if_neg h2, if_neg h3]
    · rw [cX m q w u h, if_neg h1, if_neg h2, if_neg h3]
theorem J_69 (hn : n ≤ 150) (hU : PJ T n 71 190 36 g) : PJ T n 69 187 37 g := by
  intro d dx x op z C E F s xs hx hop hd hdx hs hxs hr h0 hg hz hl
  obtain ⟨s2, x2, C2, E2, F2, z2, k2, c2, y2, ⟨g2, gx2, r2, z2l, i2⟩, j2⟩ := hU (d - 1) (dx - 1) x op z C E F s xs hx hop (by omega) (by omega) hs hxs hr h0 hg hz hl
  have cP : ∀ (m : Nat → Nat → Int) (q : Nat → Nat → Option Nat) (w : Option (Nat → Int64)), onT m T n → ev d 69 [.ref x, .ref 101, .int (iI op)] (mk (tr (lw m x C z) s) q w) = gv (d - 1) rR69 8 [some (.ref x), some (.ref 101), some (.int (iI op)), some (.int (iI ((0 : Nat) : Int))), none] [] (mk (tr (lw m x C2 z2) s2) q w) := by
    intro m q w h
    rw [e_69 (by omega) _ rfl rfl rfl, b_69_0 hx, c2 m q w h]
    simp only [rBd_v, Option.toList_some, Option.toList_none, List.cons_append, List.nil_append, List.append_nil, b_69_6 hx]
    rfl
  have xP : ∀ (m : Nat → Nat → Int) (q : Nat → Nat → Option Nat) (w : Option (Nat → Int64)), onX m T n → ev dx 187 [.ref 363] (mk (mr (lx m E F z op) xs) q w) = gv (dx - 1) rR187 4 [some (.ref 363), none] [] (mk (mr (lx m E2 F2 k2 op) x2) q w) := by
    intro m q w h
    rw [e_187 (by omega) _ rfl, b_187_0, y2 m q w h]
    simp only [rBd_v, Option.toList_some, Option.toList_none, List.cons_append, List.nil_append, List.append_nil]
  by_cases q2 : s2.2.1 = 0
  · obtain ⟨rfl, a2, b2, d2, l2, m2, w2⟩ := i2 q2
    have p2 := j2 q2
    have hk := seg_pos w2
    obtain ⟨s', x', C', E', F', z', k', c1, y1, ⟨v1, v2, v3, v4, v5⟩, v6⟩ := L_69 hn hU (d := d - 1) (dx := dx - 1) (a := z) hx hop (by omega) (by omega) (n - s2.1) 0 k2 C2 E2 F2 s2 x2 g2 gx2 r2 q2 (Nat.le_refl _) (by omega) (by omega) (by omega) (by omega) l2 w2
    refine ⟨s', x', C', E', F', z', k', fun m q w h => (cP m q w h).trans (c1 m q w _ h), fun m q w h => (xP m q w h).trans (y1 m q w _ h), ⟨v1, v2, v3, v4, fun q' => ?_⟩, fun q' => by have := v6 q'; omega⟩
    obtain ⟨t1, t2, t3, t4, t5, t6, t7⟩ := v5 q'
    exact ⟨t1, by omega, t3, by omega, t5, fun j hj => by rw [t6 j (by omega), m2 j hj], t7⟩
  · have y0 := rel_nf r2 q2
    refine ⟨s2, x2, C2, E2, F2, z2, k2, fun m q w h => (cP m q w h).trans (F_69_8 (by omega) hx h g2 q2 (by omega)), fun m q w h => (xP m q w h).trans ?_, ⟨g2, gx2, r2, z2l, fun q' => absurd q' q2⟩, fun q' => absurd q' q2⟩
    rw [b_187_4, V_167 (by omega) gx2]
    simp only [rBd_v, Option.toList_some, Option.toList_none, List.cons_append, List.nil_append, List.append_nil, b_187_8, zb_0]
    rw [if_pos y0, b_187_90]
theorem C_70 {d x op i : Nat} {C : Nat → Int} {z : Nat} {s : rd} {u : Option Value} {m : Nat → Nat → Int} {q : Nat → Nat → Option Nat} {w : Option (Nat → Int64)} (hd : 2 ≤ d) (hx : iLaw x) (h : onT m T n) (hs : gd n s) (h0 : s.2.1 = 0) (hi : i < 150) : gv d rR70 8 [some (.ref x), some (.ref 101), some (.int (iI op)), some (.int (iI i)), u] [] (mk (tr (lw m x C z) s) q w) =
    if hv T n (skip T n s.1) = 43 then gv d rR70 44 [some (.ref x), some (.ref 101), some (.int (iI op)), some (.int (iI i)), u] [.int (iI (cd 2))] (mk (tr (lw m x C z) (skip T n s.1 + 1, s.2)) q w) else
    if hv T n (skip T n s.1) = 45 then gv d rR70 44 [some (.ref x), some (.ref 101), some (.int (iI op)), some (.int (iI i)), u] [.int (iI (cd 3))] (mk (tr (lw m x C z) (skip T n s.1 + 1, s.2)) q w) else
    vV (mk (tr (lw m x C z) (skip T n s.1, s.2)) q w) := by
  have hO := lw_on m C z hx h
  have hsk := skip_le T hs.1
  obtain ⟨s0, e0⟩ : ∃ s0 : rd, s0 = (skip T n s.1, s.2) := ⟨_, rfl⟩
  have hp : skip T n s.1 = s0.1 := by rw [e0]
  have hs0 : gd n s0 := by rw [e0]; exact ⟨hsk.2, hs.2⟩
  have h00 : s0.2.1 = 0 := by rw [e0]; exact h0
  have hk0 : skip T n s0.1 = s0.1 := by rw [e0]; exact skip_fix T hs.1
  have tk : ∀ (c : Int) (s9 : rd), s9.2 = s.2 → skip T n s9.1 = s0.1 → 0 < c → aTk T n c s9 = if hv T n s0.1 = c then (s0.1 + 1, s0.2) else s0 := by
    intro c s9 e1 e2 hc
    have e9 : s9.2.1 = 0 := by rw [e1]; exact h0
    have hon := hv_on (T := T) (n := n) (p := s0.1) (a := c) (b := c) hc
    have e20 : s9.2 = s0.2 := by rw [e1, e0]
    unfold aTk aN
    by_cases h1 : hv T n s0.1 = c
    · rw [if_pos ⟨e9, by rw [e2]; exact hon.mpr (by omega)⟩, if_pos h1, e2, e20]
    · rw [if_neg (fun z => h1 (by have := z.2; rw [e2] at this; have := hon.mp this; omega)), if_neg h1, if_pos e9, e2, e20]
  have on : ∀ (c : Int) (s9 : rd), s9.2 = s.2 → skip T n s9.1 = s0.1 → 0 < c → (aOn T n c c s9 ↔ hv T n s0.1 = c) := by
    intro c s9 e1 e2 hc
    have e9 : s9.2.1 = 0 := by rw [e1]; exact h0
    have hon := hv_on (T := T) (n := n) (p := s0.1) (a := c) (b := c) hc
    constructor
    · intro z
      have := z.2
      rw [e2] at this
      have := hon.mp this
      omega
    · intro z
      exact ⟨e9, by rw [e2]; exact hon.mpr (by omega)⟩
  have e02 : s0.2 = s.2 := by rw [e0]
  rw [b_70_8 hx, if_pos (by rw [iI_lt (by omega) (by omega)]; omega), hp, ← e02]
  rw [U_8 (by omega) hO hs (by omega : i32 43), tk 43 s rfl hp (by omega)]
  simp only [rBd_v, Option.toList_some, Option.toList_none, List.cons_append, List.nil_append, List.append_nil, b_70_21 hx, zb_0]
  by_cases h1 : hv T n s0.1 = 43
  · rw [if_neg (not_not_intro ((on 43 s rfl hp (by omega)).mpr h1)), if_pos h1, if_pos h1]
    rfl
  · rw [if_pos (fun z => h1 ((on 43 s rfl hp (by omega)).mp z)), if_neg h1, if_neg h1]
    rw [U_8 (by omega) hO hs0 (by omega : i32 45), tk 45 s0 e02 hk0 (by omega)]
    simp only [rBd_v, Option.toList_some, Option.toList_none, List.cons_append, List.nil_append, List.append_nil, b_70_35 hx, zb_0]
    by_cases h2 : hv T n s0.1 = 45
    · rw [if_neg (not_not_intro ((on 45 s0 e02 hk0 (by omega)).mpr h2)), if_pos h2, if_pos h2]
      rfl
    · rw [if_pos (fun z => h2 ((on 45 s0 e02 hk0 (by omega)).mp z)), if_neg h2, if_neg h2]
      rw [b_70_44 hx, if_pos rfl]
theorem X_188 {d : Nat} {E F : Nat → Int} {k op : Nat} {xs : rd} {u : Option Value} {m : Nat → Nat → Int} {q : Nat → Nat → Option Nat} {w : Option (Nat → Int64)} (hd : 2 ≤ d) (h : onX m T n) (hs : gx n xs) (h0 : xs.2.1 = -1) : gv d rR188 4 [some (.ref 363), u] [] (mk (mr (lx m E F k op) xs) q w) =
    if hv T n (skip T n xs.1) = 43 then gv d rR188 43 [some (.ref 363), u] [.int (iI 2)] (mk (mr (lx m E F k op) (skip T n xs.1, xs.2)) q w) else
    if hv T n (skip T n xs.1) = 45 then gv d rR188 43 [some (.ref 363), u] [.int (iI 3)] (mk (mr (lx m E F k op) (skip T n xs.1, xs.2)) q w) else
    vV (mk (mr (lx m E F k op) (skip T n xs.1, xs.2)) q w) := by
  have hO := lx_on m E F k op h
  have hsk := skip_le T hs.1
  have hv0 := hv_i T n (skip T n xs.1) h.2.2.2
  have hs0 : gx n (skip T n xs.1, xs.2) := ⟨hsk.2, hs.2⟩
  have hk0 : skip T n (skip T n xs.1) = skip T n xs.1 := skip_fix T hs.1
  have hY : ev d 169 [.ref 363] (mk (mr (lx m E F k op) (skip T n xs.1, xs.2)) q w) = vI (hv T n (skip T n xs.1)) (mk (mr (lx m E F k op) (skip T n xs.1, xs.2)) q w) := by
    rw [V_169 (by omega) hO hs0]
    show vI (hv T n (skip T n (skip T n xs.1))) (mk (mr (lx m E F k op) (skip T n (skip T n xs.1), xs.2)) q w) = _
    rw [hk0]
  rw [b_188_4, V_167 (by omega) hs]
  simp only [rBd_v, Option.toList_some, Option.toList_none, List.cons_append, List.nil_append, List.append_nil, b_188_8, zb_0]
  rw [if_neg (not_not_intro h0), V_169 (by omega) hO hs]
  generalize hv T n (skip T n xs.1) = c at *
  simp only [rBd_v, Option.toList_some, Option.toList_none, List.cons_append, List.nil_append, List.append_nil, b_188_15, b_188_24, b_188_29, b_188_33, hY, iI_eq (by omega : i32 c) (by omega : i32 43), iI_eq (by omega : i32 c) (by omega : i32 45)]
  by_cases h1 : c = 43
  · simp only [h1, if_true]
  · simp only [h1, if_false]
    by_cases h2 : c = 45
    · simp only [h2, if_true]
    · simp only [h2, if_false]
      rw [b_188_67]
set_option maxHeartbeats 4000000 in
theorem L_70 (hn : n ≤ 150) (hU : PJ T n 69 187 37 g) {d dx x op a : Nat} (hx : iLaw x) (hop : op ≤ 6) (hd : 37 ≤ d + 4 * op) (hdx : 37 ≤ dx + 4 * op) : ∀ (h i z : Nat) (C E F : Nat → Int) (s xs : rd), gd n s → gx n xs → rel s xs → s.2.1 = 0 → n - s.1 ≤ h → h ≤ g → i < s.1 → z ≤ s.1 → a < z → (∀ i, i < z → lk (C i) (E i) (F i)) → seg C a (z - a) →
  ∃ (s' xs' : rd) (C' E' F' : Nat → Int) (z' k' : Nat),
    (∀ (m : Nat → Nat → Int) (q : Nat → Nat → Option Nat) (w : Option (Nat → Int64)) (u : Option Value), onT m T n → gv d rR70 8 [some (.ref x), some (.ref 101), some (.int (iI op)), some (.int (iI i)), u] [] (mk (tr (lw m x C z) s) q w) = vV (mk (tr (lw m x C' z') s') q w)) ∧
    (∀ (m : Nat → Nat → Int) (q : Nat → Nat → Option Nat) (w : Option (Nat → Int64)) (u : Option Value), onX m T n → gv dx rR188 4 [some (.ref 363), u] [] (mk (mr (lx m E F z op) xs) q w) = vV (mk (mr (lx m E' F' k' op) xs') q w)) ∧
    resJ n a z s C s' xs' C' E' F' z' k' ∧ (s'.2.1 = 0 → s.1 ≤ s'.1) := by
  intro h
  induction h using Nat.strongRecOn with
  | _ h ih =>
    intro i z C E F s xs hs hxs hr h0 hg hhg hi hz haz hl hseg
    have hx0 := (rel_fine hr).mp h0
    have hxp := rel_at hr h0
    have hsk := skip_le T hs.1
    have hsn := hs.1
    have step : ∀ e : Nat, (2 ≤ e ∧ e ≤ 8) → 0 < hv T n (skip T n s.1) →
        (∀ (m : Nat → Nat → Int) (q : Nat → Nat → Option Nat) (w : Option (Nat → Int64)) (u : Option Value), onT m T n → gv d rR70 8 [some (.ref x), some (.ref 101), some (.int (iI op)), some (.int (iI i)), u] [] (mk (tr (lw m x C z) s) q w) = gv d rR70 44 [some (.ref x), some (.ref 101), some (.int (iI op)), some (.int (iI i)), u] [.int (iI (cd e))] (mk (tr (lw m x C z) (skip T n s.1 + 1, s.2)) q w)) →
        (∀ (m : Nat → Nat → Int) (q : Nat → Nat → Option Nat) (w : Option (Nat → Int64)) (u : Option Value), onX m T n → gv dx rR188 4 [some (.ref 363), u] [] (mk (mr (lx m E F z op) xs) q w) = gv dx rR188 43 [some (.ref 363), u] [.int (iI e)] (mk (mr (lx m E F z op) (skip T n s.1, xs.2)) q w)) →
        ∃ (s' xs' : rd) (C' E' F' : Nat → Int) (z' k' : Nat),
          (∀ (m : Nat → Nat → Int) (q : Nat → Nat → Option Nat) (w : Option (Nat → Int64)) (u : Option Value), onT m T n → gv d rR70 8 [some (.ref x), some (.ref 101), some (.int (iI op)), some (.int (iI i)), u] [] (mk (tr (lw m x C z) s) q w) = vV (mk (tr (lw m x C' z') s') q w)) ∧
          (∀ (m : Nat → Nat → Int) (q : Nat → Nat → Option Nat) (w : Option (Nat → Int64)) (u : Option Value), onX m T n → gv dx rR188 4 [some (.ref 363), u] [] (mk (mr (lx m E F z op) xs) q w) = vV (mk (mr (lx m E' F' k' op) xs') q w)) ∧
          resJ n a z s C s' xs' C' E' F' z' k' ∧ (s'.2.1 = 0 → s.1 ≤ s'.1) := by
      intro e he hv0 hcl hxl
      have hlt : skip T n s.1 < n := by
        unfold hv at hv0
        by_cases h9 : skip T n s.1 < n
        · exact h9
        · rw [if_neg h9] at hv0
          omega
      have hcd := cd_dc he
      have hsA : gd n (skip T n s.1 + 1, s.2) := ⟨hlt, hs.2⟩
      have gxA : gx n (skip T n s.1 + 1, xs.2) := ⟨hlt, hxs.2⟩
      obtain ⟨s2, x2, C2, E2, F2, z2, k2, c2, y2, ⟨g2, gx2, r2, z2l, i2⟩, j2⟩ := hU (d) (dx) x op z C E F (skip T n s.1 + 1, s.2) (skip T n s.1 + 1, xs.2) hx hop (by omega) (by omega) hsA gxA (rel_go hr h0) h0 (by show n - (skip T n s.1 + 1) ≤ g; omega) (by show z ≤ skip T n s.1 + 1; omega) hl
      have hcl2 : ∀ (m : Nat → Nat → Int) (q : Nat → Nat → Option Nat) (w : Option (Nat → Int64)) (u : Option Value), onT m T n → gv d rR70 8 [some (.ref x), some (.ref 101), some (.int (iI op)), some (.int (iI i)), u] [] (mk (tr (lw m x C z) s) q w) = gv d rR70 8 [some (.ref x), some (.ref 101), some (.int (iI op)), some (.int (iI ((i + 1 : Nat) : Int))), some (.int (iI (cd e)))] [] (mk (tr (lw m x (adC C2 z2 (cd e)) (adZ z2)) s2) q w) := by
        intro m q w u h
        rw [hcl m q w u h, b_70_44 hx, if_neg (by rw [iI_eq (by omega) (by omega)]; omega), c2 m q w h]
        simp only [rBd_v, Option.toList_some, Option.toList_none, List.cons_append, List.nil_append, List.append_nil, b_70_58 hx]
        rw [T_65 (by omega) hx z2l]
        simp only [rBd_v, Option.toList_some, Option.toList_none, List.cons_append, List.nil_append, List.append_nil, b_70_64 hx]
        rfl
      have hxl2 : ∀ (m : Nat → Nat → Int) (q : Nat → Nat → Option Nat) (w : Option (Nat → Int64)) (u : Option Value), onX m T n → gv dx rR188 4 [some (.ref 363), u] [] (mk (mr (lx m E F z op) xs) q w) = rBd (ev dx 184 [.ref 363, .int (iI e), .int (iI 0)] (mk (mr (lx m E2 F2 k2 op) x2) q w)) (fun v M' => gv dx rR188 64 [some (.ref 363), some (.int (iI e))] (v.toList ++ []) M') := by
        intro m q w u h
        have e4 : mr (lx m E F z op) (skip T n s.1, xs.2) 363 4 = ((skip T n s.1 : Nat) : Int) := mr_4 _ _
        rw [hxl m q w u h, b_188_43, e4, show ((skip T n s.1 : Nat) : Int) + 1 = ((skip T n s.1 + 1 : Nat) : Int) from rfl, mr_w4, y2 m q w h]
        simp only [rBd_v, Option.toList_some, Option.toList_none, List.cons_append, List.nil_append, List.append_nil, b_188_58]
      by_cases q2 : s2.2.1 = 0
      · obtain ⟨rfl, a2, b2, d2, l2, m2, w2⟩ := i2 q2
        have p2 : skip T n s.1 + 1 < s2.1 := j2 q2
        have d2' : k2 + (skip T n s.1 + 1) ≤ z + s2.1 := d2
        have n2 := g2.1
        have hk : k2 < 150 := by omega
        have y0 := (rel_fine r2).mp q2
        have u1 : seg (row C2 k2 (cd e)) a (z - a) := seg_congr hseg (fun j j1 j3 => ⟨by rw [row_o _ _ _ (by omega), m2 j (by omega)], lk_ok (hl j (by omega))⟩)
        have u2 : seg (row C2 k2 (cd e)) (a + (z - a)) (k2 - z) := by
          rw [show a + (z - a) = z by omega]
          exact seg_congr w2 (fun j j1 j3 => ⟨by rw [row_o _ _ _ (by omega)], lk_ok (l2 j (by omega))⟩)
        have u3 := seg_join u1 u2 (by rw [show a + (z - a) + (k2 - z) = k2 by omega, row_s]; omega)
        rw [show z - a + (k2 - z) + 1 = k2 + 1 - a by omega] at u3
        obtain ⟨s', x', C', E', F', z', k', c1, y1, ⟨v1, v2, v3, v4, v5⟩, v6⟩ := ih (n - s2.1) (by omega) (i + 1) (k2 + 1) (row C2 k2 (cd e)) (row E2 k2 e) (row F2 k2 0) s2 x2 g2 gx2 r2 q2 (Nat.le_refl _) (by omega) (by omega) (by omega) (by omega) (fun j hj => by
          by_cases h9 : j = k2
          · rw [h9, row_s, row_s, row_s]
            exact lk_cd he
          · rw [row_o _ _ _ h9, row_o _ _ _ h9, row_o _ _ _ h9]
            exact l2 j (by omega)) u3
        refine ⟨s', x', C', E', F', z', k', fun m q w u h => ?_, fun m q w u h => ?_, ⟨v1, v2, v3, v4, fun q' => ?_⟩, fun q' => by have := v6 q'; omega⟩
        · rw [hcl2 m q w u h]
          unfold adC adZ
          rw [if_pos hk, if_pos hk]
          exact c1 m q w _ h
        · rw [hxl2 m q w u h, V_184 (by omega) gx2 (fun _ => hk), if_pos y0]
          simp only [rBd_v, Option.toList_some, Option.toList_none, List.cons_append, List.nil_append, List.append_nil, b_188_64]
          exact y1 m q w _ h
        · obtain ⟨t1, t2, t3, t4, t5, t6, t7⟩ := v5 q'
          refine ⟨t1, by omega, t3, by omega, t5, fun j hj => ?_, t7⟩
          rw [t6 j (by omega), row_o _ _ _ (by omega), m2 j hj]
      · have y0 := rel_nf r2 q2
        refine ⟨s2, x2, adC C2 z2 (cd e), E2, F2, adZ z2, k2, fun m q w u h => ?_, fun m q w u h => ?_, ⟨g2, gx2, r2, adZ_le z2l, fun q' => absurd q' q2⟩, fun q' => absurd q' q2⟩
        · rw [hcl2 m q w u h]
          exact F_70_8 (by omega) hx h g2 q2 (by omega)
        · rw [hxl2 m q w u h, V_184 (by omega) gx2 (fun y => absurd y y0), if_neg y0]
          simp only [rBd_v, Option.toList_some, Option.toList_none, List.cons_append, List.nil_append, List.append_nil, b_188_64, b_188_4]
          rw [V_167 (by omega) gx2]
          simp only [rBd_v, Option.toList_some, Option.toList_none, List.cons_append, List.nil_append, List.append_nil, b_188_8, zb_0]
          rw [if_pos y0, b_188_67]
    have cC := fun (m : Nat → Nat → Int) (q : Nat → Nat → Option Nat) (w : Option (Nat → Int64)) (u : Option Value) (h : onT m T n) => C_70 (q := q) (w := w) (u := u) (op := op) (i := i) (C := C) (z := z) (show 2 ≤ d by omega) hx h hs h0 (by omega)
    have cX := fun (m : Nat → Nat → Int) (q : Nat → Nat → Option Nat) (w : Option (Nat → Int64)) (u : Option Value) (h : onX m T n) => X_188 (q := q) (w := w) (u := u) (op := op) (E := E) (F := F) (k := z) (show 2 ≤ dx by omega) h hxs hx0
    rw [hxp] at cX
    by_cases h1 : hv T n (skip T n s.1) = 43
    · refine step 2 (by omega) (by omega) (fun m q w u h => ?_) (fun m q w u h => ?_)
      · rw [cC m q w u h, if_pos h1]
      · rw [cX m q w u h, if_pos h1]
        rfl
    by_cases h2 : hv T n (skip T n s.1) = 45
    · refine step 3 (by omega) (by omega) (fun m q w u h => ?_) (fun m q w u h => ?_)
      · rw [cC m q w u h, if_neg h1, if_pos h2]
      · rw [cX m q w u h, if_neg h1, if_pos h2]
        rfl
    refine ⟨(skip T n s.1, s.2), (skip T n s.1, xs.2), C, E, F, z, z, fun m q w u h => ?_, fun m q w u h => ?_, ⟨⟨hsk.2, hs.2⟩, ⟨hsk.2, hxs.2⟩, rel_go hr h0, by omega, fun _ => ⟨rfl, Nat.le_refl _, haz, by show z + s.1 ≤ z + skip T n s.1; omega, hl, fun _ _ => rfl, hseg⟩⟩, fun _ => hsk.1⟩
    · rw [cC m q w u h, if_neg h1, if_neg h2]
    · rw [cX m q w u h, if_neg h1, if_neg h2]
theorem J_70 (hn : n ≤ 150) (hU : PJ T n 69 187 37 g) : PJ T n 70 188 38 g := by
  intro d dx x op z C E F s xs hx hop hd hdx hs hxs hr h0 hg hz hl
  obtain ⟨s2, x2, C2, E2, F2, z2, k2, c2, y2, ⟨g2, gx2, r2, z2l, i2⟩, j2⟩ := hU (d - 1) (dx - 1) x op z C E F s xs hx hop (by omega) (by omega) hs hxs hr h0 hg hz hl
  have cP : ∀ (m : Nat → Nat → Int) (q : Nat → Nat → Option Nat) (w : Option (Nat → Int64)), onT m T n → ev d 70 [.ref x, .ref 101, .int (iI op)] (mk (tr (lw m x C z) s) q w) = gv (d - 1) rR70 8 [some (.ref x), some (.ref 101), some (.int (iI op)), some (.int (iI ((0 : Nat) : Int))), none] [] (mk (tr (lw m x C2 z2) s2) q w) := by
    intro m q w h
    rw [e_70 (by omega) _ rfl rfl rfl, b_70_0 hx, c2 m q w h]
    simp only [rBd_v, Option.toList_some, Option.toList_none, List.cons_append, List.nil_append, List.append_nil, b_70_6 hx]
    rfl
  have xP : ∀ (m : Nat → Nat → Int) (q : Nat → Nat → Option Nat) (w : Option (Nat → Int64)), onX m T n → ev dx 188 [.ref 363] (mk (mr (lx m E F z op) xs) q w) = gv (dx - 1) rR188 4 [some (.ref 363), none] [] (mk (mr (lx m E2 F2 k2 op) x2) q w) := by
    intro m q w h
    rw [e_188 (by omega) _ rfl, b_188_0, y2 m q w h]
    simp only [rBd_v, Option.toList_some, Option.toList_none, List.cons_append, List.nil_append, List.append_nil]
  by_cases q2 : s2.2.1 = 0
  · obtain ⟨rfl, a2, b2, d2, l2, m2, w2⟩ := i2 q2
    have p2 := j2 q2
    have hk := seg_pos w2
    obtain ⟨s', x', C', E', F', z', k', c1, y1, ⟨v1, v2, v3, v4, v5⟩, v6⟩ := L_70 hn hU (d := d - 1) (dx := dx - 1) (a := z) hx hop (by omega) (by omega) (n - s2.1) 0 k2 C2 E2 F2 s2 x2 g2 gx2 r2 q2 (Nat.le_refl _) (by omega) (by omega) (by omega) (by omega) l2 w2
    refine ⟨s', x', C', E', F', z', k', fun m q w h => (cP m q w h).trans (c1 m q w _ h), fun m q w h => (xP m q w h).trans (y1 m q w _ h), ⟨v1, v2, v3, v4, fun q' => ?_⟩, fun q' => by have := v6 q'; omega⟩
    obtain ⟨t1, t2, t3, t4, t5, t6, t7⟩ := v5 q'
    exact ⟨t1, by omega, t3, by omega, t5, fun j hj => by rw [t6 j (by omega), m2 j hj], t7⟩
  · have y0 := rel_nf r2 q2
    refine ⟨s2, x2, C2, E2, F2, z2, k2, fun m q w h => (cP m q w h).trans (F_70_8 (by omega) hx h g2 q2 (by omega)), fun m q w h => (xP m q w h).trans ?_, ⟨g2, gx2, r2, z2l, fun q' => absurd q' q2⟩, fun q' => absurd q' q2⟩
    rw [b_188_4, V_167 (by omega) gx2]
    simp only [rBd_v, Option.toList_some, Option.toList_none, List.cons_append, List.nil_append, List.append_nil, b_188_8, zb_0]
    rw [if_pos y0, b_188_67]
theorem J_sum (hT : isT T) (hn : n ≤ 150) : ∀ g, PJ T n 70 188 38 g := by
  intro g
  induction g using Nat.strongRecOn with
  | _ g ih => exact J_70 hn (J_69 hn (J_unit hT hn ih))
end J
