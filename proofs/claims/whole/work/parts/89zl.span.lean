/-! ===== the call span, alike ===== -/
section S
variable {d n : Nat} {m : Nat → Nat → Int} {q : Nat → Nat → Option Nat} {w : Option (Nat → Int64)} {y : Nat} {r z : Nat}
theorem J_span (hd : 24 ≤ d) {P P0 : Nat → Int} {p zp : Nat} (hz7 : zp ≤ 7) {a e : Int} {many sn : Nat} (hmany : 1 ≤ many ∧ many ≤ 10) (hsn : sn ≤ 48) {qv : Int} (hq : 0 ≤ qv ∧ qv ≤ 16) (he : 0 ≤ e ∧ e ≤ 2) (hqy : q 100 9 = some y) (hqp : q 181 0 = some p) (hip : iPic p) : ∀ (g i : Nat) (fc fx mo sh : Int) (m : Nat → Nat → Int) (H : Nat → Int), i + g = many → ((i = 0 ∧ fc = 2147483647 ∧ fx = -1) ∨ (0 < i ∧ fc = fx ∧ 0 ≤ fx ∧ fx ≤ 192)) → (0 ≤ mo ∧ mo ≤ 192) → fnR n r 400 (m 108) (m 109) (m 110) P → clsL m y z → m p 1 = zp → rP zp (m (p + 1)) P0 → ∃ (V : Int) (m1 : Nat → Nat → Int),
    gv d rR154 73 [some (.ref 100), some (.int (iI a)), some (.int (iI (many : Int))), some (.int (iI qv)), some (.int (iI (sn : Int))), some (.int (iI e)), some (.int (iI fc)), some (.int (iI mo)), some (.int (iI sh)), some (.int (iI (i : Int)))] [] (mk m q w) = vI V (mk m1 q w) ∧ qY m m1 ∧
    ∀ (m' : Nat → Nat → Int) (q' : Nat → Nat → Option Nat) (w' : Option (Nat → Int64)) (u10 : Option Value), m' 376 = P → m' 377 = H → xR m' n r (m (y + 1)) z → m' 381 0 = zp → m' 380 = P0 → ∃ m2, gv d rR267 62 [some (.ref 363), some (.int (iI a)), some (.int (iI (many : Int))), some (.int (iI qv)), some (.int (iI (sn : Int))), some (.int (iI e)), some (.int (iI fx)), some (.int (iI mo)), some (.int (iI sh)), some (.int (iI (i : Int))), u10] [] (mk m' q' w') = vI V (mk m2 q' w') ∧ qZ m' m2 := by
  have hpr := pic_three hip
  intro g
  induction g with
  | zero =>
    intro i fc fx mo sh m H hg hf hmo hF hy hpz hP
    have hfe : fc = fx := by omega
    rcases (show e = 0 ∨ e = 1 ∨ e = 2 by omega) with rfl | rfl | rfl
    · refine ⟨fc, m, ?_, qY_refl, fun m' q' w' u10 h1 h2 hx h3 h4 => ⟨m', ?_, qZ_refl⟩⟩
      · rw [b_154_73, if_neg (by rw [iI_lt (by omega) (by omega)]; omega), if_pos rfl, b_154_191]
      · rw [b_267_62, if_neg (by rw [iI_lt (by omega) (by omega)]; omega), if_pos rfl, b_267_181, hfe]
    · refine ⟨mo, m, ?_, qY_refl, fun m' q' w' u10 h1 h2 hx h3 h4 => ⟨m', ?_, qZ_refl⟩⟩
      · rw [b_154_73, if_neg (by rw [iI_lt (by omega) (by omega)]; omega), if_neg (by decide), if_pos rfl, b_154_191]
      · rw [b_267_62, if_neg (by rw [iI_lt (by omega) (by omega)]; omega), if_neg (by decide), if_pos rfl, b_267_181]
    · refine ⟨sh, m, ?_, qY_refl, fun m' q' w' u10 h1 h2 hx h3 h4 => ⟨m', ?_, qZ_refl⟩⟩
      · rw [b_154_73, if_neg (by rw [iI_lt (by omega) (by omega)]; omega), if_neg (by decide), if_neg (by decide), b_154_191]
      · rw [b_267_62, if_neg (by rw [iI_lt (by omega) (by omega)]; omega), if_neg (by decide), if_neg (by decide), b_267_181]
  | succ g ih =>
    intro i fc fx mo sh m H hg hf hmo hF hy hpz hP
    have hn7 := hF.1.2.1
    obtain ⟨m1, G1, g1, g2, g3, g4, g5, g6⟩ := J_live (d := d) (m := m) (q := q) (w := w) (P := P) (H := H) (by omega) hF hy (seed := a + i) (many := sn) hsn hq
    have hgo : ∀ x, x < 177 ∨ 189 < x → m1 x = m x := fun x hx => g2 x (by omega) (by omega) (by omega) (by omega) (by omega) (by omega) (by omega) (by omega)
    obtain ⟨o1, k1, k2, k3, k4, k5⟩ := fnR_k g3
    obtain ⟨v, hv⟩ : ∃ v, v = m1 177 1 := ⟨_, rfl⟩
    rw [← hv] at g5
    obtain ⟨hy1, hC1⟩ := clsL_y g2 hy
    have ep : m1 (p + 1) = m (p + 1) := hgo (p + 1) (by omega)
    have hT := T_77 (d := d) (m := m1) (q := q) (w := w) (n := n) (o := o1) (x := 178) (p := p) (z := zp) (by omega) f178 hip k1 k2 k3 (by rw [hgo p (by omega)]; exact hpz) hz7 (by rw [ep]; exact fun i hi => (hP i hi).2) (v := 0) (by decide)
    rw [ep, show (178 : Nat) + 1 = 179 from rfl, show (178 : Nat) + 2 = 180 from rfl] at hT
    obtain ⟨B, hB⟩ : ∃ B : Int, B = zb (zp ≤ n ∧ sI (bdC n o1 0 zp (m1 179) (m1 180) (m (p + 1))) n 0 = 0) := ⟨_, rfl⟩
    have hB01 : B = 0 ∨ B = 1 := by
      rw [hB]
      exact zb_n
    rw [← hB] at hT
    -- the next round
    obtain ⟨V, m3, p1, p2, p3⟩ := ih (i + 1) (if iI v < iI fc then v else fc) (if fx = -1 ∨ v < fx then v else fx) (if iI mo < iI v then v else mo) (sh + B) m1 G1 (by omega) (by
      right
      rcases hf with ⟨f1, f2, f3⟩ | ⟨f1, f2, f3, f4⟩
      · refine ⟨by omega, ?_, ?_⟩
        · rw [if_pos (by rw [f2, iI_lt (by omega) (by omega)]; omega), if_pos (Or.inl f3)]
        · rw [if_pos (Or.inl f3)]
          exact g5
      · simp only [iI_lt (show i32 v by omega) (show i32 fc by omega)]
        by_cases c : v < fx
        · rw [if_pos (by omega), if_pos (Or.inr c)]
          exact ⟨by omega, rfl, g5⟩
        · rw [if_neg (by omega), if_neg (by omega)]
          exact ⟨by omega, f2, f3, f4⟩) (by
      simp only [iI_lt (show i32 mo by omega) (show i32 v by omega)]
      split <;> omega) (by rw [hgo 108 (by omega), hgo 109 (by omega), hgo 110 (by omega)]; exact hF) hy1 (by rw [hgo p (by omega)]; exact hpz) (by rw [ep]; exact hP)
    refine ⟨V, m3, ?_, qY_trans g2 p2, fun m' q' w' u10 h1 h2 hx h3 h4 => ?_⟩
    · rw [b_154_73, if_pos (by rw [iI_lt (by omega) (by omega)]; omega), hqy]
      refine Eq.trans (b_154_94 hy.1) ?_
      rw [g1]
      simp only [rBd_v, Option.toList_some, Option.toList_none, List.cons_append, List.nil_append, List.append_nil]
      rw [b_154_104 (by omega), hqp, ← hv]
      refine Eq.trans (b_154_140 hip) ?_
      rw [show iI 0 = iI ((0 : Nat) : Int) from rfl, hT]
      simp only [rBd_v, Option.toList_some, Option.toList_none, List.cons_append, List.nil_append, List.append_nil]
      rw [b_154_151]
      simp only [iI_eq (show i32 B by omega) (show i32 0 by omega)]
      rcases hB01 with hb | hb
      · rw [if_pos (by omega), b_154_159, show (i : Int) + 1 = ((i + 1 : Nat) : Int) from rfl]
        rw [hb] at p1
        exact p1
      · rw [if_neg (by omega), b_154_159, show (i : Int) + 1 = ((i + 1 : Nat) : Int) from rfl]
        rw [hb] at p1
        exact p1
    · obtain ⟨m2, f1, f2, f3⟩ := g6 m' q' w' h1 h2 hx
      have hx2 := xR_z f3 hx
      have e376 : m2 376 = P := by rw [f3.1 376 (by decide) (by decide) (by decide) (by decide)]; exact h1
      have e381 : m2 381 0 = zp := by rw [f3.1 381 (by decide) (by decide) (by decide) (by decide)]; exact h3
      have e380 : m2 380 = P0 := by rw [f3.1 380 (by decide) (by decide) (by decide) (by decide)]; exact h4
      have hXp : xpR m2 n r 448 o1 zp (m1 178) (m1 179) (m1 180) := ⟨by rw [f2]; exact g3, k1.2.2.1, hx2.1, e381, hz7, by rw [e380]; exact fun i hi => by have := hP i hi; omega⟩
      have hVs := V_235 (d := d) (m := m2) (q := q') (w := w') (by omega) hXp (v := 0) (by decide)
      rw [e380, bd_eq hn7 hP, ← hB] at hVs
      have ev : m2 377 44 - m2 376 44 = v := by rw [f2, e376, ← g3.2.2.2.2.1, ← hF.2.2.2.2.1, hv, g4]
      obtain ⟨m4, f5, f6⟩ := p3 m2 q' w' (some (.int (iI v))) e376 f2 (by rw [hC1]; exact hx2) e381 e380
      refine ⟨m4, ?_, qZ_trans f3 f6⟩
      rw [← f5, b_267_62, if_pos (by rw [iI_lt (by omega) (by omega)]; omega), f1]
      simp only [rBd_v, Option.toList_some, Option.toList_none, List.cons_append, List.nil_append, List.append_nil]
      have key : ∀ t : Int, gv d rR267 116 [some (.ref 363), some (.int (iI a)), some (.int (iI (many : Int))), some (.int (iI qv)), some (.int (iI (sn : Int))), some (.int (iI e)), some (.int (iI fx)), some (.int (iI mo)), some (.int (iI sh)), some (.int (iI (i : Int))), some (.int (iI v))] [.int (iI t)] (mk m2 q' w') = gv d rR267 62 [some (.ref 363), some (.int (iI a)), some (.int (iI (many : Int))), some (.int (iI qv)), some (.int (iI (sn : Int))), some (.int (iI e)), some (.int (iI t)), some (.int (iI (if iI mo < iI v then v else mo))), some (.int (iI (sh + B))), some (.int (iI ((i + 1 : Nat) : Int))), some (.int (iI v))] [] (mk m2 q' w') := by
        intro t
        have key2 : ∀ t2 : Int, gv d rR267 132 [some (.ref 363), some (.int (iI a)), some (.int (iI (many : Int))), some (.int (iI qv)), some (.int (iI (sn : Int))), some (.int (iI e)), some (.int (iI t)), some (.int (iI mo)), some (.int (iI sh)), some (.int (iI (i : Int))), some (.int (iI v))] [.int (iI t2)] (mk m2 q' w') = gv d rR267 62 [some (.ref 363), some (.int (iI a)), some (.int (iI (many : Int))), some (.int (iI qv)), some (.int (iI (sn : Int))), some (.int (iI e)), some (.int (iI t)), some (.int (iI t2)), some (.int (iI (sh + B))), some (.int (iI ((i + 1 : Nat) : Int))), some (.int (iI v))] [] (mk m2 q' w') := by
          intro t2
          rw [b_267_132, show iI 0 = iI ((0 : Nat) : Int) from rfl, hVs]
          simp only [rBd_v, Option.toList_some, Option.toList_none, List.cons_append, List.nil_append, List.append_nil]
          rw [b_267_141]
          simp only [iI_eq (show i32 B by omega) (show i32 0 by omega)]
          rcases hB01 with hb | hb
          · rw [if_pos (by omega), b_267_149, hb]
            rfl
          · rw [if_neg (by omega), b_267_149, hb]
            rfl
        rw [b_267_116]
        by_cases c : iI mo < iI v
        · rw [if_pos c, if_pos c, key2]
        · rw [if_neg c, if_neg c, key2]
      have hfx : i32 fx := by omega
      rw [b_267_79, ev]
      simp only [iI_eq hfx (show i32 (-1) by omega), iI_lt (show i32 v by omega) hfx]
      by_cases c1 : fx = -1
      · rw [if_pos c1, if_pos (Or.inl c1), b_267_109, key]
      · rw [if_neg c1]
        by_cases c2 : v < fx
        · rw [if_pos c2, if_pos (Or.inr c2), b_267_109, key]
        · rw [if_neg c2, if_neg (fun y => y.elim c1 c2), key]
theorem K_span {a b c e f : Int} (ha : i32 a) (hb : i32 b) (hc : i32 c) (he : i32 e) (hf : i32 f) : cTH 154 267 [.int (iI a), .int (iI b), .int (iI c), .int (iI e), .int (iI f)] 1 := by
  intro m q w hR d hd
  obtain ⟨n, r, o, hF, k15, k16, hn7, hfk, hfl, hCi, ho, hbt⟩ := RR_fan hR
  obtain ⟨p, zp, p1, p2, hz7, p4, p5, hP⟩ := RR_pic hR
  obtain ⟨-, -, ⟨y, y', l1, l2, l3, l4, l5, lz, l6, l7⟩, -, -, -, hS⟩ := id hR
  have hyc : clsL m y lz := ⟨l3, l7.1, l6⟩
  have hE1 : gv (d - 1) rR154 25 [some (.ref 100), some (.int (iI a)), some (.int (iI b)), some (.int (iI c)), some (.int (iI e)), some (.int (iI f)), none, none, none, none] [.ref 100] (mk m q w) = some (.inr 0, (mk (wr m 100 17 (m 100 17 + 1)) q w, (1, 6))) := by
    rw [b_154_25, b_154_26, T_116 (by omega), if_pos rfl]
    rfl
  have hE2 : gv (d - 1) rR154 55 [some (.ref 100), some (.int (iI a)), some (.int (iI b)), some (.int (iI c)), some (.int (iI e)), some (.int (iI f)), none, none, none, none] [.ref 100] (mk m q w) = some (.inr 0, (mk (wr m 100 17 (m 100 17 + 1)) q w, (1, 6))) := by
    rw [b_154_55, b_154_56, T_116 (by omega), if_pos rfl]
    rfl
  have hC : ev d 154 [.ref 100, .int (iI a), .int (iI b), .int (iI c), .int (iI e), .int (iI f)] (mk m q w) = if (1 ≤ b ∧ b ≤ 10) ∧ ((0 ≤ c ∧ c ≤ 16) ∧ (1 ≤ e ∧ e ≤ 48)) ∧ (0 ≤ f ∧ f ≤ 2) then gv (d - 1) rR154 73 [some (.ref 100), some (.int (iI a)), some (.int (iI b)), some (.int (iI c)), some (.int (iI e)), some (.int (iI f)), some (.int (iI 2147483647)), some (.int (iI 0)), some (.int (iI 0)), some (.int (iI 0))] [] (mk m q w) else some (.inr 0, (mk (wr m 100 17 (m 100 17 + 1)) q w, (1, 6))) := by
    rw [e_154 (by omega) _ rfl rfl rfl rfl rfl rfl, b_154_0, T_6 (by omega) hb (by omega) (by omega)]
    simp only [rBd_v, Option.toList_some, Option.toList_none, List.cons_append, List.nil_append, List.append_nil]
    rw [b_154_8]
    simp only [zb_0]
    by_cases h1 : 1 ≤ b ∧ b ≤ 10
    · rw [if_neg (not_not_intro h1), T_6 (by omega) hc (by omega) (by omega)]
      simp only [rBd_v, Option.toList_some, Option.toList_none, List.cons_append, List.nil_append, List.append_nil]
      rw [b_154_18]
      simp only [zb_0]
      by_cases h2 : 0 ≤ c ∧ c ≤ 16
      · rw [if_neg (not_not_intro h2), b_154_26, T_116 (by omega), if_neg (by decide)]
        simp only [rBd_v, Option.toList_some, Option.toList_none, List.cons_append, List.nil_append, List.append_nil]
        rw [b_154_29, T_6 (by omega) he (by omega) (by omega)]
        simp only [rBd_v, Option.toList_some, Option.toList_none, List.cons_append, List.nil_append, List.append_nil]
        rw [b_154_38]
        simp only [zb_0]
        by_cases h3 : 1 ≤ e ∧ e ≤ 48
        · rw [if_neg (not_not_intro h3), T_6 (by omega) hf (by omega) (by omega)]
          simp only [rBd_v, Option.toList_some, Option.toList_none, List.cons_append, List.nil_append, List.append_nil]
          rw [b_154_48]
          simp only [zb_0]
          by_cases h4 : 0 ≤ f ∧ f ≤ 2
          · rw [if_neg (not_not_intro h4), if_pos ⟨h1, ⟨h2, h3⟩, h4⟩, b_154_56, T_116 (by omega), if_neg (by decide)]
            simp only [rBd_v, Option.toList_some, Option.toList_none, List.cons_append, List.nil_append, List.append_nil]
            rw [b_154_59]
            rfl
          · rw [if_pos h4, if_neg (fun z => h4 z.2.2), hE2]
        · rw [if_pos h3, if_neg (fun z => h3 z.2.1.2), hE2]
      · rw [if_pos h2, if_neg (fun z => h2 z.2.1.1), hE1]
    · rw [if_pos h1, if_neg (fun z => h1 z.1), hE1]
  have hX : ∀ m1 : Nat → Nat → Int, ev d 267 [.ref 363, .int (iI a), .int (iI b), .int (iI c), .int (iI e), .int (iI f)] (mk m1 q w) = if (1 ≤ b ∧ b ≤ 10) ∧ ((0 ≤ c ∧ c ≤ 16) ∧ (1 ≤ e ∧ e ≤ 48)) ∧ (0 ≤ f ∧ f ≤ 2) then gv (d - 1) rR267 62 [some (.ref 363), some (.int (iI a)), some (.int (iI b)), some (.int (iI c)), some (.int (iI e)), some (.int (iI f)), some (.int (iI (-1))), some (.int (iI 0)), some (.int (iI 0)), some (.int (iI 0)), none] [] (mk (wr m1 363 0 0) q w) else vI 0 (mk (noX m1 1 1) q w) := by
    intro m1
    have key : ∀ (P : Prop) [Decidable P], gv (d - 1) rR267 40 [some (.ref 363), some (.int (iI a)), some (.int (iI b)), some (.int (iI c)), some (.int (iI e)), some (.int (iI f)), none, none, none, none, none] [.int (iI (zb P)), .ref 363] (mk (wr m1 363 0 0) q w) = if P then gv (d - 1) rR267 62 [some (.ref 363), some (.int (iI a)), some (.int (iI b)), some (.int (iI c)), some (.int (iI e)), some (.int (iI f)), some (.int (iI (-1))), some (.int (iI 0)), some (.int (iI 0)), some (.int (iI 0)), none] [] (mk (wr m1 363 0 0) q w) else vI 0 (mk (noX m1 1 1) q w) := by
      intro P _
      rw [b_267_40, V_160 (by omega) (Or.inr rfl) (by omega) (by decide) (wr_s _ _ _ _)]
      by_cases h : P
      · rw [if_pos h, if_pos h]
        simp only [rBd_v, Option.toList_some, Option.toList_none, List.cons_append, List.nil_append, List.append_nil]
        rw [b_267_45, if_neg (by decide)]
      · rw [if_neg h, if_neg h]
        simp only [rBd_v, Option.toList_some, Option.toList_none, List.cons_append, List.nil_append, List.append_nil]
        rw [b_267_45, if_pos rfl]
        rfl
    have hE3 : gv (d - 1) rR267 39 [some (.ref 363), some (.int (iI a)), some (.int (iI b)), some (.int (iI c)), some (.int (iI e)), some (.int (iI f)), none, none, none, none, none] [.ref 363] (mk (wr m1 363 0 0) q w) = vI 0 (mk (noX m1 1 1) q w) := by
      rw [b_267_39, show iI 0 = iI (zb False) from rfl, key, if_neg not_false]
    rw [e_267 (by omega) _ rfl rfl rfl rfl rfl rfl, b_267_0, V_161 (by omega) hb (by omega) (by omega)]
    simp only [rBd_v, Option.toList_some, Option.toList_none, List.cons_append, List.nil_append, List.append_nil]
    rw [b_267_13]
    simp only [zb_0]
    by_cases h1 : 1 ≤ b ∧ b ≤ 10
    · rw [if_neg (not_not_intro h1), V_265 (by omega) hc he]
      simp only [rBd_v, Option.toList_some, Option.toList_none, List.cons_append, List.nil_append, List.append_nil]
      rw [b_267_22]
      simp only [zb_0]
      by_cases h2 : (0 ≤ c ∧ c ≤ 16) ∧ (1 ≤ e ∧ e ≤ 48)
      · rw [if_neg (not_not_intro h2), V_161 (by omega) hf (by omega) (by omega)]
        simp only [rBd_v, Option.toList_some, Option.toList_none, List.cons_append, List.nil_append, List.append_nil]
        rw [b_267_32]
        simp only [zb_0]
        by_cases h4 : 0 ≤ f ∧ f ≤ 2
        · rw [if_neg (not_not_intro h4), show iI 1 = iI (zb True) from rfl, key, if_pos trivial, if_pos ⟨h1, h2, h4⟩]
        · rw [if_pos h4, if_neg (fun z => h4 z.2.2), hE3]
      · rw [if_pos h2, if_neg (fun z => h2 z.2.1), hE3]
    · rw [if_pos h1, if_neg (fun z => h1 z.1), hE3]
  by_cases h : (1 ≤ b ∧ b ≤ 10) ∧ ((0 ≤ c ∧ c ≤ 16) ∧ (1 ≤ e ∧ e ≤ 48)) ∧ (0 ≤ f ∧ f ≤ 2)
  · rw [if_pos h] at hC
    obtain ⟨bn, rfl⟩ : ∃ bn : Nat, b = bn := ⟨b.toNat, by omega⟩
    obtain ⟨en, rfl⟩ : ∃ en : Nat, e = en := ⟨e.toNat, by omega⟩
    obtain ⟨V, m1, g1, g2, g3⟩ := J_span (d := d - 1) (q := q) (w := w) (P0 := m 380) (by omega) hz7 (a := a) (e := f) (many := bn) (sn := en) (by omega) (by omega) h.2.1.1 h.2.2 l1 p1 p2 bn 0 2147483647 (-1) 0 0 m (m 377) (by omega) (Or.inl ⟨rfl, rfl, rfl⟩) (by omega) hF hyc p4 hP
    have hms : ∀ x, 363 ≤ x → m1 x = m x := fun x hx => g2 x (by omega) (by omega) (by omega) (by omega) (by omega) (by omega) (by omega) (by omega)
    obtain ⟨m2, f1, f2⟩ := g3 (wr m1 363 0 0) q w none (by rw [wr_o _ _ _ _ (by decide), hms 376 (by decide)]) (by rw [wr_o _ _ _ _ (by decide), hms 377 (by decide)]) (by
      unfold xR
      rw [wr_b _ _ _ _ (by decide), wr_b _ _ _ _ (by decide), wr_b _ _ _ _ (by decide), wr_o _ _ _ _ (by decide), wr_o _ _ _ _ (by decide), hms 363 (by decide), hms 370 (by decide), hms 371 (by decide)]
      exact ⟨k15, k16, l7⟩) (by rw [wr_o _ _ _ _ (by decide), hms 381 (by decide)]; exact p5) (by rw [wr_o _ _ _ _ (by decide), hms 380 (by decide)])
    have hX1 := hX m1
    rw [if_pos h] at hX1
    exact q_in (hC.trans g1) (hX1.trans f1) (by rw [f2.2 0 (by decide), wr_s]) (qZ_RR (RR_0 (qY_RR hR g2)) f2)
  · rw [if_neg h] at hC
    have hX1 := hX (wr m 100 17 (m 100 17 + 1))
    rw [if_neg h] at hX1
    exact q_no hR hC hX1
end S
