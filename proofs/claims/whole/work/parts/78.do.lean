/-! ===== a work is done by both ===== -/
def qE (x : Nat) (m m1 : Nat → Nat → Int) : Prop := (∀ a, a ≠ x → a ≠ x + 1 → a ≠ x + 2 → a ≠ 184 → a ≠ 185 → a ≠ 188 → a ≠ 189 → a ≠ 103 → m1 a = m a) ∧ ∀ j, j ≠ 4 → j ≠ 5 → j ≠ 6 → m1 103 j = m 103 j
def rE (m m2 : Nat → Nat → Int) : Prop := (∀ a, a ≠ 377 → a ≠ 372 → a ≠ 373 → a ≠ 363 → m2 a = m a) ∧ ∀ j, j ≠ 31 → j ≠ 32 → j ≠ 33 → m2 363 j = m 363 j
theorem qE_refl {x : Nat} {m : Nat → Nat → Int} : qE x m m := ⟨fun _ _ _ _ _ _ _ _ _ => rfl, fun _ _ _ _ => rfl⟩
theorem rE_refl {m : Nat → Nat → Int} : rE m m := ⟨fun _ _ _ _ _ => rfl, fun _ _ _ _ => rfl⟩
theorem qE_trans {x : Nat} {m m1 m2 : Nat → Nat → Int} (h1 : qE x m m1) (h2 : qE x m1 m2) : qE x m m2 := ⟨fun a a1 a2 a3 a4 a5 a6 a7 a8 => (h2.1 a a1 a2 a3 a4 a5 a6 a7 a8).trans (h1.1 a a1 a2 a3 a4 a5 a6 a7 a8), fun j j1 j2 j3 => (h2.2 j j1 j2 j3).trans (h1.2 j j1 j2 j3)⟩
theorem rE_trans {m m1 m2 : Nat → Nat → Int} (h1 : rE m m1) (h2 : rE m1 m2) : rE m m2 := ⟨fun a a1 a2 a3 a4 => (h2.1 a a1 a2 a3 a4).trans (h1.1 a a1 a2 a3 a4), fun j j1 j2 j3 => (h2.2 j j1 j2 j3).trans (h1.2 j j1 j2 j3)⟩
theorem qE_C {x : Nat} {m m1 : Nat → Nat → Int} (hx : iFan x) (h : qC x m m1) : qE x m m1 := by
  have hr := fan_rng hx
  have h3 := h 103 (by omega) (by omega) (by omega) (by decide) (by decide) (by decide) (by decide)
  exact ⟨fun a a1 a2 a3 a4 a5 a6 a7 _ => h a a1 a2 a3 a4 a5 a6 a7, fun j _ _ _ => by rw [h3]⟩
theorem rE_X {m m1 : Nat → Nat → Int} (h : qX m m1) : rE m m1 := by
  have h3 := h 363 (by decide) (by decide) (by decide)
  exact ⟨fun a a1 a2 a3 _ => h a a1 a2 a3, fun j _ _ _ => by rw [h3]⟩
theorem qE_w {x : Nat} (hx : iFan x) {m : Nat → Nat → Int} {j : Nat} {v : Int} (hj : j = 4 ∨ j = 5 ∨ j = 6) : qE x m (wr m 103 j v) := ⟨fun a _ _ _ _ _ _ _ h => wr_o _ _ _ _ h, fun i h1 h2 h3 => wr_b _ _ _ _ (by omega)⟩
theorem rE_w {m : Nat → Nat → Int} {j : Nat} {v : Int} (hj : j = 31 ∨ j = 32 ∨ j = 33) : rE m (wr m 363 j v) := ⟨fun a _ _ _ h => wr_o _ _ _ _ h, fun i h1 h2 h3 => wr_b _ _ _ _ (by omega)⟩
def cI (y z sz : Nat) (C N Bh : Nat → Int) (K : Nat → Option Nat) (m : Nat → Nat → Int) (q : Nat → Nat → Option Nat) : Prop := iLaw y ∧ lawC C z ∧ m (y + 1) = C ∧ m y 3 = z ∧ m 103 3 = sz ∧ m 105 = N ∧ m 106 = Bh ∧ q 104 = K
def xI (n r z : Nat) (C W : Nat → Int) (m : Nat → Nat → Int) : Prop := xR m n r C z ∧ m 375 = W
def ctr (m : Nat → Nat → Int) (a b c : Nat) : Prop := m 103 4 = a ∧ m 103 5 = b ∧ m 103 6 = c
def xtr (m : Nat → Nat → Int) (a b c : Nat) : Prop := m 363 31 = a ∧ m 363 32 = b ∧ m 363 33 = c
theorem cI_q {y z sz x : Nat} {C N Bh : Nat → Int} {K : Nat → Option Nat} {m m1 : Nat → Nat → Int} {q : Nat → Nat → Option Nat} (hx : iFan x) (h : cI y z sz C N Bh K m q) (hq : qE x m m1) : cI y z sz C N Bh K m1 q := by
  obtain ⟨h1, h2, h3, h4, h5, h6, h7, h8⟩ := h
  have hr := fan_rng hx
  have hl := law_rng h1
  refine ⟨h1, h2, ?_, ?_, ?_, ?_, ?_, h8⟩
  · rw [hq.1 _ (by omega) (by omega) (by omega) (by omega) (by omega) (by omega) (by omega) (by omega)]; exact h3
  · rw [hq.1 _ (by omega) (by omega) (by omega) (by omega) (by omega) (by omega) (by omega) (by omega)]; exact h4
  · rw [hq.2 _ (by decide) (by decide) (by decide)]; exact h5
  · rw [hq.1 _ (by omega) (by omega) (by omega) (by omega) (by omega) (by omega) (by omega) (by omega)]; exact h6
  · rw [hq.1 _ (by omega) (by omega) (by omega) (by omega) (by omega) (by omega) (by omega) (by omega)]; exact h7
theorem xI_r {n r z : Nat} {C W : Nat → Int} {m m1 : Nat → Nat → Int} (h : xI n r z C W m) (hq : rE m m1) : xI n r z C W m1 := by
  obtain ⟨⟨h1, h2, h3⟩, h4⟩ := h
  refine ⟨⟨?_, ?_, ?_⟩, ?_⟩
  · rw [hq.2 _ (by decide) (by decide) (by decide)]; exact h1
  · rw [hq.2 _ (by decide) (by decide) (by decide)]; exact h2
  · rw [hq.1 370 (by decide) (by decide) (by decide) (by decide), hq.1 371 (by decide) (by decide) (by decide) (by decide), hq.2 24 (by decide) (by decide) (by decide)]; exact h3
  · rw [hq.1 375 (by decide) (by decide) (by decide) (by decide)]; exact h4
/-- what both do alike: the class's run, the reference's at any greater depth -/
def exO (d n r x y z sz : Nat) (C N Bh W : Nat → Int) (K : Nat → Option Nat) (cls : rMem → Option rRes) (ref : Option Value → Option Value → Option Value → Nat → rMem → Option rRes) : Prop :=
  ∀ (m : Nat → Nat → Int) (q : Nat → Nat → Option Nat) (w : Option (Nat → Int64)) (G : Nat → Int) (bg dn rf : Nat), cI y z sz C N Bh K m q → fnR n r 400 (m x) (m (x + 1)) (m (x + 2)) G → ctr m bg dn rf → bg ≤ 200 → dn ≤ bg → rf ≤ bg →
    ∃ (m1 : Nat → Nat → Int) (G1 : Nat → Int) (bg' dn' rf' : Nat), cls (mk m q w) = vV (mk m1 q w) ∧ qE x m m1 ∧ fnR n r 400 (m1 x) (m1 (x + 1)) (m1 (x + 2)) G1 ∧ ctr m1 bg' dn' rf' ∧ (bg' ≤ 200 ∧ dn' ≤ bg' ∧ rf' ≤ bg') ∧
    ∀ (dx : Nat), d ≤ dx → ∀ (m' : Nat → Nat → Int) (q' : Nat → Nat → Option Nat) (w' : Option (Nat → Int64)) (u3 u4 u5 : Option Value), m' 377 = G → xI n r z C W m' → xtr m' bg dn rf → ∃ m2, ref u3 u4 u5 dx (mk m' q' w') = vV (mk m2 q' w') ∧ m2 377 = G1 ∧ xtr m2 bg' dn' rf' ∧ rE m' m2
section J
variable {n r x y z sz : Nat} {C N Bh W : Nat → Int} {K : Nat → Option Nat}
set_option maxHeartbeats 4000000 in
theorem J_do (hx : iFan x) (hsz : sz ≤ 37) (hok : ∀ i, i < sz → okP n K N Bh W i) : ∀ (g d f t L c : Nat) (u1 u2 : Option Value), nest K Bh g f t L → t ≤ sz → L ≤ 6 → 26 ≤ d + 2 * L → c ≤ f →
    exO d n r x y z sz C N Bh W K (fun M => gv d rR105 17 [some (.ref 103), some (.ref x), some (.ref y), u1, u2, some (.int (iI L)), some (.int (iI t)), some (.int (iI f)), some (.int (iI c))] [] M) (fun u3 u4 u5 dx M => gv dx rR214 2 [some (.ref 363), u3, some (.int (iI ((4 * t : Nat) : Int))), some (.int (iI ((4 * f : Nat) : Int))), u4, u5] [] M) := by
  intro g
  induction g with
  | zero =>
    intro d f t L c u1 u2 hne ht hL hd hcf m q w G bg dn rf hI hF hc hb hdn hrf
    have hft : f = t := hne
    refine ⟨m, G, bg, dn, rf, ?_, qE_refl, hF, hc, ⟨hb, hdn, hrf⟩, fun dx hdx m' q' w' u3 u4 u5 hG hxI hxt => ⟨m', ?_, hG, hxt, rE_refl⟩⟩
    · simp only [b_105_17 hx hI.1, iI_lt (by omega : i32 (c : Int)) (by omega : i32 150), iI_lt (by omega : i32 (f : Int)) (by omega : i32 (t : Int)), b_105_136]
      rw [if_pos (by omega), if_neg (by omega)]
    · simp only [b_214_2, iI_lt (by omega : i32 ((4 * f : Nat) : Int)) (by omega : i32 ((4 * t : Nat) : Int)), b_214_161]
      rw [if_neg (by omega)]
  | succ g ih =>
    intro d f t L c u1 u2 hne ht hL hd hcf m q w G bg dn rf hI hF hc hb hdn hrf
    have hstop : (f = t ∨ bg = 200) → ∃ (m1 : Nat → Nat → Int) (G1 : Nat → Int) (bg' dn' rf' : Nat), gv d rR105 17 [some (.ref 103), some (.ref x), some (.ref y), u1, u2, some (.int (iI L)), some (.int (iI t)), some (.int (iI f)), some (.int (iI c))] [] (mk m q w) = vV (mk m1 q w) ∧ qE x m m1 ∧ fnR n r 400 (m1 x) (m1 (x + 1)) (m1 (x + 2)) G1 ∧ ctr m1 bg' dn' rf' ∧ (bg' ≤ 200 ∧ dn' ≤ bg' ∧ rf' ≤ bg') ∧
        ∀ (dx : Nat), d ≤ dx → ∀ (m' : Nat → Nat → Int) (q' : Nat → Nat → Option Nat) (w' : Option (Nat → Int64)) (u3 u4 u5 : Option Value), m' 377 = G → xI n r z C W m' → xtr m' bg dn rf → ∃ m2, gv dx rR214 2 [some (.ref 363), u3, some (.int (iI ((4 * t : Nat) : Int))), some (.int (iI ((4 * f : Nat) : Int))), u4, u5] [] (mk m' q' w') = vV (mk m2 q' w') ∧ m2 377 = G1 ∧ xtr m2 bg' dn' rf' ∧ rE m' m2 := by
      intro hs
      have hft9 := nest_ord _ _ _ _ hne
      refine ⟨m, G, bg, dn, rf, ?_, qE_refl, hF, hc, ⟨hb, hdn, hrf⟩, fun dx hdx m' q' w' u3 u4 u5 hG hxI hxt => ⟨m', ?_, hG, hxt, rE_refl⟩⟩
      · simp only [b_105_17 hx hI.1, iI_lt (by omega : i32 (c : Int)) (by omega : i32 150), iI_lt (by omega : i32 (f : Int)) (by omega : i32 (t : Int)), hc.1, iI_lt (by omega : i32 (bg : Int)) (by omega : i32 200), b_105_136]
        rw [if_pos (by omega)]
        rcases hs with hs | hs
        · rw [if_neg (by omega)]
        · split
          · rw [if_neg (by omega)]
          · rfl
      · simp only [b_214_2, iI_lt (by omega : i32 ((4 * f : Nat) : Int)) (by omega : i32 ((4 * t : Nat) : Int)), hxt.1, iI_lt (by omega : i32 (bg : Int)) (by omega : i32 200), b_214_161]
        rcases hs with hs | hs
        · rw [if_neg (by omega)]
        · split
          · rw [if_neg (by omega)]
          · rfl
    rcases hne with hft | ⟨h1, e, h2, h3, h4, h5, h6⟩
    · exact hstop (Or.inl hft)
    · by_cases hb2 : bg = 200
      · exact hstop (Or.inr hb2)
      · clear hstop
        obtain ⟨k, k1, k2, k3, k4, k5⟩ := hok f (by omega)
        obtain ⟨hy, hlC, hC1, hz3, hs3, hN, hB, hK⟩ := id hI
        -- begun
        obtain ⟨m0, e0⟩ : ∃ m0, m0 = wr m 103 4 ((bg + 1 : Nat) : Int) := ⟨_, rfl⟩
        have q0 : qE x m m0 := by rw [e0]; exact qE_w hx (Or.inl rfl)
        have I0 := cI_q hx hI q0
        have hr := fan_rng hx
        have F0 : fnR n r 400 (m0 x) (m0 (x + 1)) (m0 (x + 2)) G := by
          rw [e0, wr_o _ _ _ _ (by omega), wr_o _ _ _ _ (by omega), wr_o _ _ _ _ (by omega)]
          exact hF
        have c0 : ctr m0 (bg + 1) dn rf := by
          rw [e0]
          exact ⟨wr_s _ _ _ _, (wr_b _ _ _ _ (by decide)).trans hc.2.1, (wr_b _ _ _ _ (by decide)).trans hc.2.2⟩
        have cB : gv d rR105 17 [some (.ref 103), some (.ref x), some (.ref y), u1, u2, some (.int (iI L)), some (.int (iI t)), some (.int (iI f)), some (.int (iI c))] [] (mk m q w) = gv d rR105 59 [some (.ref 103), some (.ref x), some (.ref y), u1, u2, some (.int (iI L)), some (.int (iI t)), some (.int (iI f)), some (.int (iI c))] [.ref k] (mk m0 q w) := by
          rw [b_105_17 hx hy, if_pos (by rw [iI_lt (by omega) (by omega)]; omega), if_pos (by rw [iI_lt (by omega) (by omega)]; omega), if_pos (by rw [hc.1, iI_lt (by omega) (by omega)]; omega), b_105_42 hx hy (by omega) (by omega), hK, Int.toNat_natCast, k1, hc.1, show ((bg : Nat) : Int) + 1 = ((bg + 1 : Nat) : Int) from rfl, ← e0]
          rfl
        have cN : ∀ (m1 : Nat → Nat → Int), cI y z sz C N Bh K m1 q → gv d rR105 121 [some (.ref 103), some (.ref x), some (.ref y), u1, u2, some (.int (iI L)), some (.int (iI t)), some (.int (iI f)), some (.int (iI c))] [] (mk m1 q w) = gv d rR105 17 [some (.ref 103), some (.ref x), some (.ref y), u1, u2, some (.int (iI L)), some (.int (iI t)), some (.int (iI e)), some (.int (iI ((c + 1 : Nat) : Int)))] [] (mk m1 q w) := by
          intro m1 h9
          rw [b_105_121 hx hy (by omega) (by omega), Int.toNat_natCast, h9.2.2.2.2.2.2.1, h2]
          rfl
        have xB : ∀ (dx : Nat) (m' : Nat → Nat → Int) (q' : Nat → Nat → Option Nat) (w' : Option (Nat → Int64)) (u3 u4 u5 : Option Value), xI n r z C W m' → xtr m' bg dn rf → gv dx rR214 2 [some (.ref 363), u3, some (.int (iI ((4 * t : Nat) : Int))), some (.int (iI ((4 * f : Nat) : Int))), u4, u5] [] (mk m' q' w') = if k = 7 then gv dx rR214 38 [some (.ref 363), u3, some (.int (iI ((4 * t : Nat) : Int))), some (.int (iI ((4 * f : Nat) : Int))), u4, u5] [] (mk (wr m' 363 31 ((bg + 1 : Nat) : Int)) q' w')
            else gv dx rR214 95 [some (.ref 363), u3, some (.int (iI ((4 * t : Nat) : Int))), some (.int (iI ((4 * f : Nat) : Int))), u4, u5] [] (mk (wr m' 363 31 ((bg + 1 : Nat) : Int)) q' w') := by
          intro dx m' q' w' u3 u4 u5 hxI hxt
          rw [b_214_2, if_pos (by rw [iI_lt (by omega) (by omega)]; omega), if_pos (by rw [hxt.1, iI_lt (by omega) (by omega)]; omega), b_214_17 (by omega) (by omega), hxt.1, show ((bg : Nat) : Int) + 1 = ((bg + 1 : Nat) : Int) from rfl, wr_o _ _ _ _ (show 375 ≠ 363 by decide), hxI.2, Int.toNat_natCast, k3]
          simp only [iI_eq (by omega : i32 (k : Int)) (by omega : i32 7)]
          by_cases h7 : k = 7
          · rw [if_pos (by omega), if_pos h7]
          · rw [if_neg (by omega), if_neg h7]
        have xw : ∀ (m' : Nat → Nat → Int), m' 377 = G → xI n r z C W m' → xtr m' bg dn rf → (wr m' 363 31 ((bg + 1 : Nat) : Int)) 377 = G ∧ xI n r z C W (wr m' 363 31 ((bg + 1 : Nat) : Int)) ∧ xtr (wr m' 363 31 ((bg + 1 : Nat) : Int)) (bg + 1) dn rf := by
          intro m' hG hxI hxt
          exact ⟨(by rw [wr_o _ _ _ _ (by decide)]; exact hG), xI_r hxI (rE_w (Or.inl rfl)), ⟨wr_s _ _ _ _, (wr_b _ _ _ _ (by decide)).trans hxt.2.1, (wr_b _ _ _ _ (by decide)).trans hxt.2.2⟩⟩
        by_cases h7 : k = 7
        · -- again
          subst h7
          rcases k5 with ⟨-, a1, a2, a3⟩ | ⟨a1, -⟩
          case inr => exact absurd rfl a1
          obtain ⟨L6, nst⟩ := h5 k1
          obtain ⟨tm, tm1⟩ : ∃ tm : Nat, N (3 * f) = tm := ⟨(N (3 * f)).toNat, by omega⟩
          -- times
          have hag : ∀ (gg kk : Nat), kk + gg = tm → ∀ (m : Nat → Nat → Int) (G : Nat → Int) (bg dn rf : Nat), cI y z sz C N Bh K m q → fnR n r 400 (m x) (m (x + 1)) (m (x + 2)) G → ctr m bg dn rf → bg ≤ 200 → dn ≤ bg → rf ≤ bg →
              ∃ (m1 : Nat → Nat → Int) (G1 : Nat → Int) (bg' dn' rf' : Nat), gv (d - 1) rR104 21 [some (.ref 103), some (.ref x), some (.ref y), some (.int (iI f)), some (.int (iI L)), some (.int (iI tm)), some (.int (iI kk))] [] (mk m q w) = vV (mk m1 q w) ∧ qE x m m1 ∧ fnR n r 400 (m1 x) (m1 (x + 1)) (m1 (x + 2)) G1 ∧ ctr m1 bg' dn' rf' ∧ (bg' ≤ 200 ∧ dn' ≤ bg' ∧ rf' ≤ bg') ∧
              ∀ (dx : Nat), d ≤ dx → ∀ (m' : Nat → Nat → Int) (q' : Nat → Nat → Option Nat) (w' : Option (Nat → Int64)) (u3 : Option Value), m' 377 = G → xI n r z C W m' → xtr m' bg dn rf → ∃ m2 u5', gv dx rR214 51 [some (.ref 363), u3, some (.int (iI ((4 * t : Nat) : Int))), some (.int (iI ((4 * f : Nat) : Int))), some (.int (iI ((4 * e : Nat) : Int))), some (.int (iI kk))] [] (mk m' q' w') = gv dx rR214 2 [some (.ref 363), u3, some (.int (iI ((4 * t : Nat) : Int))), some (.int (iI ((4 * e : Nat) : Int))), some (.int (iI ((4 * e : Nat) : Int))), u5'] [] (mk m2 q' w') ∧ m2 377 = G1 ∧ xtr m2 bg' dn' rf' ∧ rE m' m2 := by
            intro gg
            induction gg with
            | zero =>
              intro kk hkk m G bg dn rf hI hF hc hb hdn hrf
              refine ⟨m, G, bg, dn, rf, ?_, qE_refl, hF, hc, ⟨hb, hdn, hrf⟩, fun dx hdx m' q' w' u3 hG hxI hxt => ⟨m', some (.int (iI kk)), ?_, hG, hxt, rE_refl⟩⟩
              · simp only [b_104_21 hx hy, iI_lt (by omega : i32 (kk : Int)) (by omega : i32 (tm : Int)), b_104_63]
                rw [if_neg (by omega)]
              · rw [b_214_51 (by omega) (by omega), show (((4 * f : Nat) : Int) + 1).toNat = 4 * f + 1 by omega, hxI.2, k4, tm1, if_neg (by rw [iI_lt (by omega) (by omega)]; omega), b_214_89]
            | succ gg ig =>
              intro kk hkk m G bg dn rf hI hF hc hb hdn hrf
              by_cases hb9 : bg = 200
              · refine ⟨m, G, bg, dn, rf, ?_, qE_refl, hF, hc, ⟨hb, hdn, hrf⟩, fun dx hdx m' q' w' u3 hG hxI hxt => ⟨m', some (.int (iI kk)), ?_, hG, hxt, rE_refl⟩⟩
                · simp only [b_104_21 hx hy, iI_lt (by omega : i32 (kk : Int)) (by omega : i32 (tm : Int)), hc.1, iI_lt (by omega : i32 (bg : Int)) (by omega : i32 200), b_104_63]
                  rw [if_pos (by omega), if_neg (by omega)]
                · rw [b_214_51 (by omega) (by omega), show (((4 * f : Nat) : Int) + 1).toNat = 4 * f + 1 by omega, hxI.2, k4, tm1, if_pos (by rw [iI_lt (by omega) (by omega)]; omega), hxt.1, if_neg (by rw [iI_lt (by omega) (by omega)]; omega), b_214_89]
              · -- the block once
                obtain ⟨m1, G1, bg1, dn1, rf1, s1, s2, s3, s4, s5, s6⟩ := ih (d - 2) (f + 1) e (L + 1) 0 (some (.int (iI ((f + 1 : Nat) : Int)))) (some (.int (iI (e : Int)))) nst (by omega) (by omega) (by omega) (by omega) m q w G bg dn rf hI hF hc hb hdn hrf
                have I1 := cI_q hx hI s2
                obtain ⟨m2, G2, bg2, dn2, rf2, t1, t2, t3, t4, t5, t6⟩ := ig (kk + 1) (by omega) m1 G1 bg1 dn1 rf1 I1 s3 s4 s5.1 s5.2.1 s5.2.2
                have h105 : ev (d - 1) 105 [.ref 103, .ref x, .ref y, .int (iI ((f + 1 : Nat) : Int)), .int (iI (e : Int)), .int (iI ((L + 1 : Nat) : Int))] (mk m q w) = vV (mk m1 q w) := by
                  rw [e_105 (by omega) _ rfl rfl rfl rfl rfl rfl, b_105_0 hx hy (by omega), hI.2.2.2.2.1]
                  have hmin : (if iI (sz : Int) < iI (e : Int) then (sz : Int) else (e : Int)) = (e : Int) := by
                    split
                    next h9 => rw [iI_lt (by omega) (by omega)] at h9; omega
                    next => rfl
                  rw [hmin]
                  exact s1
                refine ⟨m2, G2, bg2, dn2, rf2, ?_, qE_trans s2 t2, t3, t4, t5, fun dx hdx m' q' w' u3 hG hxI hxt => ?_⟩
                · rw [b_104_21 hx hy, if_pos (by rw [iI_lt (by omega) (by omega)]; omega), hc.1, if_pos (by rw [iI_lt (by omega) (by omega)]; omega), b_104_38 hx hy (by omega) (by omega), Int.toNat_natCast, hI.2.2.2.2.2.2.1, h2, show ((f : Nat) : Int) + 1 = ((f + 1 : Nat) : Int) from rfl, show ((L : Nat) : Int) + 1 = ((L + 1 : Nat) : Int) from rfl, h105]
                  simp only [rBd_v, Option.toList_some, Option.toList_none, List.cons_append, List.nil_append, List.append_nil, b_104_57 hx hy]
                  exact t1
                · obtain ⟨m3, p1, p2, p3, p4⟩ := s6 (dx - 1) (by omega) m' q' w' (some (.int (iI ((4 * (f + 1) : Nat) : Int)))) none none hG hxI hxt
                  obtain ⟨m4, u5', p5, p6, p7, p8⟩ := t6 dx hdx m3 q' w' u3 p2 (xI_r hxI p4) p3
                  refine ⟨m4, u5', ?_, p6, p7, rE_trans p4 p8⟩
                  have h214 : ev dx 214 [.ref 363, .int (iI ((4 * (f + 1) : Nat) : Int)), .int (iI ((4 * e : Nat) : Int))] (mk m' q' w') = vV (mk m3 q' w') := by
                    rw [e_214 (by omega) _ rfl rfl rfl, b_214_0]
                    exact p1
                  rw [b_214_51 (by omega) (by omega), show (((4 * f : Nat) : Int) + 1).toNat = 4 * f + 1 by omega, hxI.2, k4, tm1, if_pos (by rw [iI_lt (by omega) (by omega)]; omega), hxt.1, if_pos (by rw [iI_lt (by omega) (by omega)]; omega), show ((4 * f : Nat) : Int) + 4 = ((4 * (f + 1) : Nat) : Int) by omega, h214]
                  simp only [rBd_v, Option.toList_some, Option.toList_none, List.cons_append, List.nil_append, List.append_nil, b_214_83]
                  exact p5
          obtain ⟨m1, G1, bg1, dn1, rf1, s1, s2, s3, s4, s5, s6⟩ := hag tm 0 (by omega) m0 G (bg + 1) dn rf I0 F0 c0 (by omega) (by omega) (by omega)
          have I1 := cI_q hx I0 s2
          obtain ⟨m2, G2, bg2, dn2, rf2, t1, t2, t3, t4, t5, t6⟩ := ih d e t L (c + 1) u1 u2 h6 ht hL hd (by omega) m1 q w G1 bg1 dn1 rf1 I1 s3 s4 s5.1 s5.2.1 s5.2.2
          have h104 : ev d 104 [.ref 103, .ref x, .ref y, .int (iI f), .int (iI L)] (mk m0 q w) = vV (mk m1 q w) := by
            rw [e_104 (by omega) _ rfl rfl rfl rfl rfl, b_104_0 hx hy, if_pos (by rw [iI_lt (by omega) (by omega)]; omega), b_104_8 hx hy (by omega) (by omega), show (3 * (f : Int)).toNat = 3 * f by omega, I0.2.2.2.2.2.1, tm1]
            exact s1
          refine ⟨m2, G2, bg2, dn2, rf2, ?_, qE_trans q0 (qE_trans s2 t2), t3, t4, t5, fun dx hdx m' q' w' u3 u4 u5 hG hxI hxt => ?_⟩
          · show gv d rR105 17 _ _ _ = _
            rw [cB, b_105_59 hx hy (by decide), if_pos rfl, h104]
            simp only [rBd_v, Option.toList_some, Option.toList_none, List.cons_append, List.nil_append, List.append_nil, b_105_75 hx hy]
            rw [cN m1 I1]
            exact t1
          · obtain ⟨w1, w2, w3⟩ := xw m' hG hxI hxt
            obtain ⟨m3, u5', p1, p2, p3, p4⟩ := s6 dx hdx _ q' w' u3 w1 w2 w3
            obtain ⟨m4, p5, p6, p7, p8⟩ := t6 dx hdx m3 q' w' u3 (some (.int (iI ((4 * e : Nat) : Int)))) u5' p2 (xI_r w2 p4) p3
            refine ⟨m4, ?_, p6, p7, rE_trans (rE_w (Or.inl rfl)) (rE_trans p4 p8)⟩
            show gv dx rR214 2 _ _ _ = _
            rw [xB dx m' q' w' u3 u4 u5 hxI hxt, if_pos rfl, b_214_38 (by omega) (by omega), show (((4 * f : Nat) : Int) + 2).toNat = 4 * f + 2 by omega, w2.2, a3, h2, show 4 * (e : Int) = ((4 * e : Nat) : Int) by omega]
            exact p1.trans p5
        · -- a plain step
          rcases k5 with ⟨a1, -⟩ | ⟨-, a1, a2, a3, a4⟩
          · exact absurd a1 h7
          have he : e = f + 1 := by omega
          subst he
          have hyL : clsL m0 y z := ⟨hy, by rw [I0.2.2.1]; exact hlC, I0.2.2.2.1⟩
          obtain ⟨b, m1, G1, b01, s1, s2, s3, s4⟩ := M_step (m := m0) (q := q) (w := w) (show 14 ≤ d by omega) hx hyL F0 (k := k) (i := f) (by omega) (a := N (3 * f)) (b := N (3 * f + 1)) (c := N (3 * f + 2)) (by rw [I0.2.2.2.2.2.1]) (by rw [I0.2.2.2.2.2.1]) (by rw [I0.2.2.2.2.2.1]) a3
          have I1 := cI_q hx I0 (qE_C hx s2)
          have h3 := s2 103 (by omega) (by omega) (by omega) (by decide) (by decide) (by decide) (by decide)
          have hC1' : m0 (y + 1) = C := I0.2.2.1
          have cC : gv d rR105 59 [some (.ref 103), some (.ref x), some (.ref y), u1, u2, some (.int (iI L)), some (.int (iI t)), some (.int (iI f)), some (.int (iI c))] [.ref k] (mk m0 q w) = gv d rR105 95 [some (.ref 103), some (.ref x), some (.ref y), u1, u2, some (.int (iI L)), some (.int (iI t)), some (.int (iI f)), some (.int (iI c))] [.int (iI b)] (mk m1 q w) := by
            rw [b_105_59 hx hy k2, if_neg h7, b_105_78 hx hy (by omega) (by omega), hK, Int.toNat_natCast, k1]
            refine Eq.trans (b_105_88 hx hy k2) ?_
            rw [s1]
            simp only [rBd_v, Option.toList_some, Option.toList_none, List.cons_append, List.nil_append, List.append_nil]
          have xC : ∀ (dx : Nat), d ≤ dx → ∀ (m' : Nat → Nat → Int) (q' : Nat → Nat → Option Nat) (w' : Option (Nat → Int64)) (u3 u4 u5 : Option Value), m' 377 = G → xI n r z C W m' → ∃ m2, gv dx rR214 95 [some (.ref 363), u3, some (.int (iI ((4 * t : Nat) : Int))), some (.int (iI ((4 * f : Nat) : Int))), u4, u5] [] (mk m' q' w') = gv dx rR214 129 [some (.ref 363), u3, some (.int (iI ((4 * t : Nat) : Int))), some (.int (iI ((4 * f : Nat) : Int))), u4, u5] [.int (iI b)] (mk m2 q' w') ∧ m2 377 = G1 ∧ qX m' m2 := by
            intro dx hdx m' q' w' u3 u4 u5 hG hxI
            rw [hC1'] at s4
            obtain ⟨m2, p1, p2, p3⟩ := s4 m' q' w' hG hxI.1
            refine ⟨m2, ?_, p2, p3⟩
            have p1' := ev_up hdx p1
            rw [b_214_95 (by omega) (by omega) (by omega) (by omega) (by omega) (by omega) (by omega) (by omega), hxI.2, show ((4 * f : Nat) : Int).toNat = 4 * f by omega, show (((4 * f : Nat) : Int) + 1).toNat = 4 * f + 1 by omega, show (((4 * f : Nat) : Int) + 2).toNat = 4 * f + 2 by omega, show (((4 * f : Nat) : Int) + 3).toNat = 4 * f + 3 by omega, k3, k4, a1, a2, p1']
            simp only [rBd_v, Option.toList_some, Option.toList_none, List.cons_append, List.nil_append, List.append_nil]
          have xD : ∀ (dx : Nat) (m' : Nat → Nat → Int) (q' : Nat → Nat → Option Nat) (w' : Option (Nat → Int64)) (u3 u4 u5 : Option Value), gv dx rR214 155 [some (.ref 363), u3, some (.int (iI ((4 * t : Nat) : Int))), some (.int (iI ((4 * f : Nat) : Int))), u4, u5] [] (mk m' q' w') = gv dx rR214 2 [some (.ref 363), u3, some (.int (iI ((4 * t : Nat) : Int))), some (.int (iI ((4 * (f + 1) : Nat) : Int))), u4, u5] [] (mk m' q' w') := by
            intro dx m' q' w' u3 u4 u5
            rw [b_214_155, show ((4 * f : Nat) : Int) + 4 = ((4 * (f + 1) : Nat) : Int) by omega]
          rcases b01 with rfl | rfl
          · -- refused
            obtain ⟨m1', e1'⟩ : ∃ m1', m1' = wr m1 103 6 ((rf + 1 : Nat) : Int) := ⟨_, rfl⟩
            have q1 : qE x m1 m1' := by rw [e1']; exact qE_w hx (Or.inr (Or.inr rfl))
            have I2 := cI_q hx I1 q1
            have F2 : fnR n r 400 (m1' x) (m1' (x + 1)) (m1' (x + 2)) G1 := by
              rw [e1', wr_o _ _ _ _ (by omega), wr_o _ _ _ _ (by omega), wr_o _ _ _ _ (by omega)]
              exact s3
            have c2 : ctr m1' (bg + 1) dn (rf + 1) := by
              rw [e1']
              exact ⟨(wr_b _ _ _ _ (by decide)).trans (by rw [h3]; exact c0.1), (wr_b _ _ _ _ (by decide)).trans (by rw [h3]; exact c0.2.1), wr_s _ _ _ _⟩
            obtain ⟨m2, G2, bg2, dn2, rf2, t1, t2, t3, t4, t5, t6⟩ := ih d (f + 1) t L (c + 1) u1 u2 h6 ht hL hd (by omega) m1' q w G1 (bg + 1) dn (rf + 1) I2 F2 c2 (by omega) (by omega) (by omega)
            refine ⟨m2, G2, bg2, dn2, rf2, ?_, qE_trans q0 (qE_trans (qE_C hx s2) (qE_trans q1 t2)), t3, t4, t5, fun dx hdx m' q' w' u3 u4 u5 hG hxI hxt => ?_⟩
            · show gv d rR105 17 _ _ _ = _
              rw [cB, cC, b_105_95 hx hy, if_pos rfl, h3, c0.2.2, show ((rf : Nat) : Int) + 1 = ((rf + 1 : Nat) : Int) from rfl, ← e1', cN m1' I2]
              exact t1
            · obtain ⟨w1, w2, w3⟩ := xw m' hG hxI hxt
              obtain ⟨m3, p1, p2, p3⟩ := xC dx hdx _ q' w' u3 u4 u5 w1 w2
              have r3 := rE_X p3
              have hx3 := p3 363 (by decide) (by decide) (by decide)
              obtain ⟨m4, p5, p6, p7, p8⟩ := t6 dx hdx (wr m3 363 33 ((rf + 1 : Nat) : Int)) q' w' u3 u4 u5 (by rw [wr_o _ _ _ _ (by decide)]; exact p2) (xI_r (xI_r w2 r3) (rE_w (Or.inr (Or.inr rfl)))) ⟨(wr_b _ _ _ _ (by decide)).trans (by rw [hx3]; exact w3.1), (wr_b _ _ _ _ (by decide)).trans (by rw [hx3]; exact w3.2.1), wr_s _ _ _ _⟩
              refine ⟨m4, ?_, p6, p7, rE_trans (rE_w (Or.inl rfl)) (rE_trans r3 (rE_trans (rE_w (Or.inr (Or.inr rfl))) p8))⟩
              show gv dx rR214 2 _ _ _ = _
              rw [xB dx m' q' w' u3 u4 u5 hxI hxt, if_neg h7, p1, b_214_129, if_pos rfl, hx3, w3.2.2, show ((rf : Nat) : Int) + 1 = ((rf + 1 : Nat) : Int) from rfl, xD]
              exact p5
          · -- done
            obtain ⟨m1', e1'⟩ : ∃ m1', m1' = wr m1 103 5 ((dn + 1 : Nat) : Int) := ⟨_, rfl⟩
            have q1 : qE x m1 m1' := by rw [e1']; exact qE_w hx (Or.inr (Or.inl rfl))
            have I2 := cI_q hx I1 q1
            have F2 : fnR n r 400 (m1' x) (m1' (x + 1)) (m1' (x + 2)) G1 := by
              rw [e1', wr_o _ _ _ _ (by omega), wr_o _ _ _ _ (by omega), wr_o _ _ _ _ (by omega)]
              exact s3
            have c2 : ctr m1' (bg + 1) (dn + 1) rf := by
              rw [e1']
              exact ⟨(wr_b _ _ _ _ (by decide)).trans (by rw [h3]; exact c0.1), wr_s _ _ _ _, (wr_b _ _ _ _ (by decide)).trans (by rw [h3]; exact c0.2.2)⟩
            obtain ⟨m2, G2, bg2, dn2, rf2, t1, t2, t3, t4, t5, t6⟩ := ih d (f + 1) t L (c + 1) u1 u2 h6 ht hL hd (by omega) m1' q w G1 (bg + 1) (dn + 1) rf I2 F2 c2 (by omega) (by omega) (by omega)
            refine ⟨m2, G2, bg2, dn2, rf2, ?_, qE_trans q0 (qE_trans (qE_C hx s2) (qE_trans q1 t2)), t3, t4, t5, fun dx hdx m' q' w' u3 u4 u5 hG hxI hxt => ?_⟩
            · show gv d rR105 17 _ _ _ = _
              rw [cB, cC, b_105_95 hx hy, if_neg iI10, h3, c0.2.1, show ((dn : Nat) : Int) + 1 = ((dn + 1 : Nat) : Int) from rfl, ← e1', cN m1' I2]
              exact t1
            · obtain ⟨w1, w2, w3⟩ := xw m' hG hxI hxt
              obtain ⟨m3, p1, p2, p3⟩ := xC dx hdx _ q' w' u3 u4 u5 w1 w2
              have r3 := rE_X p3
              have hx3 := p3 363 (by decide) (by decide) (by decide)
              obtain ⟨m4, p5, p6, p7, p8⟩ := t6 dx hdx (wr m3 363 32 ((dn + 1 : Nat) : Int)) q' w' u3 u4 u5 (by rw [wr_o _ _ _ _ (by decide)]; exact p2) (xI_r (xI_r w2 r3) (rE_w (Or.inr (Or.inl rfl)))) ⟨(wr_b _ _ _ _ (by decide)).trans (by rw [hx3]; exact w3.1), wr_s _ _ _ _, (wr_b _ _ _ _ (by decide)).trans (by rw [hx3]; exact w3.2.2)⟩
              refine ⟨m4, ?_, p6, p7, rE_trans (rE_w (Or.inl rfl)) (rE_trans r3 (rE_trans (rE_w (Or.inr (Or.inl rfl))) p8))⟩
              show gv dx rR214 2 _ _ _ = _
              rw [xB dx m' q' w' u3 u4 u5 hxI hxt, if_neg h7, p1, b_214_129, if_neg iI10, hx3, w3.2.1, show ((dn : Nat) : Int) + 1 = ((dn + 1 : Nat) : Int) from rfl, xD]
              exact p5
end J
