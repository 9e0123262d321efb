/-! ===== rules by hand: throws, the kind of a step, a step is read ===== -/
theorem k_thr {d pc : Nat} {r : rRow} {L : rLoc} {M : rMem} {a i b ln : Nat} {res : rRes} (hf : rFind (rTi r) pc = some (.new i, (ln, (a, b)))) (ha : 200 ≤ a) (h : rThr (d + 1) r a pc [] M = some (.inr res)) : gv d r pc L [] M = some res := gv_r (by
  unfold rOne
  rw [hf]
  show (if 200 ≤ a then _ else _) = _
  rw [if_pos ha]
  exact h)
section S
variable {d n : Nat} {m : Nat → Nat → Int} {q : Nat → Nat → Option Nat} {w : Option (Nat → Int64)} {T : Nat → Int} {s : rd}
theorem T_116 (hd : 10 ≤ d) {g : Int} : ev d 116 [.ref 100, .int (iI g)] (mk m q w) = if iI g = iI 0 then some (.inr 0, (mk (wr m 100 17 (m 100 17 + 1)) q w, (1, 6))) else vV (mk m q w) := by
  rw [ev_at (show 1 ≤ d by omega) q_116 rfl rfl rfl]
  refine Eq.trans (k_ild1 rfl) ?_
  refine Eq.trans (k_i1ne rfl rfl) ?_
  refine ifc ?_ ?_
  · refine Eq.trans (k_ald0 rfl) ?_
    refine Eq.trans (k_dup rfl rfl) ?_
    refine Eq.trans (k_gtI rfl s_100 rfl (by decide)) ?_
    refine Eq.trans (k_con rfl) ?_
    refine Eq.trans (k_add rfl) ?_
    refine Eq.trans (k_ptI rfl s_100 rfl rfl) ?_
    exact k_thr rfl (by decide) (if_pos ⟨by omega, Or.inl ⟨rfl, rfl, rfl⟩, rfl, rfl⟩)
  · exact k_rtV rfl rfl
theorem T_125 (hd : 10 ≤ d) {g : Int} : ev d 125 [.ref 100, .int (iI g)] (mk m q w) = if iI g = iI 0 then some (.inr 1, (mk (wr m 100 16 (m 100 16 + 1)) q w, (1, 6))) else vV (mk m q w) := by
  rw [ev_at (show 1 ≤ d by omega) q_125 rfl rfl rfl]
  refine Eq.trans (k_ild1 rfl) ?_
  refine Eq.trans (k_i1ne rfl rfl) ?_
  refine ifc ?_ ?_
  · refine Eq.trans (k_ald0 rfl) ?_
    refine Eq.trans (k_dup rfl rfl) ?_
    refine Eq.trans (k_gtI rfl s_100 rfl (by decide)) ?_
    refine Eq.trans (k_con rfl) ?_
    refine Eq.trans (k_add rfl) ?_
    refine Eq.trans (k_ptI rfl s_100 rfl rfl) ?_
    exact k_thr rfl (by decide) (if_pos ⟨by omega, Or.inr ⟨rfl, rfl, rfl⟩, rfl, rfl⟩)
  · exact k_rtV rfl rfl
theorem S_78 (hd : 10 ≤ d) (h : onT m T n) (hs : gd n s) {k t : Nat} {l : List Nat} (hk : k < 8) (ht : rEw[k]? = some t) (hl : rTxt t = some l) : gv d rR78 2 [some (.ref 101), some (.int (iI k))] [] (mk (tr m s) q w) =
    if aWd T n l s then some (.inl (some (.ref k)), (mk (tr m (aTw T n l s)) q w, (0, 0))) else gv d rR78 2 [some (.ref 101), some (.int (iI ((k + 1 : Nat) : Int)))] [] (mk (tr m (aTw T n l s)) q w) := by
  refine Eq.trans (k_ild1 rfl) ?_
  refine Eq.trans (k_gts (c := 8) rfl (by decide)) ?_
  refine Eq.trans (k_ale8 rfl) ?_
  refine Eq.trans (k_i2ge rfl rfl) ?_
  simp only [iI_lt (by omega : i32 (k : Int)) (by omega : i32 8)]
  rw [if_pos (by omega)]
  refine Eq.trans (k_ald0 rfl) ?_
  refine Eq.trans (k_gts (c := 8) rfl (by decide)) ?_
  refine Eq.trans (k_ild1 rfl) ?_
  refine Eq.trans (k_aal8 rfl (by omega) (by omega)) ?_
  refine Eq.trans (k_gtE (t := t) rfl (by decide) ht) ?_
  refine Eq.trans (k_cV1 rfl s_101 q_27 rfl rfl rfl (bl rfl)) ?_
  rw [U_27 hd h hs hl]
  simp only [rBd_v, Option.toList_some, Option.toList_none, List.cons_append, List.nil_append, List.append_nil]
  refine Eq.trans (k_i1eq rfl rfl) ?_
  simp only [zb_0]
  by_cases hw : aWd T n l s
  · rw [if_neg (not_not_intro hw), if_pos hw]
    refine Eq.trans (k_gts (c := 8) rfl (by decide)) ?_
    refine Eq.trans (k_ild1 rfl) ?_
    refine Eq.trans (k_aal8 rfl (by omega) (by omega)) ?_
    exact k_rtA rfl rfl
  · rw [if_pos hw, if_neg hw]
    refine Eq.trans (k_inc1 rfl) ?_
    exact k_go rfl rfl
theorem E_78 : gv d rR78 2 [some (.ref 101), some (.int (iI ((8 : Nat) : Int)))] [] (mk m q w) = some (.inl (some .null), (mk m q w, (0, 0))) := by
  refine Eq.trans (k_ild1 rfl) ?_
  refine Eq.trans (k_gts (c := 8) rfl (by decide)) ?_
  refine Eq.trans (k_ale8 rfl) ?_
  refine Eq.trans (k_i2ge rfl rfl) ?_
  simp only [iI_lt (by omega : i32 ((8 : Nat) : Int)) (by omega : i32 8)]
  rw [if_neg (by omega)]
  refine Eq.trans (k_nul rfl) ?_
  exact k_rtN rfl rfl
/-- the kind of a step: the first of the words that stands here -/
def tkS (T : Nat → Int) (n : Nat) : List (Nat × List Nat) → rd → Option Nat × rd
  | [], s => (none, s)
  | (k, l) :: r, s => if aWd T n l s then (some k, aTw T n l s) else tkS T n r (aTw T n l s)
def stL : List (Nat × List Nat) := [(0, W15), (1, W24), (2, W26), (3, W28), (4, W18), (5, W14), (6, W23), (7, W11)]
theorem T_78 (hd : 11 ≤ d) (h : onT m T n) (hs : gd n s) : ev d 78 [.ref 101] (mk (tr m s) q w) = some (.inl (some (rOv (tkS T n stL s).1)), (mk (tr m (tkS T n stL s).2) q w, (0, 0))) := by
  have hd9 : 10 ≤ d - 1 := by omega
  rw [ev_at (show 1 ≤ d by omega) q_78 rfl rfl rfl]
  refine Eq.trans (k_con rfl) ?_
  refine Eq.trans (k_ist1 rfl) ?_
  have hr : ∀ (k : Nat) (L : List (Nat × List Nat)), L = stL.drop k → k ≤ 8 → ∀ s : rd, gd n s → gv (d - 1) rR78 2 [some (.ref 101), some (.int (iI k))] [] (mk (tr m s) q w) = some (.inl (some (rOv (tkS T n L s).1)), (mk (tr m (tkS T n L s).2) q w, (0, 0))) := by
    have step : ∀ (k t : Nat) (l : List Nat) (L : List (Nat × List Nat)), k < 8 → rEw[k]? = some t → rTxt t = some l → (∀ s : rd, gd n s → gv (d - 1) rR78 2 [some (.ref 101), some (.int (iI ((k + 1 : Nat) : Int)))] [] (mk (tr m s) q w) = some (.inl (some (rOv (tkS T n L s).1)), (mk (tr m (tkS T n L s).2) q w, (0, 0)))) →
        ∀ s : rd, gd n s → gv (d - 1) rR78 2 [some (.ref 101), some (.int (iI k))] [] (mk (tr m s) q w) = some (.inl (some (rOv (tkS T n ((k, l) :: L) s).1)), (mk (tr m (tkS T n ((k, l) :: L) s).2) q w, (0, 0))) := by
      intro k t l L hk ht hl hi s hs
      rw [S_78 hd9 h hs hk ht hl]
      unfold tkS
      by_cases hw : aWd T n l s
      · rw [if_pos hw, if_pos hw]
        rfl
      · rw [if_neg hw, if_neg hw]
        exact hi _ (aTw_gd' hs)
    have r8 : ∀ s : rd, gd n s → gv (d - 1) rR78 2 [some (.ref 101), some (.int (iI ((8 : Nat) : Int)))] [] (mk (tr m s) q w) = some (.inl (some (rOv (tkS T n [] s).1)), (mk (tr m (tkS T n [] s).2) q w, (0, 0))) := fun s _ => E_78
    have r7 := step 7 11 W11 _ (by decide) rfl W11_t r8
    have r6 := step 6 23 W23 _ (by decide) rfl W23_t r7
    have r5 := step 5 14 W14 _ (by decide) rfl W14_t r6
    have r4 := step 4 18 W18 _ (by decide) rfl W18_t r5
    have r3 := step 3 28 W28 _ (by decide) rfl W28_t r4
    have r2 := step 2 26 W26 _ (by decide) rfl W26_t r3
    have r1 := step 1 24 W24 _ (by decide) rfl W24_t r2
    have r0 := step 0 15 W15 _ (by decide) rfl W15_t r1
    intro k L hL hk
    subst hL
    have hk9 : k = 0 ∨ k = 1 ∨ k = 2 ∨ k = 3 ∨ k = 4 ∨ k = 5 ∨ k = 6 ∨ k = 7 ∨ k = 8 := by omega
    rcases hk9 with rfl | rfl | rfl | rfl | rfl | rfl | rfl | rfl | rfl
    · exact r0
    · exact r1
    · exact r2
    · exact r3
    · exact r4
    · exact r5
    · exact r6
    · exact r7
    · exact r8
  exact hr 0 stL rfl (by omega) s hs
/-! a step is read: rules -/
variable {u4 u5 u6 u7 : Option Value} {v2 v3 v4 v6 v7 : Int} {z : Nat}
theorem e_100 (hd : 1 ≤ d) {a b : Int} (M : rMem) : ev d 100 [.ref 103, .ref 101, .int (iI a), .int (iI b)] M = gv (d - 1) rR100 0 [some (.ref 103), some (.ref 101), some (.int (iI a)), some (.int (iI b)), none, none, none, none] [] M := ev_at hd q_100 rfl rfl rfl
theorem b_100_0 : gv d rR100 0 [some (.ref 103), some (.ref 101), some (.int (iI v2)), some (.int (iI v3)), u4, u5, u6, u7] [] (mk m q w) = rBd (ev d 2 [.ref 101] (mk m q w)) (fun v M' => gv d rR100 4 [some (.ref 103), some (.ref 101), some (.int (iI v2)), some (.int (iI v3)), u4, u5, u6, u7] (v.toList ++ []) M') := by
  refine Eq.trans (k_ald1 rfl) ?_
  exact k_cV0 rfl s_101 q_2 rfl rfl rfl (bl rfl)
theorem b_100_4 : gv d rR100 4 [some (.ref 103), some (.ref 101), some (.int (iI v2)), some (.int (iI v3)), u4, u5, u6, u7] [.int (iI v4)] (mk m q w) = rBd (ev d 78 [.ref 101] (mk m q w)) (fun v M' => gv d rR100 10 [some (.ref 103), some (.ref 101), some (.int (iI v2)), some (.int (iI v3)), some (.int (iI v4)), u5, u6, u7] (v.toList ++ []) M') := by
  refine Eq.trans (k_ist4 rfl) ?_
  refine Eq.trans (k_ald1 rfl) ?_
  exact k_cS1 rfl (by decide) q_78 rfl rfl (bl rfl)
theorem b_100_31 : gv d rR100 31 [some (.ref 103), some (.ref 101), some (.int (iI v2)), some (.int (iI v3)), some (.int (iI v4)), u5, u6, u7] [] (mk m q w) = rBd (ev d 5 [.ref 101, .int (iI 1), .int (iI v4)] (mk m q w)) (fun v M' => gv d rR100 38 [some (.ref 103), some (.ref 101), some (.int (iI v2)), some (.int (iI v3)), some (.int (iI v4)), u5, u6, u7] (v.toList ++ []) M') := by
  refine Eq.trans (k_ald1 rfl) ?_
  refine Eq.trans (k_con rfl) ?_
  refine Eq.trans (k_ild4 rfl) ?_
  exact k_cV2 rfl s_101 q_5 rfl rfl rfl (bl rfl)
theorem b_100_38 {L : rLoc} {M : rMem} : gv d rR100 38 L [] M = some (.inl none, (M, (0, 0))) := k_rtV rfl rfl
theorem b_100_10n : gv d rR100 10 [some (.ref 103), some (.ref 101), some (.int (iI v2)), some (.int (iI v3)), some (.int (iI v4)), u5, u6, u7] [.null] (mk m q w) = gv d rR100 31 [some (.ref 103), some (.ref 101), some (.int (iI v2)), some (.int (iI v3)), some (.int (iI v4)), some .null, some (.int (iI (m 103 3))), u7] [] (mk m q w) := by
  refine Eq.trans (k_asn5 rfl) ?_
  refine Eq.trans (k_ald0 rfl) ?_
  refine Eq.trans (k_gtI rfl s_103 rfl (by decide)) ?_
  refine Eq.trans (k_ist6 rfl) ?_
  refine Eq.trans (k_aln5 rfl) ?_
  exact k_inN rfl rfl
theorem b_100_10r : gv d rR100 10 [some (.ref 103), some (.ref 101), some (.int (iI v2)), some (.int (iI v3)), some (.int (iI v4)), u5, u6, u7] [.ref z] (mk m q w) = if iI (m 103 3) < iI 150 then gv d rR100 39 [some (.ref 103), some (.ref 101), some (.int (iI v2)), some (.int (iI v3)), some (.int (iI v4)), some (.ref z), some (.int (iI (m 103 3))), u7] [] (mk m q w)
    else gv d rR100 31 [some (.ref 103), some (.ref 101), some (.int (iI v2)), some (.int (iI v3)), some (.int (iI v4)), some (.ref z), some (.int (iI (m 103 3))), u7] [] (mk m q w) := by
  refine Eq.trans (k_ast5 rfl) ?_
  refine Eq.trans (k_ald0 rfl) ?_
  refine Eq.trans (k_gtI rfl s_103 rfl (by decide)) ?_
  refine Eq.trans (k_ist6 rfl) ?_
  refine Eq.trans (k_ald5 rfl) ?_
  refine Eq.trans (k_inR rfl) ?_
  refine Eq.trans (k_ild6 rfl) ?_
  refine Eq.trans (k_sip rfl (by decide)) ?_
  exact k_i2lt rfl rfl
theorem b_100_39 (hz : z < 8) : gv d rR100 39 [some (.ref 103), some (.ref 101), some (.int (iI v2)), some (.int (iI v3)), some (.int (iI v4)), some (.ref z), u6, u7] [] (mk m q w) = if z = 7 then (if iI v3 < iI 6 then gv d rR100 61 [some (.ref 103), some (.ref 101), some (.int (iI v2)), some (.int (iI v3)), some (.int (iI v4)), some (.ref z), u6, u7] [] (mk m q w)
      else rBd (ev d 5 [.ref 101, .int (iI 3), .int (iI v4)] (mk m q w)) (fun v M' => gv d rR100 60 [some (.ref 103), some (.ref 101), some (.int (iI v2)), some (.int (iI v3)), some (.int (iI v4)), some (.ref z), u6, u7] (v.toList ++ []) M'))
    else gv d rR100 61 [some (.ref 103), some (.ref 101), some (.int (iI v2)), some (.int (iI v3)), some (.int (iI v4)), some (.ref z), u6, u7] [] (mk m q w) := by
  refine Eq.trans (k_ald5 rfl) ?_
  refine Eq.trans (k_gts (c := 7) rfl (by decide)) ?_
  refine Eq.trans (k_acm rfl rfl hz (by decide)) ?_
  refine ifc ?_ rfl
  refine Eq.trans (k_ild3 rfl) ?_
  refine Eq.trans (k_bip rfl (by decide)) ?_
  refine Eq.trans (k_i2lt rfl rfl) ?_
  refine ifc rfl ?_
  refine Eq.trans (k_ald1 rfl) ?_
  refine Eq.trans (k_con rfl) ?_
  refine Eq.trans (k_ild4 rfl) ?_
  exact k_cV2 rfl s_101 q_5 rfl rfl rfl (bl rfl)
theorem b_100_60 {L : rLoc} {M : rMem} : gv d rR100 60 L [] M = some (.inl none, (M, (0, 0))) := k_rtV rfl rfl
theorem b_100_61 (hz : z < 8) (g0 : 0 ≤ v6) (g1 : v6 < 150) : gv d rR100 61 [some (.ref 103), some (.ref 101), some (.int (iI v2)), some (.int (iI v3)), some (.int (iI v4)), some (.ref z), some (.int (iI v6)), u7] [] (mk m q w) = gv d rR100 83 [some (.ref 103), some (.ref 101), some (.int (iI v2)), some (.int (iI v3)), some (.int (iI v4)), some (.ref z), some (.int (iI v6)), some (.int (iI 0))] [] (mk (wr m 103 3 (m 103 3 + 1)) (wq q 104 v6.toNat (some z)) w) := by
  refine Eq.trans (k_ald0 rfl) ?_
  refine Eq.trans (k_gtR rfl s_103 rfl (by decide)) ?_
  refine Eq.trans (k_ild6 rfl) ?_
  refine Eq.trans (k_ald5 rfl) ?_
  refine Eq.trans (k_aasE rfl s_104 (bl rfl) g0 g1 hz) ?_
  refine Eq.trans (k_ald0 rfl) ?_
  refine Eq.trans (k_dup rfl rfl) ?_
  refine Eq.trans (k_gtI rfl s_103 rfl (by decide)) ?_
  refine Eq.trans (k_con rfl) ?_
  refine Eq.trans (k_add rfl) ?_
  refine Eq.trans (k_ptI rfl s_103 rfl rfl) ?_
  refine Eq.trans (k_con rfl) ?_
  exact k_ist7 rfl
theorem b_100_83 {t : Nat} {l : List Nat} (ht : rEn[z]? = some t) (hl : rTxt t = some l) (hd : 9 ≤ d) (hl9 : l.length ≤ 100000) : gv d rR100 83 [some (.ref 103), some (.ref 101), some (.int (iI v2)), some (.int (iI v3)), some (.int (iI v4)), some (.ref z), some (.int (iI v6)), some (.int (iI v7))] [] (mk m q w) =
    if iI v7 < iI 3 then (if iI v7 < iI l.length then gv d rR100 113 [some (.ref 103), some (.ref 101), some (.int (iI v2)), some (.int (iI v3)), some (.int (iI v4)), some (.ref z), some (.int (iI v6)), some (.int (iI v7))] [.int (iI (3 * v6 + v7)), .ref 105] (mk m q w)
      else gv d rR100 132 [some (.ref 103), some (.ref 101), some (.int (iI v2)), some (.int (iI v3)), some (.int (iI v4)), some (.ref z), some (.int (iI v6)), some (.int (iI v7))] [.int (iI 0), .int (iI (3 * v6 + v7)), .ref 105] (mk m q w))
    else gv d rR100 139 [some (.ref 103), some (.ref 101), some (.int (iI v2)), some (.int (iI v3)), some (.int (iI v4)), some (.ref z), some (.int (iI v6)), some (.int (iI v7))] [] (mk m q w) := by
  refine Eq.trans (k_ild7 rfl) ?_
  refine Eq.trans (k_con rfl) ?_
  refine Eq.trans (k_i2ge rfl rfl) ?_
  refine ifc ?_ rfl
  refine Eq.trans (k_ald0 rfl) ?_
  refine Eq.trans (k_gtR rfl s_103 rfl (by decide)) ?_
  refine Eq.trans (k_con rfl) ?_
  refine Eq.trans (k_ild6 rfl) ?_
  refine Eq.trans (k_mul rfl) ?_
  refine Eq.trans (k_ild7 rfl) ?_
  refine Eq.trans (k_add rfl) ?_
  refine Eq.trans (k_ild7 rfl) ?_
  refine Eq.trans (k_ald5 rfl) ?_
  refine Eq.trans (k_gtE (t := t) rfl (by decide) ht) ?_
  refine Eq.trans (k_len rfl hl hd (bl rfl)) ?_
  refine Eq.trans (k_i2ge rfl rfl) ?_
  refine ifc rfl ?_
  exact k_con rfl
theorem b_100_113 {t : Nat} {l : List Nat} (ht : rEn[z]? = some t) (hl : rTxt t = some l) (hd : 9 ≤ d) (hl9 : l.length ≤ 100000) (g0 : 0 ≤ v7) (g1 : v7 < l.length) {i : Int} : gv d rR100 113 [some (.ref 103), some (.ref 101), some (.int (iI v2)), some (.int (iI v3)), some (.int (iI v4)), some (.ref z), some (.int (iI v6)), some (.int (iI v7))] [.int (iI i), .ref 105] (mk m q w) =
    rBd (ev d 99 [.ref 101, .int (iI (l.getD v7.toNat 0 : Nat)), .int (iI v2)] (mk m q w)) (fun v M' => gv d rR100 128 [some (.ref 103), some (.ref 101), some (.int (iI v2)), some (.int (iI v3)), some (.int (iI v4)), some (.ref z), some (.int (iI v6)), some (.int (iI v7))] (v.toList ++ [.int (iI i), .ref 105]) M') := by
  refine Eq.trans (k_ald1 rfl) ?_
  refine Eq.trans (k_ald5 rfl) ?_
  refine Eq.trans (k_gtE (t := t) rfl (by decide) ht) ?_
  refine Eq.trans (k_ild7 rfl) ?_
  refine Eq.trans (k_chr rfl hl g0 g1 hl9 hd (bl rfl)) ?_
  refine Eq.trans (k_ild2 rfl) ?_
  exact k_cS3 rfl (by decide) q_99 rfl rfl (bl rfl)
theorem b_100_128 {L : rLoc} {st : List Value} {M : rMem} : gv d rR100 128 L st M = gv d rR100 132 L st M := k_go rfl rfl
theorem b_100_132 {i j : Int} (g0 : 0 ≤ i) (g1 : i < 450) : gv d rR100 132 [some (.ref 103), some (.ref 101), some (.int (iI v2)), some (.int (iI v3)), some (.int (iI v4)), u5, u6, some (.int (iI v7))] [.int (iI j), .int (iI i), .ref 105] (mk m q w) = gv d rR100 83 [some (.ref 103), some (.ref 101), some (.int (iI v2)), some (.int (iI v3)), some (.int (iI v4)), u5, u6, some (.int (iI (v7 + 1)))] [] (mk (wr m 105 i.toNat j) q w) := by
  refine Eq.trans (k_iast rfl s_105 (bl rfl) g0 g1) ?_
  refine Eq.trans (k_inc7 rfl) ?_
  exact k_go rfl rfl
theorem b_100_139 (hz : z < 8) : gv d rR100 139 [some (.ref 103), some (.ref 101), some (.int (iI v2)), some (.int (iI v3)), u4, some (.ref z), u6, u7] [] (mk m q w) = if z = 7 then rBd (ev d 9 [.ref 101, .int (iI 91)] (mk m q w)) (fun v M' => gv d rR100 153 [some (.ref 103), some (.ref 101), some (.int (iI v2)), some (.int (iI v3)), u4, some (.ref z), u6, u7] (v.toList ++ []) M')
    else gv d rR100 168 [some (.ref 103), some (.ref 101), some (.int (iI v2)), some (.int (iI v3)), u4, some (.ref z), u6, u7] [] (mk m q w) := by
  refine Eq.trans (k_ald5 rfl) ?_
  refine Eq.trans (k_gts (c := 7) rfl (by decide)) ?_
  refine Eq.trans (k_acm rfl rfl hz (by decide)) ?_
  refine ifc ?_ rfl
  refine Eq.trans (k_ald1 rfl) ?_
  refine Eq.trans (k_bip rfl (by decide)) ?_
  exact k_cV1 rfl s_101 q_9 rfl rfl rfl (bl rfl)
theorem b_100_153 : gv d rR100 153 [some (.ref 103), some (.ref 101), some (.int (iI v2)), some (.int (iI v3)), u4, u5, u6, u7] [] (mk m q w) = rBd (ev d 101 [.ref 103, .ref 101, .int (iI v2), .int (iI (v3 + 1))] (mk m q w)) (fun v M' => gv d rR100 162 [some (.ref 103), some (.ref 101), some (.int (iI v2)), some (.int (iI v3)), u4, u5, u6, u7] (v.toList ++ []) M') := by
  refine Eq.trans (k_ald0 rfl) ?_
  refine Eq.trans (k_ald1 rfl) ?_
  refine Eq.trans (k_ild2 rfl) ?_
  refine Eq.trans (k_ild3 rfl) ?_
  refine Eq.trans (k_con rfl) ?_
  refine Eq.trans (k_add rfl) ?_
  exact k_cV3 rfl s_103 q_101 rfl rfl rfl (bl rfl)
theorem b_100_162 : gv d rR100 162 [some (.ref 103), some (.ref 101), some (.int (iI v2)), some (.int (iI v3)), u4, u5, u6, u7] [] (mk m q w) = rBd (ev d 9 [.ref 101, .int (iI 93)] (mk m q w)) (fun v M' => gv d rR100 168 [some (.ref 103), some (.ref 101), some (.int (iI v2)), some (.int (iI v3)), u4, u5, u6, u7] (v.toList ++ []) M') := by
  refine Eq.trans (k_ald1 rfl) ?_
  refine Eq.trans (k_bip rfl (by decide)) ?_
  exact k_cV1 rfl s_101 q_9 rfl rfl rfl (bl rfl)
theorem b_100_168 (g0 : 0 ≤ v6) (g1 : v6 < 150) : gv d rR100 168 [some (.ref 103), some (.ref 101), some (.int (iI v2)), some (.int (iI v3)), u4, u5, some (.int (iI v6)), u7] [] (mk m q w) = vV (mk (wr m 106 v6.toNat (m 103 3)) q w) := by
  refine Eq.trans (k_ald0 rfl) ?_
  refine Eq.trans (k_gtR rfl s_103 rfl (by decide)) ?_
  refine Eq.trans (k_ild6 rfl) ?_
  refine Eq.trans (k_ald0 rfl) ?_
  refine Eq.trans (k_gtI rfl s_103 rfl (by decide)) ?_
  refine Eq.trans (k_iast rfl s_106 (bl rfl) g0 g1) ?_
  exact k_rtV rfl rfl
end S
