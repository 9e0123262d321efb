/-! ===== the call even, alike ===== -/
def evb (b : Nat → Int) : Nat → Nat → Int → Int
  | 0, _, a => a
  | g + 1, k, a => evb b g (k + 1) (zOr a (b k))
abbrev pal (f : Int → Int) (n : Nat) : Prop := ∀ j : Nat, j < n / 2 → 0 ≤ j → f j = f ((n : Int) - 1 - j)
theorem pal_all {f : Int → Int} {n : Nat} : (∀ j : Nat, j < n → 0 ≤ j → f j = f ((n : Int) - 1 - j)) ↔ pal f n := by
  constructor
  · intro h j h1 _
    exact h j (by omega) (by omega)
  · intro h j h1 _
    by_cases c : j < n / 2
    · exact h j c (by omega)
    · by_cases c2 : n - 1 - j < n / 2
      · have := h (n - 1 - j) c2 (by omega)
        rw [show ((n - 1 - j : Nat) : Int) = (n : Int) - 1 - j by omega, show (n : Int) - 1 - ((n : Int) - 1 - j) = j by omega] at this
        exact this.symm
      · rw [show (n : Int) - 1 - j = j by omega]
section S
variable {d n : Nat} {m : Nat → Nat → Int} {q : Nat → Nat → Option Nat} {w : Option (Nat → Int64)} {r Q o : Nat} {A B C : Nat → Int}
theorem L_145 (hd : 6 ≤ d) (hk : fk (m 108) n o) (hl : fl (m 109) n) (hC : ∀ i, i < 28 → i32 (m 110 i)) : ∀ (g k : Nat) (a : Int), k + g = 4 → i32 a → gv d rR145 4 [some (.ref 100), some (.int (iI a)), some (.int (iI (k : Int)))] [] (mk m q w) = vI (evb (fun k => if pal (mkI n (m 109) (m 110) o k) n then zShl 1 k else 0) g k a) (mk m q w) := by
  intro g
  induction g with
  | zero =>
    intro k a hg _
    rw [b_145_4, if_neg (by rw [iI_lt (by omega) (by omega)]; omega)]
    rfl
  | succ g ih =>
    intro k a hg hi
    rw [b_145_4, if_pos (by rw [iI_lt (by omega) (by omega)]; omega), T_34 (by omega) f108 hk hl hC (by omega)]
    simp only [rBd_v, Option.toList_some, Option.toList_none, List.cons_append, List.nil_append, List.append_nil]
    rw [b_145_20]
    simp only [zb_0]
    rw [show evb (fun k => if pal (mkI n (m 109) (m 110) o k) n then zShl 1 k else 0) (g + 1) k a = evb (fun k => if pal (mkI n (m 109) (m 110) o k) n then zShl 1 k else 0) g (k + 1) (zOr a (if pal (mkI n (m 109) (m 110) o k) n then zShl 1 k else 0)) from rfl]
    by_cases c : pal (mkI n (m 109) (m 110) o k) n
    · rw [if_neg (not_not_intro c), if_pos c, b_145_29, show (k : Int) + 1 = ((k + 1 : Nat) : Int) from rfl, ih (k + 1) _ (by omega) (zOr_i _ _)]
    · rw [if_pos c, if_neg c, b_145_29, show (k : Int) + 1 = ((k + 1 : Nat) : Int) from rfl, ih (k + 1) _ (by omega) hi, zOr_0 hi]
theorem L_250 (hd : 4 ≤ d) (hF : fnR n r Q A B C (m 377)) (h6 : A 6 = o) (h15 : m 363 15 = n) {v : Nat} (hv : v < 4) {a : Int} : ∀ (g k : Nat) (P : Prop) [Decidable P], k + g = n → ∃ u3 u4, gv d rR250 23 [some (.ref 363), some (.int (iI a)), some (.int (iI v)), some (.int (iI (zb P))), some (.int (iI (k : Int)))] [] (mk m q w) = gv d rR250 13 [some (.ref 363), some (.int (iI (zOr a (if P ∧ ∀ j : Nat, j < n → k ≤ j → mkI n B C o v j = mkI n B C o v ((n : Int) - 1 - j) then zShl 1 v else 0)))), some (.int (iI ((v + 1 : Nat) : Int))), u3, u4] [] (mk m q w) := by
  have hn := hF.1.2.1
  intro g
  induction g with
  | zero =>
    intro k P _ hg
    refine ⟨some (.int (iI (zb P))), some (.int (iI (k : Int))), ?_⟩
    rw [b_250_23, h15, if_neg (by rw [iI_lt (by omega) (by omega)]; omega)]
    simp only [zb_0]
    by_cases c : P
    · rw [if_neg (not_not_intro c), b_250_84, if_pos ⟨c, fun j h1 h2 => by omega⟩]
      rfl
    · rw [if_pos c, b_250_84, if_neg (fun z => c z.1)]
      rfl
  | succ g ih =>
    intro k P _ hg
    have hno : ¬ (P ∧ ∀ j : Nat, j < n → k ≤ j → mkI n B C o v j = mkI n B C o v ((n : Int) - 1 - j)) → ∃ u3 u4, gv d rR250 64 [some (.ref 363), some (.int (iI a)), some (.int (iI v)), some (.int (iI (zb P))), some (.int (iI (k : Int)))] [] (mk m q w) = gv d rR250 13 [some (.ref 363), some (.int (iI (zOr a (if P ∧ ∀ j : Nat, j < n → k ≤ j → mkI n B C o v j = mkI n B C o v ((n : Int) - 1 - j) then zShl 1 v else 0)))), some (.int (iI ((v + 1 : Nat) : Int))), u3, u4] [] (mk m q w) := by
      intro hno
      obtain ⟨u3, u4, h⟩ := ih (k + 1) False (by omega)
      refine ⟨u3, u4, ?_⟩
      rw [b_250_64, b_250_65, show iI 0 = iI (zb False) from rfl, show (k : Int) + 1 = ((k + 1 : Nat) : Int) from rfl, h, if_neg (fun z => z.1), if_neg hno]
    rw [b_250_23, h15, if_pos (by rw [iI_lt (by omega) (by omega)]; omega)]
    simp only [zb_0]
    by_cases c : P
    · have e1 := X_217 (d := d) (m := m) (q := q) (w := w) (by omega) hF h6 h15 (v := v) (k := k) hv (by omega)
      have e2 := X_217 (d := d) (m := m) (q := q) (w := w) (by omega) hF h6 h15 (v := v) (k := n - 1 - k) hv (by omega)
      rw [show ((n - 1 - k : Nat) : Int) = (n : Int) - 1 - k by omega] at e2
      rw [if_neg (not_not_intro c), e1]
      simp only [rBd_v, Option.toList_some, Option.toList_none, List.cons_append, List.nil_append, List.append_nil]
      rw [b_250_43, h15, e2]
      simp only [rBd_v, Option.toList_some, Option.toList_none, List.cons_append, List.nil_append, List.append_nil]
      have r1 := fnR_lr hF h6 (p := (pl n v k).toNat) (v := v) (by have := pl_in (n := n) (v := v) (k := k) (by omega); omega) hv
      rw [← mk_lm (by omega)] at r1
      have r2 := fnR_lr hF h6 (p := (pl n v (n - 1 - k : Nat)).toNat) (v := v) (by have := pl_in (n := n) (v := v) (k := n - 1 - k) (by omega); omega) hv
      rw [← mk_lm (by omega), show ((n - 1 - k : Nat) : Int) = (n : Int) - 1 - k by omega] at r2
      rw [b_250_57]
      simp only [iI_eq (show i32 (mkI n B C o v k) by omega) (show i32 (mkI n B C o v ((n : Int) - 1 - k)) by omega)]
      by_cases c2 : mkI n B C o v k = mkI n B C o v ((n : Int) - 1 - k)
      · obtain ⟨u3, u4, h⟩ := ih (k + 1) True (by omega)
        refine ⟨u3, u4, ?_⟩
        rw [if_pos c2, b_250_65, show iI 1 = iI (zb True) from rfl, show (k : Int) + 1 = ((k + 1 : Nat) : Int) from rfl, h]
        have hi : (True ∧ ∀ j : Nat, j < n → k + 1 ≤ j → mkI n B C o v j = mkI n B C o v ((n : Int) - 1 - j)) ↔ (P ∧ ∀ j : Nat, j < n → k ≤ j → mkI n B C o v j = mkI n B C o v ((n : Int) - 1 - j)) := by
          constructor
          · intro z
            refine ⟨c, fun j h1 h2 => ?_⟩
            by_cases e : j = k
            · rw [e]
              exact c2
            · exact z.2 j h1 (by omega)
          · intro z
            exact ⟨trivial, fun j h1 h2 => z.2 j h1 (by omega)⟩
        by_cases c3 : P ∧ ∀ j : Nat, j < n → k ≤ j → mkI n B C o v j = mkI n B C o v ((n : Int) - 1 - j)
        · rw [if_pos c3, if_pos (hi.mpr c3)]
        · rw [if_neg c3, if_neg (fun z => c3 (hi.mp z))]
      · rw [if_neg c2]
        exact hno (fun z => c2 (z.2 k (by omega) (Nat.le_refl _)))
    · rw [if_pos c]
      exact hno (fun z => c z.1)
theorem L_250b (hd : 4 ≤ d) (hF : fnR n r Q A B C (m 377)) (h6 : A 6 = o) (h15 : m 363 15 = n) : ∀ (g k : Nat) (a : Int) (u3 u4 : Option Value), k + g = 4 → gv d rR250 13 [some (.ref 363), some (.int (iI a)), some (.int (iI (k : Int))), u3, u4] [] (mk m q w) = vI (evb (fun k => if pal (mkI n B C o k) n then zShl 1 k else 0) g k a) (mk m q w) := by
  intro g
  induction g with
  | zero =>
    intro k a u3 u4 hg
    rw [b_250_13, if_neg (by rw [iI_lt (by omega) (by omega)]; omega)]
    rfl
  | succ g ih =>
    intro k a u3 u4 hg
    obtain ⟨u5, u6, h⟩ := L_250 (q := q) (w := w) hd hF h6 h15 (v := k) (by omega) (a := a) n 0 True (by omega)
    rw [b_250_13, if_pos (by rw [iI_lt (by omega) (by omega)]; omega), show iI 1 = iI (zb True) from rfl, show iI 0 = iI ((0 : Nat) : Int) from rfl, h, ih (k + 1) _ _ _ (by omega)]
    rw [show evb (fun k => if pal (mkI n B C o k) n then zShl 1 k else 0) (g + 1) k a = evb (fun k => if pal (mkI n B C o k) n then zShl 1 k else 0) g (k + 1) (zOr a (if pal (mkI n B C o k) n then zShl 1 k else 0)) from rfl]
    by_cases c : pal (mkI n B C o k) n
    · rw [if_pos c, if_pos ⟨trivial, pal_all.mpr c⟩]
    · rw [if_neg c, if_neg (fun z => c (pal_all.mp z.2))]
theorem K_even : cOK 145 250 [] := by
  intro m q w hR d hd
  obtain ⟨n, r, o, hF, k15, k16, hn7, hfk, hfl, hCi, ho, hbt⟩ := RR_fan hR
  refine ⟨evb (fun k => if pal (mkI n (m 109) (m 110) o k) n then zShl 1 k else 0) 4 0 0, m, q, tk m, ?_, ?_, tk_0, tk_RR hR⟩
  · rw [e_145 (by omega) _ rfl, b_145_0]
    exact L_145 (by omega) hfk hfl hCi 4 0 0 (by omega) (by omega)
  · rw [e_250 (by omega) _ rfl, b_250_0, V_200 (by omega)]
    simp only [rBd_v, Option.toList_some, Option.toList_none, List.cons_append, List.nil_append, List.append_nil]
    rw [show cp (wr m 363 0 0) 376 377 48 = tk m from rfl, b_250_9]
    exact L_250b (by omega) (fnR_congr (fun _ _ => rfl) (fun _ _ => rfl) (fun _ _ => rfl) (fun j hj => tk_r hj) hF) hfk.2.2.1 (by rw [tk_b (by decide)]; exact k15) 4 0 0 none none (by omega)
end S
