/-! ===== the call near, alike ===== -/
def upI (b c : Int) : Int := if c = -1 then b else if b = -1 then c else if c < b then c else b
def bst (f : List Nat → Int) : Int → List (List Nat) → Int
  | b, [] => b
  | b, l :: xs => bst f (upI b (f l)) xs
theorem upI_p {b c : Int} : (upI b c = b ∨ (upI b c = c ∧ c ≠ -1)) ∧ (b ≠ -1 → upI b c ≠ -1 ∧ upI b c ≤ b) ∧ (c ≠ -1 → upI b c ≠ -1 ∧ upI b c ≤ c) := by
  unfold upI
  by_cases h1 : c = -1
  · rw [if_pos h1]
    omega
  · rw [if_neg h1]
    by_cases h2 : b = -1
    · rw [if_pos h2]
      omega
    · rw [if_neg h2]
      by_cases h3 : c < b
      · rw [if_pos h3]
        omega
      · rw [if_neg h3]
        omega
theorem bst_p {f : List Nat → Int} : ∀ (xs : List (List Nat)) (b : Int), (bst f b xs = b ∨ ∃ l, l ∈ xs ∧ bst f b xs = f l ∧ f l ≠ -1) ∧ (b ≠ -1 → bst f b xs ≠ -1 ∧ bst f b xs ≤ b) ∧ (∀ l, l ∈ xs → f l ≠ -1 → bst f b xs ≠ -1 ∧ bst f b xs ≤ f l) := by
  intro xs
  induction xs with
  | nil =>
    intro b
    exact ⟨Or.inl rfl, fun h => ⟨h, Int.le_refl _⟩, fun l hl => by cases hl⟩
  | cons l xs ih =>
    intro b
    obtain ⟨i1, i2, i3⟩ := ih (upI b (f l))
    obtain ⟨u1, u2, u3⟩ := upI_p (b := b) (c := f l)
    have e : bst f b (l :: xs) = bst f (upI b (f l)) xs := rfl
    rw [e]
    refine ⟨?_, fun h => ?_, fun l' hl h => ?_⟩
    · rcases i1 with h | ⟨l', h1, h2, h3⟩
      · rcases u1 with h4 | ⟨h4, h5⟩
        · exact Or.inl (h.trans h4)
        · exact Or.inr ⟨l, List.mem_cons_self, h.trans h4, h5⟩
      · exact Or.inr ⟨l', List.mem_cons_of_mem _ h1, h2, h3⟩
    · have h1 := u2 h
      have h2 := i2 h1.1
      omega
    · rcases List.mem_cons.mp hl with h1 | h1
      · subst h1
        have h2 := u3 h
        have h4 := i2 h2.1
        omega
      · exact i3 l' h1 h
def sgl (B : Nat → Nat) (n : Nat) (l : List Nat) : Nat → Nat := gf (lsO (fun p => ix B (gf l p) n 0) n 0)
/-- the reference's cost of an order -/
def rsO (al : Nat → Nat → Nat) (o : Nat) (B : Nat → Nat) (n : Nat) (l : List Nat) : Int := if (∀ p, p < n → al p (gf l p) ≠ 0) then tS (tB al o B) n (sgl B n l) n + fc n (sgl B n l) n id else -1
theorem ixp {n : Nat} {B π : Nat → Nat} (hB : pmt n B) (hl : pmt n π) : pmt n (fun p => ix B (π p) n 0) := by
  refine ⟨fun i hi => (ix_at hB (hl.1 i hi)).1, fun i j hi hj e => ?_⟩
  have h1 := (ix_at hB (hl.1 i hi)).2
  have h2 := (ix_at hB (hl.1 j hj)).2
  have e : ix B (π i) n 0 = ix B (π j) n 0 := e
  rw [e] at h1
  exact hl.2 i j hi hj (h1.symm.trans h2)
theorem sgl_e {B : Nat → Nat} {n : Nat} {l : List Nat} {p : Nat} (hp : p < n) : sgl B n l p = ix B (gf l p) n 0 := by
  unfold sgl
  rw [lsO_gf n 0 p hp, Nat.zero_add]
theorem sgl_p {B : Nat → Nat} {n : Nat} {l : List Nat} (hB : pmt n B) (hl : pmt n (gf l)) : pmt n (sgl B n l) ∧ ∀ p, p < n → sgl B n l p < n ∧ B (sgl B n l p) = gf l p := by
  have h := ixp hB hl
  refine ⟨⟨fun i hi => ?_, fun i j hi hj e => ?_⟩, fun p hp => ?_⟩
  · rw [sgl_e hi]
    exact h.1 i hi
  · rw [sgl_e hi, sgl_e hj] at e
    exact h.2 i j hi hj e
  · rw [sgl_e hp]
    exact ix_at hB (hl.1 p hp)
theorem tS_c {t : Nat → Nat → Int} {n : Nat} {σ ρ : Nat → Nat} (h : ∀ p, p < n → σ p = ρ p) : ∀ g, g ≤ n → tS t n σ g = tS t n ρ g := by
  intro g
  induction g with
  | zero => exact fun _ => rfl
  | succ g ih =>
    intro hg
    unfold tS
    rw [h _ (by omega), ih (by omega)]
theorem fc_c {n : Nat} {σ ρ : Nat → Nat} (h : ∀ p, p < n → σ p = ρ p) : ∀ g τ, g ≤ n → fc n σ g τ = fc n ρ g τ := by
  intro g
  induction g with
  | zero => exact fun _ _ => rfl
  | succ g ih =>
    intro τ hg
    unfold fc
    rw [h _ (by omega), ih _ (by omega)]
theorem tS_le {t : Nat → Nat → Int} (ht : ∀ p i, t p i ≤ 1) {n : Nat} {σ : Nat → Nat} : ∀ g, tS t n σ g ≤ g := by
  intro g
  induction g with
  | zero => exact Int.le_refl _
  | succ g ih =>
    have := ht (n - (g + 1)) (σ (n - (g + 1)))
    unfold tS
    omega
theorem fc_le {n : Nat} {σ : Nat → Nat} : ∀ g τ, fc n σ g τ ≤ g := by
  intro g
  induction g with
  | zero => exact fun _ => Nat.le_refl _
  | succ g ih =>
    intro τ
    have := ih (sw2 τ (n - (g + 1)) (ix τ (σ (n - (g + 1))) n 0))
    unfold fc
    split <;> omega
theorem rsO_b {al : Nat → Nat → Nat} {o n : Nat} {B : Nat → Nat} {l : List Nat} (hn7 : n ≤ 7) : -1 ≤ rsO al o B n l ∧ rsO al o B n l ≤ 14 := by
  have h1 := tS_le (t := tB al o B) (fun p i => (tB_01 p i).2) (n := n) (σ := sgl B n l) n
  have h2 := tS_ge (t := tB al o B) (fun p i => (tB_01 p i).1) (n := n) (σ := sgl B n l) n
  have h3 := fc_le (n := n) (σ := sgl B n l) n id
  unfold rsO
  split <;> omega
theorem id_p {n : Nat} : pmt n id := ⟨fun _ h => h, fun _ _ _ _ e => e⟩
theorem near_eq {al : Nat → Nat → Nat} {o n : Nat} {B : Nat → Nat} (hn7 : n ≤ 7) (hal : ∀ t s, t < n → s < n → al t s < 4) (hB : pmt n B) {L : List (List Nat)} (h1 : ∀ l, l ∈ L → okL n l = true) (h2 : ∀ σ, pmt n σ → lsO σ n 0 ∈ L) : (0 < wW al n (2 ^ n - 1) → sB (okB al B) (tB al o B) n n id 0 1000 = bst (rsO al o B n) (-1) L) ∧ (wW al n (2 ^ n - 1) = 0 → bst (rsO al o B n) (-1) L = -1) := by
  have hpw := pw_lt n (by omega)
  obtain ⟨b1, -, b3⟩ := bst_p (f := rsO al o B n) L (-1)
  have hne : ∀ l, rsO al o B n l ≠ -1 ↔ ∀ p, p < n → al p (gf l p) ≠ 0 := by
    intro l
    have h4 := tS_ge (t := tB al o B) (fun p i => (tB_01 p i).1) (n := n) (σ := sgl B n l) n
    unfold rsO
    by_cases c : ∀ p, p < n → al p (gf l p) ≠ 0
    · rw [if_pos c]
      exact ⟨fun _ => c, fun _ => by omega⟩
    · rw [if_neg c]
      exact ⟨fun y => absurd rfl y, fun y => absurd y c⟩
  have hok : ∀ l, pmt n (gf l) → (∀ p, p < n → al p (gf l p) ≠ 0) → ∀ p, n - n ≤ p → p < n → okB al B p (sgl B n l p) = true := by
    intro l hl hv p _ hp
    unfold okB
    rw [((sgl_p hB hl).2 p hp).2]
    exact decide_eq_true (hv p hp)
  have ht0 : ∀ p i, 0 ≤ tB al o B p i := fun p i => (tB_01 p i).1
  refine ⟨fun hw => ?_, fun hw => ?_⟩
  · obtain ⟨π, p1, p2⟩ := way_of hn7 hal n 0 0 (by omega) (Nat.pow_pos (by decide)) (by decide) (by rw [Nat.sub_zero]; exact hw)
    have hπ : pmt n π := ⟨fun i hi => (p1 i (Nat.zero_le _) hi).1, fun i j hi hj e => p2 i j (Nat.zero_le _) hi (Nat.zero_le _) hj e⟩
    have hg : ∀ {σ : Nat → Nat} p, p < n → gf (lsO σ n 0) p = σ p := fun p hp => by rw [lsO_gf n 0 p hp, Nat.zero_add]
    have h3 := b3 _ (h2 π hπ) ((hne _).mpr (fun p hp => by rw [hg p hp]; exact (p1 p (Nat.zero_le _) hp).2.2))
    obtain ⟨l, l1, l2, l3⟩ := b1.resolve_left h3.1
    have hl := (okL_use (h1 l l1)).1
    have hv := (hne l).mp l3
    have hlow := sB_low (ok := okB al B) (t := tB al o B) (n := n) ht0 (sgl_p hB hl).1 n id 0 1000 (Nat.le_refl _) id_p (fun j hj => by omega) (hok l hl hv)
    have hrl := rsO_b (al := al) (o := o) (B := B) (l := l) hn7
    have e : rsO al o B n l = tS (tB al o B) n (sgl B n l) n + fc n (sgl B n l) n id := by
      unfold rsO
      rw [if_pos hv]
    rcases sB_is (ok := okB al B) (t := tB al o B) (n := n) ht0 n id 0 1000 (Nat.le_refl _) id_p with h4 | ⟨σ, s1, -, s3, s4⟩
    · omega
    · have hπ2 : pmt n (fun p => B (σ p)) := ⟨fun i hi => hB.1 _ (s1.1 i hi), fun i j hi hj e => s1.2 i j hi hj (hB.2 _ _ (s1.1 i hi) (s1.1 j hj) e)⟩
      have hv2 : ∀ p, p < n → al p (gf (lsO (fun p => B (σ p)) n 0) p) ≠ 0 := fun p hp => by
        rw [hg p hp]
        have := s3 p (by omega) hp
        unfold okB at this
        exact of_decide_eq_true this
      have h5 := (b3 _ (h2 _ hπ2) ((hne _).mpr hv2)).2
      have hσ : ∀ p, p < n → sgl B n (lsO (fun p => B (σ p)) n 0) p = σ p := fun p hp => by
        rw [sgl_e hp, hg p hp]
        exact ix_eq hB (s1.1 p hp) rfl n 0 (by omega) (by omega)
      have e2 : rsO al o B n (lsO (fun p => B (σ p)) n 0) = tS (tB al o B) n σ n + fc n σ n id := by
        unfold rsO
        rw [if_pos hv2, tS_c hσ n (Nat.le_refl _), fc_c hσ n id (Nat.le_refl _)]
      omega
  · rcases b1 with h3 | ⟨l, l1, l2, l3⟩
    · exact h3
    · exfalso
      have hl := (okL_use (h1 l l1)).1
      have hv := (hne l).mp l3
      obtain ⟨g1, g2, -, g4⟩ := way_to hn7 hal hl hv n (Nat.le_refl _)
      have h5 : ¬ sOf (gf l) n n + 1 < 2 ^ n := fun y => by
        have := set_n n (by omega) (sOf (gf l) n n) (by omega) y
        omega
      rw [show sOf (gf l) n n = 2 ^ n - 1 by omega, hw] at g4
      omega
section S
variable {d n : Nat} {m : Nat → Nat → Int} {q : Nat → Nat → Option Nat} {w : Option (Nat → Int64)} {o v : Nat} {al : Nat → Nat → Nat} {B : Nat → Nat}
theorem hML_o {ot : Int} (h : hML d n al v ot m q w) {m1 : Nat → Nat → Int} (hm : ∀ a, a ≠ 385 → a ≠ 386 → m1 a = m a) : hML d n al v ot m1 q w := fun m2 h2 => h m2 (fun a a1 a2 a3 => (h2 a a1 a2 a3).trans (hm a a2 a3))
theorem gf_rg {j : Nat} (h : j < n) : gf (List.range n) j = j := by
  unfold gf
  simp [h]
theorem L_246i {v1 : Option Value} {u3 : Option Value} : ∀ (g k : Nat) (m1 : Nat → Nat → Int), k + g = 7 → (∀ j, j < k → m1 385 j = (j : Int)) → ∃ m2 : Nat → Nat → Int, gv d rR246 41 [some (.ref 363), some (.int (iI (v : Int))), some (.int (iI (k : Int))), u3] [] (mk m1 q w) = gv d rR246 62 [some (.ref 363), some (.int (iI (v : Int))), some (.int (iI (-1))), u3] [] (mk m2 q w) ∧ (∀ x, x ≠ 385 → m2 x = m1 x) ∧ ∀ j, j < 7 → m2 385 j = (j : Int) := by
  intro g
  induction g with
  | zero =>
    intro k m1 hk hr
    refine ⟨m1, ?_, fun _ _ => rfl, fun j hj => hr j (by omega)⟩
    rw [b_246_41, if_neg (by rw [iI_lt (by omega) (by omega)]; omega)]
  | succ g ih =>
    intro k m1 hk hr
    obtain ⟨m2, i1, i2, i3⟩ := ih (k + 1) (wr m1 385 k (k : Int)) (by omega) (fun j hj => by
      by_cases e : j = k
      · subst e
        rw [wr_s]
      · rw [wr_b _ _ _ _ e]
        exact hr j (by omega))
    refine ⟨m2, ?_, fun x hx => (i2 x hx).trans (wr_o _ _ _ _ hx), i3⟩
    rw [b_246_41, if_pos (by rw [iI_lt (by omega) (by omega)]; omega), b_246_47 (by omega) (by omega), Int.toNat_natCast, show (k : Int) + 1 = ((k + 1 : Nat) : Int) from rfl, i1]
theorem L_246p (hd : 1 ≤ d) (hml : hML (d - 1) n al v (-1) m q w) (hal : ∀ t s, t < n → s < n → al t s < 4) (hB : pmt n B) (h15 : m 363 15 = n) (hn7 : n ≤ 7) (hb : ∀ j, j < n → m 377 (28 + j) = (B j : Int)) (hov : ∀ s, s < n → m 377 (35 + s) = (bt o s : Int)) {L : List (List Nat)} (hL1 : ∀ l, l ∈ L → okL n l = true) (hL2 : ∀ σ, pmt n σ → lsO σ n 0 ∈ L) {l : List Nat} {m1 : Nat → Nat → Int} {b : Int} {u3 : Option Value} (hbb : -1 ≤ b ∧ b ≤ 100) (hm : ∀ x, x ≠ 385 → x ≠ 386 → m1 x = m x) (hr : ∀ j, j < n → m1 385 j = (gf l j : Int)) (hok : okL n l = true) : ∃ m2 : Nat → Nat → Int, gv d rR246 62 [some (.ref 363), some (.int (iI (v : Int))), some (.int (iI b)), u3] [] (mk m1 q w) = rBd (ev d 245 [.ref 363] (mk m2 q w)) (fun x M' => gv d rR246 93 [some (.ref 363), some (.int (iI (v : Int))), some (.int (iI (upI b (rsO al o B n l)))), some (.int (iI (rsO al o B n l)))] (x.toList ++ []) M') ∧ (∀ x, x ≠ 386 → m2 x = m1 x) := by
  have hl := okL_use hok
  have hrb := rsO_b (al := al) (o := o) (B := B) (l := l) hn7
  have hsg := sgl_p hB hl.1
  have hx : xO m1 n o B (gf l) := ⟨by rw [hm 363 (by decide) (by decide)]; exact h15, hn7, fun j hj => by rw [hm 377 (by decide) (by decide)]; exact ⟨hb j hj, by have := hB.1 j hj; omega⟩, fun s hs => by rw [hm 377 (by decide) (by decide)]; exact hov s hs, fun p hp => ⟨hr p hp, hl.1.1 p hp⟩⟩
  obtain ⟨m2, h1, h2⟩ := V_244 (d := d) (m := m1) (q := q) (w := w) (by omega) (hML_o hml hm) hx hal hB hsg.2
  have hcyc := (okL_use (hL1 _ (hL2 _ (ixp hB hl.1)))).2
  have hcyc : fc n (sgl B n l) n id + cyc (sgl B n l) n n 0 (fun _ => 0) = n := hcyc
  have e : (if (∀ p, p < n → al p (gf l p) ≠ 0) then tS (tB al o B) n (sgl B n l) n + n - (cyc (sgl B n l) n n 0 (fun _ => 0) : Nat) else -1) = rsO al o B n l := by
    unfold rsO
    by_cases c : ∀ p, p < n → al p (gf l p) ≠ 0
    · rw [if_pos c, if_pos c]
      omega
    · rw [if_neg c, if_neg c]
  rw [e] at h1
  have k88 : ∀ (c : Int) (u2 : Option Value), gv d rR246 88 [some (.ref 363), some (.int (iI (v : Int))), u2, some (.int (iI (rsO al o B n l)))] [.int (iI c)] (mk m2 q w) = rBd (ev d 245 [.ref 363] (mk m2 q w)) (fun x M' => gv d rR246 93 [some (.ref 363), some (.int (iI (v : Int))), some (.int (iI c)), some (.int (iI (rsO al o B n l)))] (x.toList ++ []) M') := fun c u2 => by
    rw [b_246_88]
    try simp only [List.append_nil]
  refine ⟨m2, ?_, h2⟩
  rw [b_246_62, h1]
  simp only [rBd_v, Option.toList_some, Option.toList_none, List.cons_append, List.nil_append, List.append_nil]
  rw [b_246_67]
  simp only [iI_eq (show i32 (rsO al o B n l) by omega) (show i32 (-1) by omega), iI_eq (show i32 b by omega) (show i32 (-1) by omega), iI_lt (show i32 (rsO al o B n l) by omega) (show i32 b by omega)]
  unfold upI
  by_cases c1 : rsO al o B n l = -1
  · rw [if_pos c1, if_pos c1, b_246_87, k88]
    try simp only [List.append_nil]
  · rw [if_neg c1, if_neg c1]
    by_cases c2 : b = -1
    · rw [if_pos c2, if_pos c2, b_246_83, k88]
      try simp only [List.append_nil]
    · rw [if_neg c2, if_neg c2]
      by_cases c3 : rsO al o B n l < b
      · rw [if_pos c3, if_pos c3, b_246_83, k88]
        try simp only [List.append_nil]
      · rw [if_neg c3, if_neg c3, b_246_87, k88]
        try simp only [List.append_nil]
theorem L_246 (hd : 2 ≤ d) (hml : hML (d - 1) n al v (-1) m q w) (hal : ∀ t s, t < n → s < n → al t s < 4) (hB : pmt n B) (h15 : m 363 15 = n) (hn7 : n ≤ 7) (hb : ∀ j, j < n → m 377 (28 + j) = (B j : Int)) (hov : ∀ s, s < n → m 377 (35 + s) = (bt o s : Int)) {L : List (List Nat)} (hL1 : ∀ l, l ∈ L → okL n l = true) (hL2 : ∀ σ, pmt n σ → lsO σ n 0 ∈ L) : ∀ (xs : List (List Nat)) (l : List Nat) (m1 : Nat → Nat → Int) (b : Int) (u3 : Option Value), -1 ≤ b ∧ b ≤ 100 → (∀ x, x ≠ 385 → x ≠ 386 → m1 x = m x) → (∀ j, j < n → m1 385 j = (gf l j : Int)) → chn n l xs = true → (∀ l', l' ∈ l :: xs → okL n l' = true) → ∃ m2 : Nat → Nat → Int, gv d rR246 62 [some (.ref 363), some (.int (iI (v : Int))), some (.int (iI b)), u3] [] (mk m1 q w) = vI (bst (rsO al o B n) b (l :: xs)) (mk m2 q w) ∧ ∀ x, x ≠ 385 → x ≠ 386 → m2 x = m x := by
  intro xs
  induction xs with
  | nil =>
    intro l m1 b u3 hbb hm hr hc hok
    obtain ⟨m2, h1, h2⟩ := L_246p (u3 := u3) (by omega) hml hal hB h15 hn7 hb hov hL1 hL2 hbb hm hr (hok l List.mem_cons_self)
    have hl := okL_use (hok l List.mem_cons_self)
    have hm2 : ∀ x, x ≠ 385 → x ≠ 386 → m2 x = m x := fun x h3 h4 => (h2 x h4).trans (hm x h3 h4)
    obtain ⟨R, h3, h4⟩ := V_245 (d := d) (m := m2) (q := q) (w := w) (o := gf l) (by omega) hn7 (fun j hj => by rw [h2 385 (by decide)]; exact ⟨hr j hj, by have := hl.1.1 j hj; omega⟩) (by rw [hm2 363 (by decide) (by decide)]; exact h15)
    have hn : nxf n (gf l) = none := by
      have hc : (nxf n (gf l)).isNone = true := hc
      exact Option.isNone_iff_eq_none.mp hc
    refine ⟨row m2 385 R, ?_, fun x h5 h6 => by rw [row_o _ _ _ h5, hm2 x h5 h6]⟩
    rw [h1, h3, zb_f (by rw [hn]; decide)]
    simp only [rBd_v, Option.toList_some, Option.toList_none, List.cons_append, List.nil_append, List.append_nil]
    rw [b_246_93, if_pos rfl]
    rfl
  | cons l2 xs ih =>
    intro l m1 b u3 hbb hm hr hc hok
    obtain ⟨m2, h1, h2⟩ := L_246p (u3 := u3) (by omega) hml hal hB h15 hn7 hb hov hL1 hL2 hbb hm hr (hok l List.mem_cons_self)
    have hl := okL_use (hok l List.mem_cons_self)
    have hm2 : ∀ x, x ≠ 385 → x ≠ 386 → m2 x = m x := fun x h3 h4 => (h2 x h4).trans (hm x h3 h4)
    obtain ⟨R, h3, h4⟩ := V_245 (d := d) (m := m2) (q := q) (w := w) (o := gf l) (by omega) hn7 (fun j hj => by rw [h2 385 (by decide)]; exact ⟨hr j hj, by have := hl.1.1 j hj; omega⟩) (by rw [hm2 363 (by decide) (by decide)]; exact h15)
    have hc : (adj n l l2 && chn n l2 xs) = true := hc
    rw [Bool.and_eq_true] at hc
    obtain ⟨o', ho, hoj⟩ : ∃ o', nxf n (gf l) = some o' ∧ ∀ j, j < n → o' j = gf l2 j := by
      have ha := hc.1
      unfold adj at ha
      split at ha
      next => cases ha
      next o' ho =>
        refine ⟨o', ho, fun j hj => ?_⟩
        have := List.all_eq_true.mp ha j (List.mem_range.mpr hj)
        simpa using this
    have hrb := rsO_b (al := al) (o := o) (B := B) (l := l) hn7
    have hup : -1 ≤ upI b (rsO al o B n l) ∧ upI b (rsO al o B n l) ≤ 100 := by
      rcases (upI_p (b := b) (c := rsO al o B n l)).1 with h | ⟨h, -⟩ <;> omega
    obtain ⟨m3, i1, i2⟩ := ih l2 (row m2 385 R) (upI b (rsO al o B n l)) (some (.int (iI (rsO al o B n l)))) hup (fun x h5 h6 => by rw [row_o _ _ _ h5, hm2 x h5 h6]) (fun j hj => by rw [row_s, h4 o' ho j hj, hoj j hj]) hc.2 (fun l' hl' => hok l' (List.mem_cons_of_mem _ hl'))
    refine ⟨m3, ?_, i2⟩
    rw [h1, h3, zb_t (by rw [ho]; rfl)]
    simp only [rBd_v, Option.toList_some, Option.toList_none, List.cons_append, List.nil_append, List.append_nil]
    rw [b_246_93, if_neg (by decide), i1]
    rfl
/-- the reference's near -/
theorem V_246 (hd : 10 ≤ d) {z : Nat} (hv : v < 4) (hml : hML (d - 2) n al v (-1) (tk m) q w) (hal : ∀ t s, t < n → s < n → al t s < 4) (hB : pmt n B) (h15 : m 363 15 = n) (hn7 : n ≤ 7) (hz : m 381 0 = z) (hz7 : z ≤ 7) (hb : ∀ j, j < n → m 376 (28 + j) = (B j : Int)) (hov : ∀ s, s < n → m 376 (35 + s) = (bt o s : Int)) : ∃ (V : Int) (m2 : Nat → Nat → Int), ev d 246 [.ref 363, .int (iI (v : Int))] (mk m q w) = vI V (mk m2 q w) ∧ ((∀ x, x ≠ 385 → x ≠ 386 → m2 x = tk m x) ∨ m2 = wr m 363 0 0) ∧ (n < z → V = -1) ∧ (z ≤ n → (0 < wW al n (2 ^ n - 1) → V = sB (okB al B) (tB al o B) n n id 0 1000) ∧ (wW al n (2 ^ n - 1) = 0 → V = -1)) := by
  have h224 : ∀ m1 : Nat → Nat → Int, ev d 246 [.ref 363, .int (iI (v : Int))] (mk m1 q w) = (if iI (m1 363 15) < iI (m1 381 0) then vI (-1) (mk (wr m1 363 0 0) q w) else gv (d - 1) rR246 41 [some (.ref 363), some (.int (iI (v : Int))), some (.int (iI ((0 : Nat) : Int))), none] [] (mk (tk m1) q w)) := by
    intro m1
    rw [e_246 (by omega) _ rfl rfl, b_246_0, V_224 (by omega) (by omega)]
    simp only [rBd_v, Option.toList_some, Option.toList_none, List.cons_append, List.nil_append, List.append_nil]
    rw [b_246_10, V_160 (by omega) (Or.inr rfl) (by omega) (by decide) (wr_s _ _ _ _), if_pos (show (0 : Int) ≤ (v : Int) ∧ (v : Int) ≤ 3 by omega)]
    simp only [rBd_v, Option.toList_some, Option.toList_none, List.cons_append, List.nil_append, List.append_nil]
    rw [b_246_15, if_neg (by decide), wr_b _ _ _ _ (show 15 ≠ 0 by decide), wr_o _ _ _ _ (show 381 ≠ 363 by decide), V_200 (by omega)]
    by_cases c : iI (m1 363 15) < iI (m1 381 0)
    · rw [if_pos c, if_pos c]
    · rw [if_neg c, if_neg c]
      simp only [rBd_v, Option.toList_some, Option.toList_none, List.cons_append, List.nil_append, List.append_nil]
      rw [show cp (wr m1 363 0 0) 376 377 48 = tk m1 from rfl, b_246_39]
      rfl
  by_cases c : n < z
  · refine ⟨-1, wr m 363 0 0, ?_, Or.inr rfl, fun _ => rfl, fun h => by omega⟩
    rw [h224, h15, hz, if_pos (by rw [iI_lt (by omega) (by omega)]; omega)]
  · obtain ⟨xs, hc, hL1, hL2⟩ := ordAll hn7
    obtain ⟨m1, a1, a2, a3⟩ := L_246i (d := d - 1) (v := v) (q := q) (w := w) (v1 := none) (u3 := none) 7 0 (tk m) (by omega) (fun j hj => by omega)
    obtain ⟨m2, b1, b2⟩ := L_246 (d := d - 1) (m := tk m) (q := q) (w := w) (o := o) (by omega) (show hML (d - 1 - 1) n al v (-1) (tk m) q w from hml) hal hB (by rw [tk_b (by decide)]; exact h15) hn7 (fun j hj => by rw [tk_r (by omega)]; exact hb j hj) (fun s hs => by rw [tk_r (by omega)]; exact hov s hs) hL1 hL2 xs (List.range n) m1 (-1) none (by omega) (fun x h1 _ => a2 x h1) (fun j hj => by rw [gf_rg hj]; exact a3 j (by omega)) hc hL1
    refine ⟨bst (rsO al o B n) (-1) (List.range n :: xs), m2, ?_, Or.inl b2, fun h => absurd h c, fun _ => ?_⟩
    · rw [h224, h15, hz, if_neg (by rw [iI_lt (by omega) (by omega)]; omega), a1, b1]
    · have hne := near_eq (o := o) hn7 hal hB hL1 hL2
      exact ⟨fun h => (hne.1 h).symm, hne.2⟩
theorem K_near {a : Int} (ha : i32 a) : cTH 140 246 [.int (iI a)] 1 := by
  intro m q w hR d hd
  obtain ⟨n, r, o, hF, k15, k16, hn7, hfk, hfl, hCi, ho, hbt⟩ := RR_fan hR
  obtain ⟨p, z, p2, z2, p1, p3, hz7, p4, p5, hP, i1, i2, i3, i4, i5, i6⟩ := RR_pics hR
  have hcl : ∀ m1 : Nat → Nat → Int, (∀ e, e < 164 ∨ 170 < e → m1 e = m e) → RR m1 q := fun m1 h => RR_s ⟨fun e h1 h2 => h e (by unfold scr at h1; omega), fun j _ => by rw [h 363 (by omega)]⟩ (gS_o (h 161 (by omega)) (h 163 (by omega)) hR.2.2.2.2.2.2) hR
  by_cases h : 0 ≤ a ∧ a ≤ 3
  · obtain ⟨v, rfl⟩ : ∃ v : Nat, a = v := ⟨a.toNat, by omega⟩
    obtain ⟨m1, h1, h2, h3⟩ := T_135 (d := d - 1) (m := m) (q := q) (w := w) (n := n) (v := v) (by omega) hfk.1 hn7 p1 p3 p4 hz7 (fun i hi => (hP i hi).2) hCi (by omega)
    obtain ⟨-, -, -, -, -, -, -, ⟨f1, f2, f3⟩, -⟩ := id hF
    obtain ⟨B, eB⟩ : ∃ B : Nat → Nat, B = fun j => (m 109 j).toNat := ⟨_, rfl⟩
    have hBj : ∀ j, j < n → m 109 j = (B j : Int) := fun j hj => by
      have := f2 j hj
      rw [eB]
      show m 109 j = ((m 109 j).toNat : Int)
      omega
    have hB : pmt n B := ⟨fun i hi => by have := f2 i hi; have := hBj i hi; omega, fun i j hi hj e => f3 i j hi hj (by rw [hBj i hi, hBj j hj, e])⟩
    obtain ⟨al, eal⟩ : ∃ al : Nat → Nat → Nat, al = fun t s => alw (m 110) n z (m (p + 1)) v t s := ⟨_, rfl⟩
    have hal : ∀ t s, t < n → s < n → al t s < 4 := fun t s _ _ => by rw [eal]; exact alw_lt
    have hwb := wW_b (al := al) (n := n) (x := 2 ^ n - 1) hn7 hal (by have := pw_lt n (by omega); omega)
    rw [← eal] at h1
    have hX : ∀ mc : Nat → Nat → Int, (∀ e, e < 164 ∨ 170 < e → mc e = m e) → ∃ (V : Int) (m2 : Nat → Nat → Int), ev d 246 [.ref 363, .int (iI (v : Int))] (mk mc q w) = vI V (mk m2 q w) ∧ m2 363 0 = 0 ∧ RR m2 q ∧ (n < z → V = -1) ∧ (z ≤ n → (0 < wW al n (2 ^ n - 1) → V = sB (okB al B) (tB al o B) n n id 0 1000) ∧ (wW al n (2 ^ n - 1) = 0 → V = -1)) := by
      intro mc hmc
      have hRc := hcl mc hmc
      have hx := xM_tk (o := o) (r := r) k15 hn7 hz7 p5 hP i3 i5 i6 (m1 := mc) (fun e he => hmc e (by omega))
      have hml := hML_1 (d := d - 2) (q := q) (w := w) (by omega) hF hx (v := v) (by omega)
      rw [← eal] at hml
      obtain ⟨V, m2, g1, g2, g3, g4⟩ := V_246 (d := d) (m := mc) (q := q) (w := w) (o := o) (z := z) (by omega) (by omega) hml hal hB (by rw [hmc 363 (by omega)]; exact k15) hn7 (by rw [hmc 381 (by omega)]; exact p5) hz7 (fun j hj => by rw [hmc 376 (by omega), ← f1 j hj, hBj j hj]) (fun s hs => by rw [hmc 376 (by omega)]; exact hbt s (by omega))
      refine ⟨V, m2, g1, ?_, ?_, g3, g4⟩
      · rcases g2 with g | g
        · rw [g 363 (by decide) (by decide)]
          exact tk_0
        · rw [g, wr_s]
      · rcases g2 with g | g
        · exact RR_s ⟨fun e h5 h6 => g e (by unfold scr at h5; omega) (by unfold scr at h5; omega), fun j _ => by rw [g 363 (by decide) (by decide)]⟩ (gS_o (g 161 (by decide) (by decide)) (g 163 (by decide) (by decide)) (tk_RR hRc).2.2.2.2.2.2) (tk_RR hRc)
        · rw [g]
          exact RR_s ⟨fun e h5 h6 => wr_o _ _ _ _ h6, fun j hj => wr_b _ _ _ _ (by omega)⟩ (gS_o (wr_o _ _ _ _ (by decide)) (wr_o _ _ _ _ (by decide)) hRc.2.2.2.2.2.2) hRc
    have hC : ev d 140 [.ref 100, .int (iI (v : Int))] (mk m q w) = gv (d - 1) rR140 13 [some (.ref 100), some (.int (iI (v : Int)))] [.int (iI (if z ≤ n then wW al n (2 ^ n - 1) else 0))] (mk m1 q w) := by
      rw [e_140 (by omega) _ rfl rfl, b_140_0, T_128 (by omega) ha]
      simp only [rBd_v, Option.toList_some, Option.toList_none, List.cons_append, List.nil_append, List.append_nil]
      rw [b_140_5, T_116 (by omega), zb_t h, if_neg (by decide)]
      simp only [rBd_v, Option.toList_some, Option.toList_none, List.cons_append, List.nil_append, List.append_nil]
      rw [b_140_8, h1]
      simp only [rBd_v, Option.toList_some, Option.toList_none, List.cons_append, List.nil_append, List.append_nil]
    by_cases c : z ≤ n ∧ 0 < wW al n (2 ^ n - 1)
    · obtain ⟨c1, c2⟩ := c
      rw [if_pos c1] at hC
      obtain ⟨g1, g2⟩ := h2.2.2 c1
      have hW : wSt m1 n o al := ⟨g1, hn7, by
        rw [h2.2.1.1]
        obtain ⟨a1, a2, a3, a4⟩ := hfk
        exact ⟨(bc_0 m (by decide)).trans a1, a2, (bc_0 m (by decide)).trans a3, a4⟩, fun t s ht hs => ⟨by rw [g2 t s ht hs, eal], hal t s ht hs⟩⟩
      obtain ⟨R, g3⟩ := T_97 (d := d - 1) (m := m1) (q := q) (w := w) (by omega) hB hW (fun j hj => by
        rw [h2.2.1.2]
        exact (bc_1 m (by omega)).trans (hBj j hj))
      obtain ⟨V, m2, k1, k2, k3, k4, k5⟩ := hX (wr (row m1 170 R) 164 5 (sB (okB al B) (tB al o B) n n id 0 1000)) (fun e he => by rw [wr_o _ _ _ _ (by omega), row_o _ _ _ (by omega), h2.1 e (by omega)])
      have hV := (k5 c1).1 c2
      refine q_in (V := V) ?_ k1 k2 k3
      rw [hC, b_140_13]
      simp only [iI_eq (show i32 (wW al n (2 ^ n - 1)) by omega) (show i32 0 by omega)]
      rw [if_neg (by omega), g3]
      simp only [rBd_v, Option.toList_some, Option.toList_none, List.cons_append, List.nil_append, List.append_nil]
      rw [b_140_27, hV]
    · obtain ⟨V, m2, k1, k2, k3, k4, k5⟩ := hX m1 (fun e he => h2.1 e (by omega))
      have hV : V = -1 := by
        by_cases c1 : z ≤ n
        · exact (k5 c1).2 (by
            have : ¬ 0 < wW al n (2 ^ n - 1) := fun y => c ⟨c1, y⟩
            omega)
        · exact k4 (by omega)
      have h0 : (if z ≤ n then wW al n (2 ^ n - 1) else 0) = 0 := by
        by_cases c1 : z ≤ n
        · have : ¬ 0 < wW al n (2 ^ n - 1) := fun y => c ⟨c1, y⟩
          rw [if_pos c1]
          omega
        · rw [if_neg c1]
      refine q_in (V := V) ?_ k1 k2 k3
      rw [hC, h0, b_140_13, if_pos rfl, b_140_27, hV]
  · refine q_no hR ?_ ?_
    · rw [e_140 (by omega) _ rfl rfl, b_140_0, T_128 (by omega) ha]
      simp only [rBd_v, Option.toList_some, Option.toList_none, List.cons_append, List.nil_append, List.append_nil]
      rw [b_140_5, T_116 (by omega), zb_f h, if_pos rfl]
      rfl
    · rw [e_246 (by omega) _ rfl rfl, b_246_0, V_224 (by omega) ha]
      simp only [rBd_v, Option.toList_some, Option.toList_none, List.cons_append, List.nil_append, List.append_nil]
      rw [b_246_10, V_160 (by omega) (Or.inr rfl) (by omega) (by decide) (wr_s _ _ _ _), if_neg h]
      simp only [rBd_v, Option.toList_some, Option.toList_none, List.cons_append, List.nil_append, List.append_nil]
      rw [b_246_15, if_pos rfl]
      rfl
end S
