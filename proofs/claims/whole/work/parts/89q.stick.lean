/-! ===== the call stick, alike ===== -/
theorem pig : ∀ (n : Nat) (f : Nat → Nat), (∀ i, i < n + 1 → f i < n) → (∀ i j, i < n + 1 → j < n + 1 → f i = f j → i = j) → False := by
  intro n
  induction n with
  | zero =>
    intro f h _
    have := h 0 (by omega)
    omega
  | succ n ih =>
    intro f h hi
    refine ih (fun i => if f i = n then f (n + 1) else f i) (fun i h1 => ?_) (fun i j h1 h2 h3 => ?_)
    · show (if f i = n then f (n + 1) else f i) < n
      have e1 := h i (by omega)
      have e2 := h (n + 1) (by omega)
      by_cases c : f i = n
      · rw [if_pos c]
        by_cases c2 : f (n + 1) = n
        · have := hi i (n + 1) (by omega) (by omega) (by omega)
          omega
        · omega
      · rw [if_neg c]
        omega
    · have h3 : (if f i = n then f (n + 1) else f i) = (if f j = n then f (n + 1) else f j) := h3
      by_cases c : f i = n
      · by_cases c2 : f j = n
        · exact hi i j (by omega) (by omega) (by omega)
        · rw [if_pos c, if_neg c2] at h3
          have := hi (n + 1) j (by omega) (by omega) h3
          omega
      · by_cases c2 : f j = n
        · rw [if_neg c, if_pos c2] at h3
          have := hi i (n + 1) (by omega) (by omega) h3
          omega
        · rw [if_neg c, if_neg c2] at h3
          exact hi i j (by omega) (by omega) h3
theorem onto {n : Nat} {f : Nat → Nat} (h : ∀ i, i < n → f i < n) (hi : ∀ i j, i < n → j < n → f i = f j → i = j) {s : Nat} (hs : s < n) : ∃ i, i < n ∧ f i = s := by
  refine Classical.byContradiction fun hn => ?_
  have hne : ∀ i, i < n → f i ≠ s := fun i h1 h2 => hn ⟨i, h1, h2⟩
  obtain ⟨k, rfl⟩ : ∃ k, n = k + 1 := ⟨n - 1, by omega⟩
  refine pig k (fun i => if f i > s then f i - 1 else f i) (fun i h1 => ?_) (fun i j h1 h2 h3 => ?_)
  · show (if f i > s then f i - 1 else f i) < k
    have e1 := h i h1
    have e2 := hne i h1
    split <;> omega
  · have h3 : (if f i > s then f i - 1 else f i) = (if f j > s then f j - 1 else f j) := h3
    have e1 := hne i h1
    have e2 := hne j h2
    refine hi i j h1 h2 ?_
    split at h3 <;> split at h3 <;> omega
/-- a stick lies somewhere, and there alone -/
theorem lies {n r Q : Nat} {A B C G : Nat → Int} (hF : fnR n r Q A B C G) {s : Nat} (hs : s < n) : ∃ j, j < n ∧ ∀ i, i < n → (B i = s ↔ i = j) := by
  obtain ⟨b1, b2, b3⟩ := hF.2.2.2.2.2.2.2.1
  obtain ⟨j, hj, he⟩ := onto (f := fun i => (B i).toNat) (n := n) (fun i hi => by
    show (B i).toNat < n
    have := b2 i hi
    omega) (fun i k h1 h2 h3 => b3 i k h1 h2 (by
    have h3 : (B i).toNat = (B k).toNat := h3
    have e1 := b2 i h1
    have e2 := b2 k h2
    omega)) hs
  have he : (B j).toNat = s := he
  have e2 := b2 j hj
  refine ⟨j, hj, fun i hi => ⟨fun h => b3 i j hi hj (by omega), fun h => ?_⟩⟩
  subst h
  omega
theorem pof_eq {B : Nat → Int} {s : Int} {n j : Nat} (h : ∀ i, i < n → (B i = s ↔ i = j)) : ∀ (g k : Nat), k + g = n → k ≤ j → j < n → pof B s g k = j := by
  intro g
  induction g with
  | zero => intro k h1 h2 h3; omega
  | succ g ih =>
    intro k h1 h2 h3
    unfold pof
    by_cases c : k = j
    · rw [if_pos ((h k (by omega)).mpr c), c]
    · rw [if_neg (fun z => c ((h k (by omega)).mp z)), ih (k + 1) (by omega) (by omega) h3]
def plf (B : Nat → Int) (s : Int) : Nat → Nat → Int → Int
  | 0, _, p => p
  | g + 1, k, p => plf B s g (k + 1) (if B k = s then (k : Int) else p)
theorem plf_eq {B : Nat → Int} {s : Int} {n j : Nat} (h : ∀ i, i < n → (B i = s ↔ i = j)) : ∀ (g k : Nat) (p : Int), k + g = n → plf B s g k p = if k ≤ j ∧ j < n then (j : Int) else p := by
  intro g
  induction g with
  | zero => 
    intro k p h1
    rw [if_neg (by omega)]
    rfl
  | succ g ih =>
    intro k p h1
    unfold plf
    rw [ih (k + 1) _ (by omega)]
    by_cases c : k = j
    · rw [if_neg (by omega), if_pos ((h k (by omega)).mpr c), if_pos (by omega), c]
    · rw [if_neg (fun z => c ((h k (by omega)).mp z))]
      by_cases c2 : k + 1 ≤ j ∧ j < n
      · rw [if_pos c2, if_pos (by omega)]
      · rw [if_neg c2, if_neg (by omega)]
abbrev alx (G : Nat → Int) (s k : Nat) : Prop := (((True ∧ xm G s 0 = xm G k 0) ∧ xm G s 1 = xm G k 1) ∧ xm G s 2 = xm G k 2) ∧ xm G s 3 = xm G k 3
def twx (G : Nat → Int) (s : Nat) : Nat → Nat → Int → Int
  | 0, _, b => b
  | g + 1, k, b => twx G s g (k + 1) (zOr b (if k ≠ s ∧ alx G k s then zShl 1 k else 0))
theorem zOr_i (a b : Int) : i32 (zOr a b) := by
  unfold zOr
  have h1 := Int32.le_toInt (iI a ||| iI b)
  have h2 := Int32.toInt_lt (iI a ||| iI b)
  omega
theorem iI_i {a : Int} (h : i32 a) : (iI a).toInt = a := Int32.toInt_ofInt_of_le (by omega) (by omega)
theorem zOr_0 {a : Int} (h : i32 a) : zOr a 0 = a := by
  unfold zOr
  rw [show iI 0 = 0 from rfl, Int32.or_zero, iI_i h]
theorem tw_twx {C G : Nat → Int} {o s n : Nat} (h : ∀ k, k < n → (alk C o s k ↔ alx G k s)) : ∀ (g k : Nat) (b : Int), k + g = n → i32 b → tw C o s g k b = twx G s g k b := by
  intro g
  induction g with
  | zero => intro k b _ _; rfl
  | succ g ih =>
    intro k b h1 hb
    have e := h k (by omega)
    unfold tw twx
    by_cases c : k ≠ s ∧ alx G k s
    · rw [if_pos c, if_pos ⟨c.1, e.mpr c.2⟩, ih (k + 1) _ (by omega) (zOr_i _ _)]
    · rw [if_neg c, if_neg (fun z => c ⟨z.1, e.mp z.2⟩), zOr_0 hb, ih (k + 1) _ (by omega) hb]
section S
variable {d n : Nat} {m : Nat → Nat → Int} {q : Nat → Nat → Option Nat} {w : Option (Nat → Int64)}
theorem S_225 (hd : 2 ≤ d) {a b h : Nat} (hn7 : n ≤ 7) (ha : a < n) (hb : b < n) (hh : h < 4) (ho : ∀ s, s < 7 → i32 (m 377 (35 + s))) (hx : ∀ s k, s < n → k < 4 → i32 (xm (m 377) s k)) {P : Prop} [Decidable P] : gv d rR225 5 [some (.ref 363), some (.int (iI a)), some (.int (iI b)), some (.int (iI (zb P))), some (.int (iI h))] [] (mk m q w) = gv d rR225 5 [some (.ref 363), some (.int (iI a)), some (.int (iI b)), some (.int (iI (zb (P ∧ xm (m 377) a h = xm (m 377) b h)))), some (.int (iI ((h + 1 : Nat) : Int)))] [] (mk m q w) := by
  rw [b_225_5, if_pos (by rw [iI_lt (by omega) (by omega)]; omega)]
  simp only [zb_0]
  by_cases c : P
  · rw [if_neg (not_not_intro c), V_209 (by omega) (by omega) hh (ho _ (by omega))]
    simp only [rBd_v, Option.toList_some, Option.toList_none, List.cons_append, List.nil_append, List.append_nil]
    rw [b_225_22, V_209 (by omega) (by omega) hh (ho _ (by omega))]
    simp only [rBd_v, Option.toList_some, Option.toList_none, List.cons_append, List.nil_append, List.append_nil]
    rw [b_225_29]
    simp only [iI_eq (hx a h ha hh) (hx b h hb hh)]
    by_cases c2 : xm (m 377) a h = xm (m 377) b h
    · rw [if_pos c2, b_225_37, zb_t ⟨c, c2⟩]
      rfl
    · rw [if_neg c2, b_225_36, b_225_37, zb_f (fun z => c2 z.2)]
      rfl
  · rw [if_pos c, b_225_36, b_225_37, zb_f (fun z => c z.1)]
    rfl
theorem V_225 (hd : 3 ≤ d) {a b : Nat} (hn7 : n ≤ 7) (ha : a < n) (hb : b < n) (ho : ∀ s, s < 7 → i32 (m 377 (35 + s))) (hx : ∀ s k, s < n → k < 4 → i32 (xm (m 377) s k)) : ev d 225 [.ref 363, .int (iI a), .int (iI b)] (mk m q w) = vI (zb (alx (m 377) a b)) (mk m q w) := by
  rw [e_225 (by omega) _ rfl rfl rfl, b_225_0, show iI 1 = iI (zb True) from rfl, show iI 0 = iI ((0 : Nat) : Int) from rfl, S_225 (by omega) hn7 ha hb (by omega) ho hx, S_225 (by omega) hn7 ha hb (by omega) ho hx, S_225 (by omega) hn7 ha hb (by omega) ho hx, S_225 (by omega) hn7 ha hb (by omega) ho hx, b_225_5, if_neg (by decide), b_225_44 (zb_01 _)]
theorem L_226 (hd : 4 ≤ d) {n s : Nat} (hn7 : n ≤ 7) (hs : s < n) (h15 : m 363 15 = n) (hl : ∀ k, k < n → 0 ≤ m 377 (28 + k) ∧ m 377 (28 + k) < 7) (ho : ∀ s, s < 7 → i32 (m 377 (35 + s))) (hx : ∀ s k, s < n → k < 4 → i32 (xm (m 377) s k)) {c : Int} (hc : c = 0 ∨ c = 6) : ∀ (g k : Nat) (p b : Int), k + g = n → gv d rR226 78 [some (.ref 363), some (.int (iI s)), some (.int (iI c)), some (.int (iI p)), some (.int (iI b)), some (.int (iI (k : Int)))] [] (mk m q w) = vI (if c = 0 then plf (fun k => m 377 (28 + k)) s g k p else twx (m 377) s g k b) (mk m q w) := by
  intro g
  induction g with
  | zero =>
    intro k p b hg
    rw [b_226_78, h15, if_neg (by rw [iI_lt (by omega) (by omega)]; omega)]
    rcases hc with rfl | rfl
    · rw [if_pos rfl, b_226_153, if_pos rfl]
      rfl
    · rw [if_neg (by decide), b_226_153, if_neg (by decide)]
      rfl
  | succ g ih =>
    intro k p b hg
    have hk := hl k (by omega)
    rw [b_226_78, h15, if_pos (by rw [iI_lt (by omega) (by omega)]; omega), b_226_87 (by omega) (by omega), show (28 + (k : Int)).toNat = 28 + k by omega]
    have key : ∀ z : Int, gv d rR226 107 [some (.ref 363), some (.int (iI s)), some (.int (iI c)), some (.int (iI p)), some (.int (iI b)), some (.int (iI (k : Int)))] [.int (iI z)] (mk m q w) = vI (if c = 0 then plf (fun k => m 377 (28 + k)) s g (k + 1) z else twx (m 377) s g (k + 1) (zOr b (if k ≠ s ∧ alx (m 377) k s then zShl 1 k else 0))) (mk m q w) := by
      intro z
      rw [b_226_107]
      simp only [iI_eq (show i32 (k : Int) by omega) (show i32 (s : Int) by omega)]
      by_cases h1 : k = s
      · rw [if_pos (by omega), b_226_133, b_226_134, if_neg (show ¬ (k ≠ s ∧ alx (m 377) k s) from fun z => z.1 h1), show (k : Int) + 1 = ((k + 1 : Nat) : Int) from rfl, ih (k + 1) _ _ (by omega)]
      · rw [if_neg (by omega), V_225 (by omega) hn7 (by omega) (by omega) ho hx]
        simp only [rBd_v, Option.toList_some, Option.toList_none, List.cons_append, List.nil_append, List.append_nil]
        rw [b_226_123]
        simp only [zb_0]
        by_cases h2 : alx (m 377) k s
        · rw [if_neg (not_not_intro h2), b_226_134, if_pos (show k ≠ s ∧ alx (m 377) k s from ⟨h1, h2⟩), show (k : Int) + 1 = ((k + 1 : Nat) : Int) from rfl, ih (k + 1) _ _ (by omega)]
        · rw [if_pos h2, b_226_133, b_226_134, if_neg (show ¬ (k ≠ s ∧ alx (m 377) k s) from fun z => h2 z.2), show (k : Int) + 1 = ((k + 1 : Nat) : Int) from rfl, ih (k + 1) _ _ (by omega)]
    simp only [iI_eq (show i32 (m 377 (28 + k)) by omega) (show i32 (s : Int) by omega), key]
    rw [show plf (fun k => m 377 (28 + k)) s (g + 1) k p = plf (fun k => m 377 (28 + k)) s g (k + 1) (if m 377 (28 + k) = s then (k : Int) else p) from rfl, show twx (m 377) s (g + 1) k b = twx (m 377) s g (k + 1) (zOr b (if k ≠ s ∧ alx (m 377) k s then zShl 1 k else 0)) from rfl]
    by_cases h1 : m 377 (28 + k) = s
    · rw [if_pos h1, if_pos h1]
    · rw [if_neg h1, if_neg h1]
theorem K_stick {a b : Int} (ha : i32 a) (hb : i32 b) : cTH 126 226 [.int (iI a), .int (iI b)] 2 := by
  intro m q w hR d hd
  obtain ⟨n, r, o, hF, k15, k16, hn7, hfk, hfl, hCi, ho, hbt⟩ := RR_fan hR
  have hbs := hF.2.2.2.2.2.2.2.1
  obtain ⟨V, hV⟩ : ∃ V : Int, V = if b = 0 then pof (m 109) a n 0 else if b = 1 then (bt o a.toNat : Int) else if b = 6 then tw (m 110) o a.toNat n 0 0 else lm (m 110) o a.toNat (b - 2).toNat := ⟨_, rfl⟩
  have hC : ev d 126 [.ref 100, .int (iI a), .int (iI b)] (mk m q w) = if 0 ≤ a ∧ a < n then (if 0 ≤ b ∧ b ≤ 6 then vI V (mk m q w) else some (.inr 0, (mk (wr m 100 17 (m 100 17 + 1)) q w, (1, 6)))) else some (.inr 1, (mk (wr m 100 16 (m 100 16 + 1)) q w, (1, 6))) := by
    rw [e_126 (by omega) _ rfl rfl rfl, b_126_0, T_33 (by omega) f108 ha (by rw [hfk.1]; omega), hfk.1]
    simp only [rBd_v, Option.toList_some, Option.toList_none, List.cons_append, List.nil_append, List.append_nil]
    rw [b_126_12, T_125 (by omega)]
    by_cases h : 0 ≤ a ∧ a < n
    · rw [if_pos h, zb_t h, if_neg (by decide)]
      simp only [rBd_v, Option.toList_some, Option.toList_none, List.cons_append, List.nil_append, List.append_nil]
      rw [b_126_15, T_6 (by omega) hb (by omega) (by omega)]
      simp only [rBd_v, Option.toList_some, Option.toList_none, List.cons_append, List.nil_append, List.append_nil]
      rw [b_126_23, T_116 (by omega)]
      by_cases h2 : 0 ≤ b ∧ b ≤ 6
      · rw [zb_t h2, if_pos h2, if_neg (by decide)]
        simp only [rBd_v, Option.toList_some, Option.toList_none, List.cons_append, List.nil_append, List.append_nil]
        obtain ⟨s, rfl⟩ : ∃ s : Nat, a = s := ⟨a.toNat, by omega⟩
        rw [b_126_26, hV, Int.toNat_natCast]
        clear hV
        by_cases b0 : b = 0
        · subst b0
          rw [b_126_27_0 (s0 := 0), b_126_60, T_32 (by omega) f108 hfk.1 hn7 hfl ha]
          simp only [rBd_v, Option.toList_some, Option.toList_none, List.cons_append, List.nil_append, List.append_nil]
          rw [b_126_71]
          rfl
        · rw [if_neg b0]
          by_cases b1 : b = 1
          · subst b1
            rw [b_126_27_1 (s0 := 0), b_126_72, T_14 (by omega) f108 hfk (by omega)]
            simp only [rBd_v, Option.toList_some, Option.toList_none, List.cons_append, List.nil_append, List.append_nil]
            rw [b_126_83]
            show _ = vI (bt o s : Int) (mk m q w)
            simp only [zb_0]
            rcases bt_01 o s with e | e
            · rw [if_pos (by omega), b_126_91, e]
              rfl
            · rw [if_neg (by omega), b_126_91, e]
              rfl
          · rw [if_neg b1]
            by_cases b6 : b = 6
            · subst b6
              rw [b_126_27_2 (s0 := 0), b_126_92, T_36 (by omega) f108 hfk hCi (by omega)]
              simp only [rBd_v, Option.toList_some, Option.toList_none, List.cons_append, List.nil_append, List.append_nil]
              rw [b_126_103]
              rfl
            · rw [b_126_27_d hb b0 b1 b6, b_126_104, if_neg b6, show b - 2 = ((b - 2).toNat : Int) by omega, T_18 (by omega) f108 hfk (by omega) (by omega)]
              simp only [rBd_v, Option.toList_some, Option.toList_none, List.cons_append, List.nil_append, List.append_nil]
              rw [b_126_118, Int.toNat_natCast]
      · rw [zb_f h2, if_neg h2, if_pos rfl]
        rfl
    · rw [if_neg h, zb_f h, if_pos rfl]
      rfl
  have hX : ∀ m1 : Nat → Nat → Int, (∀ e, 363 ≤ e → m1 e = m e) → ev d 226 [.ref 363, .int (iI a), .int (iI b)] (mk m1 q w) = if 0 ≤ a ∧ a < n then (if 0 ≤ b ∧ b ≤ 6 then vI V (mk (tk m1) q w) else vI 0 (mk (noX m1 2 1) q w)) else vI 0 (mk (noX m1 1 0) q w) := by
    intro m1 h1
    rw [e_226 (by omega) _ rfl rfl rfl, b_226_0, V_223 (by omega) ha hn7 (by rw [h1 363 (by decide)]; exact k15)]
    by_cases h : 0 ≤ a ∧ a < n
    · rw [if_pos h, if_pos h]
      simp only [rBd_v, Option.toList_some, Option.toList_none, List.cons_append, List.nil_append, List.append_nil]
      rw [b_226_10, if_neg (by decide), V_161 (by omega) hb (by omega) (by omega)]
      simp only [rBd_v, Option.toList_some, Option.toList_none, List.cons_append, List.nil_append, List.append_nil]
      rw [b_226_21, V_160 (by omega) (Or.inr rfl) (by omega) (by decide) (wr_s _ _ _ _)]
      by_cases h2 : 0 ≤ b ∧ b ≤ 6
      · rw [if_pos h2, if_pos h2]
        simp only [rBd_v, Option.toList_some, Option.toList_none, List.cons_append, List.nil_append, List.append_nil]
        rw [b_226_26, if_neg (by decide), V_200 (by omega)]
        simp only [rBd_v, Option.toList_some, Option.toList_none, List.cons_append, List.nil_append, List.append_nil]
        rw [show cp (wr m1 363 0 0) 376 377 48 = tk m1 from rfl, b_226_35]
        have e15 : tk m1 363 15 = n := by rw [tk_b (by decide), h1 363 (by decide)]; exact k15
        have e377 : ∀ j, j < 48 → tk m1 377 j = m 376 j := fun j hj => by rw [tk_r hj, h1 376 (by decide)]
        obtain ⟨s, rfl⟩ : ∃ s : Nat, a = s := ⟨a.toNat, by omega⟩
        have hs : s < n := by omega
        have hF2 : fnR n r 400 (m 108) (m 109) (m 110) (tk m1 377) := fnR_congr (fun _ _ => rfl) (fun _ _ => rfl) (fun _ _ => rfl) e377 hF
        have hbt2 : ∀ s, s < 7 → tk m1 377 (35 + s) = bt o s := fun s hs => (e377 _ (by omega)).trans (hbt s hs)
        have ho2 : ∀ s, s < 7 → i32 (tk m1 377 (35 + s)) := fun s hs => by
          have := bt_01 o s
          rw [hbt2 s hs]
          omega
        have hlm : ∀ s h, s < n → h < 4 → lm (m 110) o s h = xm (tk m1 377) s h ∧ 0 ≤ xm (tk m1 377) s h ∧ xm (tk m1 377) s h ≤ 15 := fun s h h1 h2 => fnR_lm hF2 hbt2 h1 h2
        rw [Int.toNat_natCast] at hV
        have hx2 : ∀ s h, s < n → h < 4 → i32 (xm (tk m1 377) s h) := fun s h h1 h2 => by
          have := hlm s h h1 h2
          omega
        by_cases c1 : 1 < b ∧ b < 6
        · rw [if_pos (by rw [iI_lt (by omega) hb]; omega), if_pos (by rw [iI_lt hb (by omega)]; omega), show b - 2 = ((b - 2).toNat : Int) by omega, V_209 (by omega) (by omega) (by omega) (ho2 _ (by omega))]
          simp only [rBd_v, Option.toList_some, Option.toList_none, List.cons_append, List.nil_append, List.append_nil]
          rw [b_226_54, hV, if_neg (by omega), if_neg (by omega), if_neg (by omega), (hlm s _ hs (by omega)).1]
        · have e55 : gv (d - 1) rR226 55 [some (.ref 363), some (.int (iI s)), some (.int (iI b)), none, none, none] [] (mk (tk m1) q w) = vI V (mk (tk m1) q w) := by
            rw [b_226_55]
            simp only [iI_eq hb (show i32 1 by omega)]
            by_cases b1 : b = 1
            · rw [if_pos b1, b_226_60 (by omega) (by omega), hV, if_neg (by omega), if_pos b1, show (35 + (s : Int)).toNat = 35 + s by omega, hbt2 s (by omega)]
            · rw [if_neg b1, show iI 0 = iI ((0 : Nat) : Int) from rfl]
              refine Eq.trans (L_226 (by omega) hn7 hs e15 (fun k hk => by
                have e1 := hbs.1 k hk
                have e2 := hbs.2.1 k hk
                rw [e377 _ (by omega)]
                omega) ho2 hx2 (show b = 0 ∨ b = 6 by omega) n 0 ((0 : Nat) : Int) ((0 : Nat) : Int) (by omega)) ?_
              by_cases b0 : b = 0
              · obtain ⟨j, hj, hji⟩ := lies hF hs
                rw [if_pos b0, hV, if_pos b0, pof_eq hji n 0 (by omega) (by omega) hj, plf_eq (n := n) (j := j) (fun i hi => by
                  show tk m1 377 (28 + i) = s ↔ i = j
                  rw [e377 _ (by omega), ← hbs.1 i hi]
                  exact hji i hi) n 0 _ (by omega), if_pos (by omega)]
              · rw [if_neg b0, hV, if_neg b0, if_neg b1, if_pos (by omega), tw_twx (G := tk m1 377) (n := n) (fun k hk => ?_) n 0 0 (by omega) (by omega)]
                · rfl
                · have e := fun h (hh : h < 4) => (hlm s h hs hh).1
                  have e2 := fun h (hh : h < 4) => (hlm k h hk hh).1
                  show (_ ∧ _ ∧ _ ∧ _) ↔ _
                  rw [e 0 (by decide), e 1 (by decide), e 2 (by decide), e 3 (by decide), e2 0 (by decide), e2 1 (by decide), e2 2 (by decide), e2 3 (by decide)]
                  exact ⟨fun z => ⟨⟨⟨⟨trivial, z.1.symm⟩, z.2.1.symm⟩, z.2.2.1.symm⟩, z.2.2.2.symm⟩, fun z => ⟨z.1.1.1.2.symm, z.1.1.2.symm, z.1.2.symm, z.2.symm⟩⟩
          by_cases c2 : 1 < b
          · rw [if_pos (by rw [iI_lt (by omega) hb]; omega), if_neg (by rw [iI_lt hb (by omega)]; omega), e55]
          · rw [if_neg (by rw [iI_lt (by omega) hb]; omega), e55]
      · rw [if_neg h2, if_neg h2]
        simp only [rBd_v, Option.toList_some, Option.toList_none, List.cons_append, List.nil_append, List.append_nil]
        rw [b_226_26, if_pos rfl, b_226_29]
        rfl
    · rw [if_neg h, if_neg h]
      simp only [rBd_v, Option.toList_some, Option.toList_none, List.cons_append, List.nil_append, List.append_nil]
      rw [b_226_10, if_pos rfl, b_226_29]
  by_cases h : 0 ≤ a ∧ a < n
  · rw [if_pos h] at hC
    by_cases h2 : 0 ≤ b ∧ b ≤ 6
    · rw [if_pos h2] at hC
      have hX1 := hX m (fun _ _ => rfl)
      rw [if_pos h, if_pos h2] at hX1
      exact q_in hC hX1 tk_0 (tk_RR hR)
    · rw [if_neg h2] at hC
      have hX1 := hX (wr m 100 17 (m 100 17 + 1)) (fun e he => wr_o _ _ _ _ (by omega))
      rw [if_pos h, if_neg h2] at hX1
      exact q_no hR hC hX1
  · rw [if_neg h] at hC
    have hX1 := hX (wr m 100 16 (m 100 16 + 1)) (fun e he => wr_o _ _ _ _ (by omega))
    rw [if_neg h] at hX1
    exact q_ns hR rfl hC hX1
end S
