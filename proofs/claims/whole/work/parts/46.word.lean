/-! ===== words: the reference's numbers against the class's letters ===== -/
theorem wEnd_ok (T : Nat → Int) : ∀ (g p : Nat), p ≤ wEnd T g p ∧ wEnd T g p ≤ p + g ∧ (∀ i, p ≤ i → i < wEnd T g p → 97 ≤ T i ∧ T i ≤ 122) ∧ (wEnd T g p < p + g → ¬ (97 ≤ T (wEnd T g p) ∧ T (wEnd T g p) ≤ 122)) := by
  intro g
  induction g with
  | zero =>
    intro p
    unfold wEnd
    exact ⟨Nat.le_refl _, Nat.le_refl _, fun i h1 h2 => by omega, fun h => by omega⟩
  | succ g ih =>
    intro p
    unfold wEnd
    by_cases hs : 97 ≤ T p ∧ T p ≤ 122
    · rw [if_pos hs]
      obtain ⟨h1, h2, h3, h4⟩ := ih (p + 1)
      refine ⟨by omega, by omega, fun i hi hl => ?_, fun h => h4 (by omega)⟩
      by_cases he : i = p
      · rw [he]
        exact hs
      · exact h3 i (by omega) hl
    · rw [if_neg hs]
      exact ⟨Nat.le_refl _, by omega, fun i h1 h2 => by omega, fun _ => hs⟩
/-- a word's letters -/
def isL (l : List Nat) : Prop := l ≠ [] ∧ l.length ≤ 6 ∧ ∀ c ∈ l, 97 ≤ c ∧ c ≤ 122
theorem ofL_b32 : ∀ (l acc : List Nat), (∀ c ∈ l, 97 ≤ c ∧ c ≤ 122) → (∀ x ∈ acc, 1 ≤ x ∧ x < 32) → l.length + acc.length ≤ 6 → ofL (b32 acc) l = (b32 ((l.map (fun c => c - 96)).reverse ++ acc) : Nat) := by
  intro l
  induction l with
  | nil => intro acc _ _ _; rfl
  | cons c l ih =>
    intro acc hl ha hn
    have hc := hl c List.mem_cons_self
    have hlen : (c :: l).length = l.length + 1 := rfl
    have h1 := b32_lt acc ha
    have h2 := pow32 (k := acc.length) (by omega)
    have hv : zOr (zShl (b32 acc) 5) ((c : Int) - 96) = (b32 ((c - 96) :: acc) : Nat) := by
      rw [zlet (by omega) (by omega) (by omega) (by omega)]
      show _ = ((c - 96 + 32 * b32 acc : Nat) : Int)
      omega
    show ofL (zOr (zShl (b32 acc) 5) ((c : Int) - 96)) l = _
    rw [hv, ih ((c - 96) :: acc) (fun x hx => hl x (List.mem_cons_of_mem _ hx)) (fun x hx => by
      rcases List.mem_cons.mp hx with rfl | hx
      · omega
      · exact ha x hx) (by rw [List.length_cons]; omega)]
    rw [List.map_cons, List.reverse_cons, List.append_assoc]
    rfl
theorem b32_pos {l : List Nat} (h : l ≠ []) (hl : ∀ x ∈ l, 1 ≤ x ∧ x < 32) : 0 < b32 l := by
  cases l with
  | nil => exact absurd rfl h
  | cons c l =>
    have := hl c List.mem_cons_self
    unfold b32
    omega
theorem wVal_iff {T : Nat → Int} {n p : Nat} (hp : p ≤ n) {l : List Nat} (hl : isL l) : wVal T n p = ofL 0 l ↔ (∀ i, i < l.length → p + i < n ∧ T (p + i) = l.getD i 0) ∧ ¬ aF T n (p + l.length) 97 122 := by
  obtain ⟨l1, l2, l3⟩ := hl
  have hD : ∀ x ∈ (l.map (fun c => c - 96)).reverse, 1 ≤ x ∧ x < 32 := by
    intro x hx
    rw [List.mem_reverse] at hx
    obtain ⟨c, hc, rfl⟩ := List.mem_map.mp hx
    have := l3 c hc
    omega
  have hO : ofL 0 l = (b32 (l.map (fun c => c - 96)).reverse : Nat) := by
    have := ofL_b32 l [] l3 (fun x hx => nomatch hx) (by simp; omega)
    rw [List.append_nil] at this
    exact this
  have hOp : 0 < b32 (l.map (fun c => c - 96)).reverse := b32_pos (by simp [l1]) hD
  obtain ⟨w1, w2, w3, w4⟩ := wrd_b32 T (n - p) p [] (fun x hx => nomatch hx)
  obtain ⟨-, -, e3, e4⟩ := wEnd_ok T (n - p) p
  rw [show ([] : List Nat).length = 0 from rfl] at w1 w4
  have w1' : (wrd T (n - p) p 0 0).2 = wEnd T (n - p) p - p := by
    rw [Nat.zero_add] at w1
    exact w1
  rw [hO]
  unfold wVal
  rw [w1']
  by_cases hc : 6 < wEnd T (n - p) p - p
  · rw [if_pos hc]
    constructor
    · intro h
      exfalso
      clear w4
      omega
    · rintro ⟨-, h2⟩
      exfalso
      refine h2 ⟨by clear w4; omega, ?_⟩
      have := e3 (p + l.length) (by omega) (by clear w4; omega)
      omega
  · rw [if_neg hc]
    obtain ⟨u, u1, u2, u3, u4⟩ := w4 (by clear w4; omega)
    clear w4
    rw [List.append_nil] at u1
    have u1' : (wrd T (n - p) p 0 0).1 = (b32 u : Nat) := u1
    rw [u1']
    have hgl : ∀ i, i < l.length → (l.map (fun c => c - 96)).getD i 0 + 96 = l.getD i 0 := by
      intro i hi
      rw [List.getD_eq_getElem?_getD, List.getD_eq_getElem?_getD, List.getElem?_map, List.getElem?_eq_getElem hi]
      have := l3 _ (List.getElem_mem hi)
      show l[i] - 96 + 96 = l[i]
      omega
    constructor
    · intro h
      have hu : u = (l.map (fun c => c - 96)).reverse := b32_inj _ _ u3 hD (Int.ofNat_inj.mp h)
      have hul : u.length = l.length := by rw [hu]; simp
      refine ⟨fun i hi => ⟨by omega, ?_⟩, fun hf => ?_⟩
      · rw [u4 i (by omega), hu, List.reverse_reverse]
        have := hgl i hi
        omega
      · have he : p + l.length = wEnd T (n - p) p := by omega
        rw [he] at hf
        exact e4 (by have := hf.1; omega) hf.2
    · rintro ⟨h1, h2⟩
      have hge : p + l.length ≤ wEnd T (n - p) p := by
        by_cases hlt : wEnd T (n - p) p < p + l.length
        · exfalso
          have h3 := h1 (wEnd T (n - p) p - p) (by omega)
          rw [show p + (wEnd T (n - p) p - p) = wEnd T (n - p) p by omega] at h3
          have h4 := e4 (by omega)
          have hi : wEnd T (n - p) p - p < l.length := by omega
          have h5 := l3 _ (List.getElem_mem hi)
          rw [List.getD_eq_getElem?_getD, List.getElem?_eq_getElem hi] at h3
          exact h4 ⟨by rw [h3.2]; show (97 : Int) ≤ (l[wEnd T (n - p) p - p] : Nat); omega, by rw [h3.2]; show ((l[wEnd T (n - p) p - p] : Nat) : Int) ≤ 122; omega⟩
        · omega
      have hle : wEnd T (n - p) p ≤ p + l.length := by
        by_cases hlt : p + l.length < wEnd T (n - p) p
        · exfalso
          exact h2 ⟨by omega, e3 _ (by omega) hlt⟩
        · omega
      have hul : u.length = l.length := by omega
      have : u = (l.map (fun c => c - 96)).reverse := by
        have h3 : u.reverse = l.map (fun c => c - 96) := by
          apply List.ext_getElem (by simp [hul])
          intro i hi1 hi2
          have hi : i < l.length := by simpa using hi2
          have h4 := u4 i (by omega)
          have h5 := (h1 i hi).2
          have h6 := hgl i hi
          rw [List.getD_eq_getElem?_getD, List.getElem?_eq_getElem hi1] at h4
          rw [List.getD_eq_getElem?_getD, List.getElem?_eq_getElem hi2] at h6
          rw [Option.getD_some] at h4 h6
          omega
        rw [← h3, List.reverse_reverse]
      rw [this]
theorem wEnd_word {T : Nat → Int} {n p : Nat} {l : List Nat} (hl : isL l) (h : (∀ i, i < l.length → p + i < n ∧ T (p + i) = l.getD i 0) ∧ ¬ aF T n (p + l.length) 97 122) : wEnd T (n - p) p = p + l.length := by
  obtain ⟨l1, l2, l3⟩ := hl
  obtain ⟨h1, h2⟩ := h
  obtain ⟨e1, e2, e3, e4⟩ := wEnd_ok T (n - p) p
  have h0 := h1 0 (by cases l with | nil => exact absurd rfl l1 | cons c l => simp)
  have hge : p + l.length ≤ wEnd T (n - p) p := by
    by_cases hlt : wEnd T (n - p) p < p + l.length
    · exfalso
      have h3 := h1 (wEnd T (n - p) p - p) (by omega)
      rw [show p + (wEnd T (n - p) p - p) = wEnd T (n - p) p by omega] at h3
      have h4 := e4 (by omega)
      have hi : wEnd T (n - p) p - p < l.length := by omega
      have h5 := l3 _ (List.getElem_mem hi)
      rw [List.getD_eq_getElem?_getD, List.getElem?_eq_getElem hi] at h3
      exact h4 ⟨by rw [h3.2]; show (97 : Int) ≤ (l[wEnd T (n - p) p - p] : Nat); omega, by rw [h3.2]; show ((l[wEnd T (n - p) p - p] : Nat) : Int) ≤ 122; omega⟩
    · omega
  by_cases hlt : p + l.length < wEnd T (n - p) p
  · exfalso
    exact h2 ⟨by omega, e3 _ (by omega) hlt⟩
  · omega
section S
variable {d n : Nat} {m : Nat → Nat → Int} {q : Nat → Nat → Option Nat} {w : Option (Nat → Int64)} {T : Nat → Int} {s : rd}
theorem L_172 (hd : 1 ≤ d) (h : onX m T n) : ∀ (g p : Nat) (v : Int) (c : Nat), p + g = n → c ≤ p → gv d rR172 14 [some (.ref 363), some (.int (iI v)), some (.int (iI c)), some (.int (iI p))] [] (mk (mr m s) q w) = vI (if 6 < (wrd T g p v c).2 then 0 else (wrd T g p v c).1) (mk (mr m s) q w) := by
  obtain ⟨h1, h2, h3, h4⟩ := h
  have hend : ∀ (v : Int) (c : Nat) (u : Option Value), c ≤ 2000 → gv d rR172 67 [some (.ref 363), some (.int (iI v)), some (.int (iI c)), u] [] (mk (mr m s) q w) = vI (if 6 < c then 0 else v) (mk (mr m s) q w) := by
    intro v c u hc
    simp only [b_172_67, iI_lt (by omega : i32 6) (by omega : i32 (c : Int)), b_172_78]
    by_cases h : 6 < c
    · rw [if_pos (by omega), if_pos h]
    · rw [if_neg (by omega), if_neg h]
  intro g
  induction g with
  | zero =>
    intro p v c hp hc
    rw [b_172_14]
    simp only [mr_b m _ (show 3 ≠ 4 by decide) (show 3 ≠ 5 by decide) (show 3 ≠ 6 by decide), h2, iI_lt (by omega : i32 (p : Int)) (by omega : i32 (n : Int))]
    rw [if_neg (by omega), hend v c _ (by omega)]
    rfl
  | succ g ih =>
    intro p v c hp hc
    have := h4 p
    have hd1 : (wrd T (g + 1) p v c) = if 97 ≤ T p ∧ T p ≤ 122 then wrd T g (p + 1) (if c < 6 then zOr (zShl v 5) (T p - 96) else 0) (c + 1) else (v, c) := rfl
    rw [b_172_14]
    simp only [mr_b m _ (show 3 ≠ 4 by decide) (show 3 ≠ 5 by decide) (show 3 ≠ 6 by decide), h2, iI_lt (by omega : i32 (p : Int)) (by omega : i32 (n : Int))]
    rw [if_pos (by omega), b_172_22 (by omega) (by omega)]
    simp only [mr_o m _ (by decide : (365 : Nat) ≠ 363), h1, Int.toNat_natCast, V_170 (show 1 ≤ d by omega) (by omega : i32 (T p)), rBd_v, Option.toList_some, Option.toList_none, List.cons_append, List.nil_append, List.append_nil, b_172_31, zb_0, iI_lt (by omega : i32 (c : Int)) (by omega : i32 6), hend v c _ (show c ≤ 2000 by omega)]
    rw [hd1]
    by_cases hs : 97 ≤ T p ∧ T p ≤ 122
    · rw [if_neg (not_not_intro hs), if_pos hs]
      by_cases hc6 : c < 6
      · rw [if_pos (by omega), b_172_40 (by omega) (by omega)]
        simp only [mr_o m _ (by decide : (365 : Nat) ≠ 363), h1, Int.toNat_natCast, b_172_57]
        rw [if_pos hc6]
        exact ih (p + 1) _ (c + 1) (by omega) (by omega)
      · rw [if_neg (by omega), b_172_57, if_neg hc6]
        exact ih (p + 1) 0 (c + 1) (by omega) (by omega)
    · rw [if_pos hs, if_neg hs]
theorem V_172 (hd : 2 ≤ d) (h : onX m T n) (hs : gx n s) : ev d 172 [.ref 363] (mk (mr m s) q w) = vI (wVal T n (skip T n s.1)) (mk (mr m (skip T n s.1, s.2)) q w) := by
  have hk := skip_le T hs.1
  rw [e_172 (by omega) _ rfl]
  simp only [b_172_0, V_169 (show 1 ≤ d - 1 by omega) h hs, rBd_v, Option.toList_some, Option.toList_none, List.cons_append, List.nil_append, List.append_nil, b_172_4, mr_4]
  exact L_172 (show 1 ≤ d - 1 by omega) h (n - skip T n s.1) (skip T n s.1) 0 0 (by omega) (by omega)
theorem L_173 (hd : 9 ≤ d) {t : Nat} {l : List Nat} (ht : rTxt t = some l) : ∀ (g i : Nat) (v : Int), i + g = l.length → gv d rR173 4 [some (.ref t), some (.int (iI v)), some (.int (iI i))] [] (mk m q w) = vI (ofL v (l.drop i)) (mk m q w) := by
  obtain ⟨hl, hc⟩ := tx_small ht
  intro g
  induction g with
  | zero =>
    intro i v hi
    rw [b_173_4 ht hd]
    simp only [iI_lt (by omega : i32 (i : Int)) (by omega : i32 ((l.length : Nat) : Int))]
    rw [if_neg (by omega), List.drop_of_length_le (by omega)]
    rfl
  | succ g ih =>
    intro i v hi
    rw [b_173_4 ht hd]
    simp only [iI_lt (by omega : i32 (i : Int)) (by omega : i32 ((l.length : Nat) : Int))]
    rw [if_pos (by omega), b_173_12 ht hd (by omega) (by omega) (by omega)]
    rw [show (i : Int) + 1 = ((i + 1 : Nat) : Int) from rfl, ih (i + 1) _ (by omega), List.drop_eq_getElem_cons (by omega : i < l.length), Int.toNat_natCast, List.getD_eq_getElem?_getD, List.getElem?_eq_getElem (by omega : i < l.length)]
    rfl
theorem V_173 (hd : 10 ≤ d) {t : Nat} {l : List Nat} (ht : rTxt t = some l) : ev d 173 [.ref t] (mk m q w) = vI (ofL 0 l) (mk m q w) := by
  rw [e_173 (by omega) _ rfl]
  simp only [b_173_0 ht]
  exact L_173 (show 9 ≤ d - 1 by omega) ht l.length 0 0 (by omega)
theorem L_174 (hd : 1 ≤ d) (h : onX m T n) {b k : Int} : ∀ (g p : Nat), p + g = n → gv d rR174 0 [some (.ref 363)] [] (mk (mr m (p, b, k)) q w) = vV (mk (mr m (wEnd T g p, b, k)) q w) := by
  obtain ⟨h1, h2, h3, h4⟩ := h
  intro g
  induction g with
  | zero =>
    intro p hp
    rw [b_174_0]
    simp only [mr_4, mr_b m _ (show 3 ≠ 4 by decide) (show 3 ≠ 5 by decide) (show 3 ≠ 6 by decide), h2, iI_lt (by omega : i32 (p : Int)) (by omega : i32 (n : Int))]
    rw [if_neg (by omega), b_174_39]
    rfl
  | succ g ih =>
    intro p hp
    have := h4 p
    rw [b_174_0]
    simp only [mr_4, mr_b m _ (show 3 ≠ 4 by decide) (show 3 ≠ 5 by decide) (show 3 ≠ 6 by decide), h2, iI_lt (by omega : i32 (p : Int)) (by omega : i32 (n : Int))]
    rw [if_pos (by omega), b_174_11 (by rw [mr_4]; show 0 ≤ (p : Int); omega) (by rw [mr_4]; show (p : Int) < 600; omega)]
    simp only [mr_4, mr_o m _ (by decide : (365 : Nat) ≠ 363), h1, Int.toNat_natCast, V_170 (show 1 ≤ d by omega) (by omega : i32 (T p)), rBd_v, Option.toList_some, Option.toList_none, List.cons_append, List.nil_append, List.append_nil, b_174_23, zb_0, b_174_39]
    unfold wEnd
    by_cases hs : 97 ≤ T p ∧ T p ≤ 122
    · rw [if_neg (not_not_intro hs), if_pos hs, show (p : Int) + 1 = ((p + 1 : Nat) : Int) from rfl, mr_w4]
      exact ih (p + 1) (by omega)
    · rw [if_pos hs, if_neg hs]
theorem V_174 (hd : 2 ≤ d) (h : onX m T n) (hs : gx n s) : ev d 174 [.ref 363] (mk (mr m s) q w) = vV (mk (mr m (wEnd T (n - s.1) s.1, s.2)) q w) := by
  rw [e_174 (by omega) _ rfl]
  exact L_174 (show 1 ≤ d - 1 by omega) h (n - s.1) s.1 (by have := hs.1; omega)
end S
