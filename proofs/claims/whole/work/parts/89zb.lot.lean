/-! ===== the call lot, alike ===== -/
theorem zRem_n {a b : Nat} (ha : 0 < a) (ha2 : a < 2147483648) (hb : b < 2147483648) : zRem (b : Int) (a : Int) = ((b % a : Nat) : Int) := by
  have hmin : Int32.minValue.toInt = -2147483648 := by decide
  have hmax : Int32.maxValue.toInt = 2147483647 := by decide
  have e : iI (b : Int) / iI (a : Int) = iI ((b / a : Nat) : Int) := by
    unfold iI
    rw [← Int32.ofInt_tdiv (by omega) (by omega) (by omega) (by omega), Int.tdiv_eq_ediv_of_nonneg (by omega), ← Int.natCast_ediv]
  have hm : b % a < a := Nat.mod_lt _ ha
  have h2 : ((a * (b / a) + b % a : Nat) : Int) = b := by rw [Nat.div_add_mod b a]
  rw [Int.natCast_add, Int.natCast_mul, Int.mul_comm] at h2
  unfold zRem
  rw [e, iI_mul, iI_sub, show (b : Int) - ((b / a : Nat) : Int) * (a : Int) = ((b % a : Nat) : Int) by omega, iI_i (by omega)]
def eu : Nat → Nat → Nat → Nat
  | 0, b, _ => b
  | g + 1, b, a => if a = 0 then b else eu g a (b % a)
theorem eu_0 (g b : Nat) : eu g b 0 = b := by
  cases g with
  | zero => rfl
  | succ g => exact if_pos rfl
theorem eu_gcd : ∀ (k g b a : Nat), a < 2 ^ k → 2 * k + 1 ≤ g → eu g b a = Nat.gcd a b := by
  intro k
  induction k with
  | zero =>
    intro g b a h _
    obtain rfl : a = 0 := by
      have : 2 ^ 0 = 1 := rfl
      omega
    rw [eu_0, Nat.gcd_zero_left]
  | succ k ih =>
    intro g b a h hg
    by_cases h0 : a = 0
    · subst h0
      rw [eu_0, Nat.gcd_zero_left]
    · obtain ⟨g1, rfl⟩ : ∃ g1, g = g1 + 1 + 1 := ⟨g - 2, by omega⟩
      rw [show eu (g1 + 1 + 1) b a = if a = 0 then b else eu (g1 + 1) a (b % a) from rfl, if_neg h0, Nat.gcd_rec]
      by_cases h1 : b % a = 0
      · rw [h1, eu_0, Nat.gcd_zero_left]
      · rw [show eu (g1 + 1) a (b % a) = if b % a = 0 then a else eu g1 (b % a) (a % (b % a)) from rfl, if_neg h1, Nat.gcd_rec]
        have hlt : b % a < a := Nat.mod_lt _ (by omega)
        have hlt2 : a % (b % a) < b % a := Nat.mod_lt _ (by omega)
        have hle : a % (b % a) ≤ a - b % a := by
          rw [Nat.mod_eq_sub_mod (by omega)]
          exact Nat.mod_le _ _
        refine ih g1 (b % a) (a % (b % a)) ?_ (by omega)
        rw [Nat.pow_succ] at h
        omega
def fb : Nat → Nat → Int → Int
  | 0, _, a => a
  | g + 1, i, a => fb g (i + 1) (a * i)
def fr : Nat → Nat → Int → Int
  | 0, _, a => a
  | g + 1, k, a => fr g (k + 1) (a * (2 * k))
theorem fb_fr : ∀ n : Nat, n < 8 → zShl (fb (n + 1 - 2) 2 1) (n : Int) = fr n 1 1 ∧ 0 < fr n 1 1 ∧ fr n 1 1 ≤ 645120 := by decide +kernel
section S
variable {d n : Nat} {m : Nat → Nat → Int} {q : Nat → Nat → Option Nat} {w : Option (Nat → Int64)}
theorem L_141 : ∀ (g i b a : Nat) (u0 u1 u5 : Option Value), i + g = 64 → a < 2147483648 → b < 2147483648 → gv d rR141 7 [u0, u1, some (.int (iI (b : Int))), some (.int (iI (a : Int))), some (.int (iI (i : Int))), u5] [] (mk m q w) = vI ((eu g b a : Nat) : Int) (mk m q w) := by
  intro g
  induction g with
  | zero =>
    intro i b a u0 u1 u5 hg ha hb
    rw [b_141_7, if_neg (by rw [iI_lt (by omega) (by omega)]; omega), b_141_34]
    rfl
  | succ g ih =>
    intro i b a u0 u1 u5 hg ha hb
    rw [b_141_7, if_pos (by rw [iI_lt (by omega) (by omega)]; omega)]
    simp only [iI_eq (show i32 (a : Int) by omega) (show i32 0 by omega)]
    unfold eu
    by_cases h : a = 0
    · rw [if_pos (by omega), b_141_34, if_pos h]
    · have hm : b % a < a := Nat.mod_lt _ (by omega)
      rw [if_neg (by omega), if_neg h, b_141_18 (show iI (a : Int) ≠ iI 0 from fun e => h (by rw [iI_eq (by omega) (by omega)] at e; omega)), zRem_n (by omega) ha hb, show (i : Int) + 1 = ((i + 1 : Nat) : Int) from rfl, ih (i + 1) a (b % a) _ _ _ (by omega) (by omega) ha]
theorem T_141 (hd : 1 ≤ d) {a b : Nat} (ha : a < 134217728) (hb : b < 2147483648) : ev d 141 [.int (iI (a : Int)), .int (iI (b : Int))] (mk m q w) = vI ((Nat.gcd a b : Nat) : Int) (mk m q w) := by
  rw [e_141 hd _ rfl rfl, b_141_0, show iI 0 = iI ((0 : Nat) : Int) from rfl, L_141 64 0 b a _ _ _ (by omega) (by omega) hb, eu_gcd 27 64 b a (by omega) (by omega)]
theorem L_142 {hf : Int} {W : Int} (hn7 : n ≤ 7) (h0 : m 108 0 = n) {u1 : Option Value} : ∀ (g i : Nat) (a : Int), g = n + 1 - i → i ≤ 9 → ∃ u5, gv d rR142 37 [some (.ref 100), u1, some (.int (iI hf)), some (.int (iI W)), some (.int (iI a)), some (.int (iI (i : Int)))] [] (mk m q w) = rBd (ev d 141 [.int (iI W), .int (iI (zShl (fb g i a) (n : Int)))] (mk m q w)) (fun v M' => gv d rR142 86 [some (.ref 100), u1, some (.int (iI hf)), some (.int (iI W)), some (.int (iI (zShl (fb g i a) (n : Int)))), u5] (v.toList ++ []) M') := by
  intro g
  induction g with
  | zero =>
    intro i a hg hi
    refine ⟨some (.int (iI (i : Int))), ?_⟩
    rw [b_142_37, h0, if_pos (by rw [iI_lt (by omega) (by omega)]; omega)]
    rfl
  | succ g ih =>
    intro i a hg hi
    obtain ⟨u5, h⟩ := ih (i + 1) (a * i) (by omega) (by omega)
    refine ⟨u5, ?_⟩
    rw [b_142_37, h0, if_neg (by rw [iI_lt (by omega) (by omega)]; omega), show (i : Int) + 1 = ((i + 1 : Nat) : Int) from rfl, h]
    rfl
theorem L_247f {hf : Int} {W : Int} (hn7 : n ≤ 7) (h0 : m 363 15 = n) {u1 u7 : Option Value} : ∀ (g k : Nat) (a : Int) (u6 : Option Value), k + g = n + 1 → gv d rR247 54 [some (.ref 363), u1, some (.int (iI hf)), some (.int (iI W)), some (.int (iI a)), some (.int (iI (k : Int))), u6, u7] [] (mk m q w) = gv d rR247 85 [some (.ref 363), u1, some (.int (iI hf)), some (.int (iI W)), some (.int (iI (fr g k a))), some (.int (iI W)), some (.int (iI (fr g k a))), u7] [] (mk m q w) := by
  intro g
  induction g with
  | zero =>
    intro k a u6 hg
    rw [b_247_54, h0, if_pos (by rw [iI_lt (by omega) (by omega)]; omega)]
    rfl
  | succ g ih =>
    intro k a u6 hg
    rw [b_247_54, h0, if_neg (by rw [iI_lt (by omega) (by omega)]; omega), show (k : Int) + 1 = ((k + 1 : Nat) : Int) from rfl, ih (k + 1) _ _ (by omega)]
    rfl
theorem L_247 {hf W B : Int} (hhf : i32 hf) {u0 u1 : Option Value} : ∀ (K y x : Nat) (u7 : Option Value), y < K → x < 2147483648 → y < 2147483648 → (0 < x ∨ 0 < y) → gv d rR247 85 [u0, u1, some (.int (iI hf)), some (.int (iI W)), some (.int (iI B)), some (.int (iI (x : Int))), some (.int (iI (y : Int))), u7] [] (mk m q w) = vI (zDiv (if hf = 0 then W else B) ((Nat.gcd y x : Nat) : Int)) (mk m q w) := by
  intro K
  induction K with
  | zero => intro y x u7 h; omega
  | succ K ih =>
    intro y x u7 h hx hy h0
    rw [b_247_85]
    simp only [iI_eq (show i32 (y : Int) by omega) (show i32 0 by omega), iI_eq hhf (show i32 0 by omega)]
    by_cases c : y = 0
    · subst c
      have hx0 : iI (x : Int) ≠ iI 0 := fun e => by
        rw [iI_eq (by omega) (by omega)] at e
        omega
      rw [if_pos (show ((0 : Nat) : Int) = 0 from rfl), Nat.gcd_zero_left]
      by_cases c2 : hf = 0
      · rw [if_pos c2, if_pos c2, b_247_118 hx0]
      · rw [if_neg c2, if_neg c2, b_247_118 hx0]
    · have hm : x % y < y := Nat.mod_lt _ (by omega)
      have hy0 : iI (y : Int) ≠ iI 0 := fun e => by
        rw [iI_eq (by omega) (by omega)] at e
        omega
      rw [if_neg (by omega), b_247_90 hy0, zRem_n (by omega) hy hx, ih (x % y) y _ (by omega) hy (by omega) (by omega), ← Nat.gcd_rec]
theorem K_lot {a b : Int} (ha : i32 a) (hb : i32 b) : cTH 142 247 [.int (iI a), .int (iI b)] 1 := by
  intro m q w hR d hd
  obtain ⟨n, r, o, hF, k15, k16, hn7, hfk, hfl, hCi, ho, hbt⟩ := RR_fan hR
  obtain ⟨p, z, p2, z2, p1, p3, hz7, p4, p5, hP, i1, i2, i3, i4, i5, i6⟩ := RR_pics hR
  have hpw := pw_lt n (by omega)
  have hEc : gv (d - 1) rR142 21 [some (.ref 100), some (.int (iI a)), some (.int (iI b)), none, none, none] [.ref 100] (mk m q w) = some (.inr 0, (mk (wr m 100 17 (m 100 17 + 1)) q w, (1, 6))) := by
    rw [b_142_21, b_142_22, T_116 (by omega), if_pos rfl]
    rfl
  have hC : ev d 142 [.ref 100, .int (iI a), .int (iI b)] (mk m q w) = if (0 ≤ a ∧ a ≤ 3) ∧ (0 ≤ b ∧ b ≤ 1) then gv (d - 1) rR142 25 [some (.ref 100), some (.int (iI a)), some (.int (iI b)), none, none, none] [] (mk m q w) else some (.inr 0, (mk (wr m 100 17 (m 100 17 + 1)) q w, (1, 6))) := by
    rw [e_142 (by omega) _ rfl rfl rfl, b_142_0, T_128 (by omega) ha]
    simp only [rBd_v, Option.toList_some, Option.toList_none, List.cons_append, List.nil_append, List.append_nil]
    rw [b_142_5]
    simp only [zb_0]
    by_cases h : 0 ≤ a ∧ a ≤ 3
    · rw [if_neg (not_not_intro h), T_6 (by omega) hb (by omega) (by omega)]
      simp only [rBd_v, Option.toList_some, Option.toList_none, List.cons_append, List.nil_append, List.append_nil]
      rw [b_142_14]
      simp only [zb_0]
      by_cases h2 : 0 ≤ b ∧ b ≤ 1
      · rw [if_neg (not_not_intro h2), if_pos ⟨h, h2⟩, b_142_22, T_116 (by omega), if_neg (by decide)]
        simp only [rBd_v, Option.toList_some, Option.toList_none, List.cons_append, List.nil_append, List.append_nil]
      · rw [if_pos h2, if_neg (fun z => h2 z.2), hEc]
    · rw [if_pos h, if_neg (fun z => h z.1), hEc]
  have hX : ∀ m1 : Nat → Nat → Int, ev d 247 [.ref 363, .int (iI a), .int (iI b)] (mk m1 q w) = if (0 ≤ a ∧ a ≤ 3) ∧ (0 ≤ b ∧ b ≤ 1) then gv (d - 1) rR247 41 [some (.ref 363), some (.int (iI a)), some (.int (iI b)), none, none, none, none, none] [] (mk (tk m1) q w) else vI 0 (mk (noX m1 1 1) q w) := by
    intro m1
    have key : ∀ (P : Prop) [Decidable P], gv (d - 1) rR247 27 [some (.ref 363), some (.int (iI a)), some (.int (iI b)), none, none, none, none, none] [.int (iI (zb P)), .ref 363] (mk (wr m1 363 0 0) q w) = if P then gv (d - 1) rR247 41 [some (.ref 363), some (.int (iI a)), some (.int (iI b)), none, none, none, none, none] [] (mk (tk m1) q w) else vI 0 (mk (noX m1 1 1) q w) := by
      intro P _
      rw [b_247_27, V_160 (by omega) (Or.inr rfl) (by omega) (by decide) (wr_s _ _ _ _)]
      by_cases h : P
      · rw [if_pos h, if_pos h]
        simp only [rBd_v, Option.toList_some, Option.toList_none, List.cons_append, List.nil_append, List.append_nil]
        rw [b_247_32, if_neg (by decide), V_200 (by omega)]
        simp only [rBd_v, Option.toList_some, Option.toList_none, List.cons_append, List.nil_append, List.append_nil]
        rfl
      · rw [if_neg h, if_neg h]
        simp only [rBd_v, Option.toList_some, Option.toList_none, List.cons_append, List.nil_append, List.append_nil]
        rw [b_247_32, if_pos rfl]
        rfl
    have hE : gv (d - 1) rR247 26 [some (.ref 363), some (.int (iI a)), some (.int (iI b)), none, none, none, none, none] [.ref 363] (mk (wr m1 363 0 0) q w) = vI 0 (mk (noX m1 1 1) q w) := by
      rw [b_247_26, show iI 0 = iI (zb False) from rfl, key, if_neg not_false]
    rw [e_247 (by omega) _ rfl rfl rfl, b_247_0, V_224 (by omega) ha]
    simp only [rBd_v, Option.toList_some, Option.toList_none, List.cons_append, List.nil_append, List.append_nil]
    rw [b_247_10]
    simp only [zb_0]
    by_cases h : 0 ≤ a ∧ a ≤ 3
    · rw [if_neg (not_not_intro h), V_161 (by omega) hb (by omega) (by omega)]
      simp only [rBd_v, Option.toList_some, Option.toList_none, List.cons_append, List.nil_append, List.append_nil]
      rw [b_247_19]
      simp only [zb_0]
      by_cases h2 : 0 ≤ b ∧ b ≤ 1
      · rw [if_neg (not_not_intro h2), if_pos ⟨h, h2⟩, show iI 1 = iI (zb True) from rfl, key, if_pos trivial]
      · rw [if_pos h2, if_neg (fun z => h2 z.2), hE]
    · rw [if_pos h, if_neg (fun z => h z.1), hE]
  by_cases h : (0 ≤ a ∧ a ≤ 3) ∧ (0 ≤ b ∧ b ≤ 1)
  · rw [if_pos h] at hC
    obtain ⟨v, rfl⟩ : ∃ v : Nat, a = v := ⟨a.toNat, by omega⟩
    obtain ⟨m1, h1, h3, h4⟩ := T_135 (d := d - 1) (m := m) (q := q) (w := w) (n := n) (v := v) (by omega) hfk.1 hn7 p1 p3 p4 hz7 (fun i hi => (hP i hi).2) hCi (by omega)
    have hRm := RR_s (cnt_qs h3) (gS_o (h3.1 161 (by omega)) (h3.1 163 (by omega)) hR.2.2.2.2.2.2) hR
    have hx := xM_tk (o := o) (r := r) k15 hn7 hz7 p5 hP i3 i5 i6 (m1 := m1) (fun e he => h3.1 e (by omega))
    obtain ⟨R, h5, h6⟩ := X_239 (d := d - 1) (m := tk m1) (q := q) (w := w) (by omega) hF hx (v := v) (by omega)
    have hwb := wW_b (al := fun t s => alw (m 110) n z (m (p + 1)) v t s) (n := n) (x := 2 ^ n - 1) hn7 (fun _ _ _ _ => alw_lt) (by omega)
    obtain ⟨W, hW, hW2⟩ : ∃ W : Nat, (if z ≤ n then wW (fun t s => alw (m 110) n z (m (p + 1)) v t s) n (2 ^ n - 1) else 0) = (W : Int) ∧ W ≤ 105413504 := by
      by_cases c : z ≤ n
      · exact ⟨(wW (fun t s => alw (m 110) n z (m (p + 1)) v t s) n (2 ^ n - 1)).toNat, by rw [if_pos c]; omega, by omega⟩
      · exact ⟨0, by rw [if_neg c]; rfl, by omega⟩
    obtain ⟨f1, f2, f3⟩ := fb_fr n (by omega)
    obtain ⟨B, hB⟩ : ∃ B : Nat, fr n 1 1 = B := ⟨(fr n 1 1).toNat, by omega⟩
    rw [hB] at f1 f2 f3
    have hgp : 0 < Nat.gcd W B := Nat.gcd_pos_of_pos_right _ (by omega)
    have hgl : Nat.gcd W B ≤ B := Nat.gcd_le_right _ (by omega)
    have e108 : m1 108 0 = n := by
      rw [h3.1 108 (by omega)]
      exact hfk.1
    rw [hW] at h1 h5
    rw [b_142_25, h1] at hC
    simp only [rBd_v, Option.toList_some, Option.toList_none, List.cons_append, List.nil_append, List.append_nil] at hC
    obtain ⟨u5, h7⟩ := L_142 (d := d - 1) (m := m1) (q := q) (w := w) (n := n) (hf := b) (W := (W : Int)) (u1 := some (.int (iI (v : Int)))) hn7 e108 (n + 1 - 2) 2 1 rfl (by omega)
    rw [b_142_30, show iI 2 = iI ((2 : Nat) : Int) from rfl, h7, f1, T_141 (by omega) (by omega) (by omega)] at hC
    simp only [rBd_v, Option.toList_some, Option.toList_none, List.cons_append, List.nil_append, List.append_nil] at hC
    rw [b_142_86] at hC
    simp only [iI_eq hb (show i32 0 by omega)] at hC
    have hsh : (if iI ((Nat.gcd W B : Nat) : Int) < iI 1 then (1 : Int) else ((Nat.gcd W B : Nat) : Int)) = ((Nat.gcd W B : Nat) : Int) := by
      rw [if_neg (by rw [iI_lt (by omega) (by omega)]; omega)]
    have hne : iI (if iI ((Nat.gcd W B : Nat) : Int) < iI 1 then (1 : Int) else ((Nat.gcd W B : Nat) : Int)) ≠ iI 0 := by
      rw [hsh]
      intro e
      rw [iI_eq (by omega) (by omega)] at e
      omega
    have hC2 : ev d 142 [.ref 100, .int (iI (v : Int)), .int (iI b)] (mk m q w) = vI (zDiv (if b = 0 then (W : Int) else (B : Int)) ((Nat.gcd W B : Nat) : Int)) (mk m1 q w) := by
      rw [hC]
      by_cases c : b = 0
      · rw [if_pos c, if_pos c, b_142_98 (by omega) hne, hsh]
      · rw [if_neg c, if_neg c, b_142_98 (by omega) hne, hsh]
    have hX1 := hX m1
    rw [if_pos h, b_247_41, h5] at hX1
    simp only [rBd_v, Option.toList_some, Option.toList_none, List.cons_append, List.nil_append, List.append_nil] at hX1
    rw [b_247_47, show iI 1 = iI ((1 : Nat) : Int) from rfl, show (some (Value.int (iI ((1 : Nat) : Int)))) = some (Value.int (iI ((1 : Nat) : Int))) from rfl] at hX1
    have h8 := L_247f (d := d - 1) (m := row (tk m1) 384 R) (q := q) (w := w) (n := n) (hf := b) (W := (W : Int)) (u1 := some (.int (iI (v : Int)))) (u7 := none) hn7 (by rw [row_o _ _ _ (by decide)]; exact hx.1) n 1 1 none (by omega)
    have hX2 := hX1.trans h8
    rw [hB, L_247 hb (B + 1) B W none (by omega) (by omega) (by omega) (by omega), Nat.gcd_comm] at hX2
    refine q_in hC2 hX2 ?_ (RR_s (row_qs (x := 384) (f := R) (by unfold scr; omega) (by decide) (by decide)) (gS_o (row_o _ _ _ (by decide)) (row_o _ _ _ (by decide)) (tk_RR hRm).2.2.2.2.2.2) (tk_RR hRm))
    rw [row_o _ _ _ (by decide)]
    exact tk_0
  · rw [if_neg h] at hC
    have hX1 := hX (wr m 100 17 (m 100 17 + 1))
    rw [if_neg h] at hX1
    exact q_no hR hC hX1
end S
