/-! ===== the constants at the start ===== -/
theorem sw_T {i : Nat} (hi : i < 24) : (Jvm.Cond.exactly (swTm i) "java/lang/String") ∈ swW ∧ (Jvm.Cond.eq (.field (swTm i) "java/lang/String" "coder" "B") (.int 0)) ∈ swW ∧ (Jvm.Cond.arrayOf (swVl i) .byte) ∈ swW ∧ (Jvm.Cond.eq (.length (swVl i)) (.int (Int32.ofNat (swLn i).length))) ∈ swW ∧
    ∀ j, j < (swLn i).length → (Jvm.Cond.eq (.elem (swVl i) (.int (Int32.ofNat j))) (.int (Int32.ofNat ((swLn i).getD j 0)))) ∈ swW := by
  have h := List.all_eq_true.mp swT_ok i (List.mem_range.mpr hi)
  unfold swOkT at h
  rw [Bool.and_eq_true, Bool.and_eq_true, Bool.and_eq_true, Bool.and_eq_true] at h
  obtain ⟨h1, h2, h3, h4, h5⟩ := h
  exact ⟨swIn_mem h1, swIn_mem h2, swIn_mem h3, swIn_mem h4, fun j hj => swIn_mem (List.all_eq_true.mp h5 j (List.mem_range.mpr hj))⟩
theorem sw_E {i : Nat} (hi : i < 8) : (Jvm.Cond.eq (.elem (.static "FanHouse$Step" "ALL" "[LFanHouse$Step;") (.int (Int32.ofNat i))) (swEt i)) ∈ swW ∧ (Jvm.Cond.exactly (swEt i) "FanHouse$Step") ∈ swW ∧ (Jvm.Cond.eq (.field (swEt i) "java/lang/Enum" "ordinal" "I") (.int (Int32.ofNat i))) ∈ swW ∧
    (Jvm.Cond.eq (.field (swEt i) "FanHouse$Step" "word" "Ljava/lang/String;") (swTm (rEw.getD i 0 - 10))) ∈ swW ∧ (Jvm.Cond.eq (.field (swEt i) "FanHouse$Step" "numbers" "Ljava/lang/String;") (swTm (rEn.getD i 0 - 10))) ∈ swW ∧ ∀ j, j < i → (Jvm.Cond.not (.eq (swEt i) (swEt j))) ∈ swW ∨ (Jvm.Cond.not (.eq (swEt j) (swEt i))) ∈ swW := by
  have h := List.all_eq_true.mp swE_ok i (List.mem_range.mpr hi)
  unfold swOkE at h
  rw [Bool.and_eq_true, Bool.and_eq_true, Bool.and_eq_true, Bool.and_eq_true, Bool.and_eq_true] at h
  obtain ⟨h1, h2, h3, h4, h5, h6⟩ := h
  refine ⟨swIn_mem h1, of_decide_eq_true h2, of_decide_eq_true h3, of_decide_eq_true h4, of_decide_eq_true h5, fun j hj => ?_⟩
  have h7 := List.all_eq_true.mp h6 j (List.mem_range.mpr hj)
  rw [Bool.or_eq_true] at h7
  rcases h7 with h7 | h7
  · exact Or.inl (of_decide_eq_true h7)
  · exact Or.inr (of_decide_eq_true h7)
theorem sw_S {k : Nat} {v : Jvm.Cond} (h : (k, v) ∈ swS) : v ∈ swW := swIn_mem (List.all_eq_true.mp swS_ok (k, v) h)
theorem sw_ids {i : Nat} (hi : i < 8) : (10 ≤ rEw.getD i 0 ∧ rEw.getD i 0 < 34) ∧ (10 ≤ rEn.getD i 0 ∧ rEn.getD i 0 < 34) := (by decide +kernel : ∀ i, i < 8 → (10 ≤ rEw.getD i 0 ∧ rEw.getD i 0 < 34) ∧ (10 ≤ rEn.getD i 0 ∧ rEn.getD i 0 < 34)) i hi
def swAd (b x8 x9 : Nat) (ea sa : Nat → Nat) : Nat → Nat := fun i => if i = 99 then b else if i = 8 then x8 else if i = 9 then x9 else if i < 8 then ea i else sa (i - 10)
theorem swAd_e {b x8 x9 : Nat} {ea sa : Nat → Nat} {i : Nat} (hi : i < 8) : swAd b x8 x9 ea sa i = ea i := by
  unfold swAd
  rw [if_neg (by omega), if_neg (by omega), if_neg (by omega), if_pos hi]
theorem swAd_s {b x8 x9 : Nat} {ea sa : Nat → Nat} {i : Nat} (h1 : 10 ≤ i) (h2 : i < 34) : swAd b x8 x9 ea sa i = sa (i - 10) := by
  unfold swAd
  rw [if_neg (by omega), if_neg (by omega), if_neg (by omega), if_neg (by omega)]
set_option maxHeartbeats 4000000 in
theorem sw_rCn {s : State} {b : Nat} (hts : ∀ w ∈ lw_tbl, w.before #[Value.ref b] s = true) (hgv : (Jvm.Cond.and given_1 narrow_1).before #[Value.ref b] s = true) : ∃ ad0 : Nat → Nat, ad0 99 = b ∧ rCn s.heap.size ad0 s s.heap := by
  have hs : ∀ w ∈ swW, w.before #[Value.ref b] s = true := flat_of_before _ hgv
  have hv : ∀ w ∈ swV, w.before #[Value.ref b] s = true := fun w hw => hts w (swV_ok w hw)
  have hA : ∀ a : Nat, a < s.heap.size → ¬ rA s.heap.size a := fun a h h2 => absurd h (Nat.not_lt.mpr h2)
  have hS : ∀ i : Nat, ∃ q : Nat × Nat, i < 24 → (swTm i).eval #[Value.ref b] s none [] s = some (.ref q.1) ∧ va_O "java/lang/String" q.1 (rA s.heap.size) s s.heap ∧ va_OF "java/lang/String" "coder" "B" (.int 0) q.1 (rA s.heap.size) s s.heap ∧ va_OF "java/lang/String" "value" "[B" (.ref q.2) q.1 (rA s.heap.size) s s.heap ∧ va_T .byte q.2 (rTx.getD i []).length (fun j => .int (Int32.ofNat ((rTx.getD i []).getD j 0))) (rA s.heap.size) s s.heap := by
    intro i
    by_cases hi : i < 24
    · obtain ⟨h1, h2, h3, h4, h5⟩ := sw_T hi
      obtain ⟨a, c, cA, kA, q1, -⟩ := Cond.exactly_spec (args := #[Value.ref b]) (first := s) (o := none) (s := s) (idx := []) (t := swTm i) (cls := "java/lang/String") (hs _ h1)
      have hl : (swLn i).length < 2 ^ 31 := (by decide +kernel : ∀ i, i < 24 → (swLn i).length < 2 ^ 31) i hi
      obtain ⟨t, ht, hT⟩ := va_Tof (f := fun j => .int (Int32.ofNat ((swLn i).getD j 0))) (A := rA s.heap.size) hl (hs _ h3) (va_eqt (hs _ h4)) (fun j hj => va_eqt (hs _ (h5 j hj))) hA
      exact ⟨(a, t), fun _ => ⟨q1, va_Oof (hs _ h1) q1 hA, vk_OFof q1 (va_eqt (hs _ h2)) hA, vk_OFof q1 ht hA, hT⟩⟩
    · exact ⟨(0, 0), fun h => absurd h hi⟩
  obtain ⟨sa, hsa⟩ := Classical.axiomOfChoice hS
  have hE : ∀ i : Nat, ∃ a : Nat, i < 8 → (swEt i).eval #[Value.ref b] s none [] s = some (.ref a) ∧ va_O "FanHouse$Step" a (rA s.heap.size) s s.heap ∧ va_OF "FanHouse$Step" "word" "Ljava/lang/String;" (.ref (sa (rEw.getD i 0 - 10)).1) a (rA s.heap.size) s s.heap ∧ va_OF "FanHouse$Step" "numbers" "Ljava/lang/String;" (.ref (sa (rEn.getD i 0 - 10)).1) a (rA s.heap.size) s s.heap ∧ va_OF "java/lang/Enum" "ordinal" "I" (.int (Int32.ofNat i)) a (rA s.heap.size) s s.heap := by
    intro i
    by_cases hi : i < 8
    · obtain ⟨h1, h2, h3, h4, h5, -⟩ := sw_E hi
      obtain ⟨a, c, cA, kA, q1, -⟩ := Cond.exactly_spec (args := #[Value.ref b]) (first := s) (o := none) (s := s) (idx := []) (t := swEt i) (cls := "FanHouse$Step") (hs _ h2)
      have hw := sw_ids hi
      exact ⟨a, fun _ => ⟨q1, va_Oof (hs _ h2) q1 hA, vk_OFof q1 (va_eqv (hs _ h4) (hsa _ (by omega)).1) hA, vk_OFof q1 (va_eqv (hs _ h5) (hsa _ (by omega)).1) hA, vk_OFof q1 (va_eqt (hs _ h3)) hA⟩⟩
    · exact ⟨0, fun h => absurd h hi⟩
  obtain ⟨ea, hea⟩ := Classical.axiomOfChoice hE
  obtain ⟨x8, e8, t8⟩ := va_Tof (tm := .static "FanHouse$Step" "ALL" "[LFanHouse$Step;") (ty := .object "FanHouse$Step") (N := 8) (f := fun j => .ref (ea j)) (A := rA s.heap.size) (by decide) (hs _ (sw_S (k := 13) (by decide +kernel))) (va_eqt (hs _ (sw_S (k := 14) (v := .eq (.length (.static "FanHouse$Step" "ALL" "[LFanHouse$Step;")) (.int (Int32.ofNat 8))) (by decide +kernel)))) (fun j hj => va_eqv (hs _ (sw_E hj).1) (hea j hj).1) hA
  obtain ⟨x9, e9, t9⟩ := va_Tof (tm := .static "FanHouse$1" "$SwitchMap$FanHouse$Step" "[I") (ty := .int) (N := 8) (f := fun j => .int (Int32.ofNat (rSw.getD j 0))) (A := rA s.heap.size) (by decide) (hs _ (sw_S (k := 29) (by decide +kernel))) (va_eqt (hs _ (sw_S (k := 30) (v := .eq (.length (.static "FanHouse$1" "$SwitchMap$FanHouse$Step" "[I")) (.int (Int32.ofNat 8))) (by decide +kernel)))) (fun j hj => va_eqt (hs _ (swIn_mem (List.all_eq_true.mp swM_ok j (List.mem_range.mpr hj))))) hA
  obtain ⟨y1, c1, cA1, kA1, r1', -⟩ := Cond.exactly_spec (args := #[Value.ref b]) (first := s) (o := none) (s := s) (idx := []) (t := .string "FanHouse" 359) (cls := "java/lang/String") (hs _ (sw_S (k := 187) (by decide +kernel)))
  obtain ⟨y2, c2, cA2, kA2, r2', -⟩ := Cond.exactly_spec (args := #[Value.ref b]) (first := s) (o := none) (s := s) (idx := []) (t := .string "FanHouse" 366) (cls := "java/lang/String") (hs _ (sw_S (k := 344) (by decide +kernel)))
  obtain ⟨ad, had⟩ : ∃ ad, ad = swAd b x8 x9 ea (fun i => (sa i).1) := ⟨_, rfl⟩
  have d8 : ad 8 = x8 := by rw [had]; rfl
  have d9 : ad 9 = x9 := by rw [had]; rfl
  have de : ∀ i, i < 8 → ad i = ea i := fun i hi => by rw [had]; exact swAd_e hi
  have ds : ∀ i, 10 ≤ i → i < 34 → ad i = (sa (i - 10)).1 := fun i h1 h2 => by rw [had]; exact swAd_s h1 h2
  refine ⟨ad, by rw [had]; rfl, ⟨fun w hw => va_Nw.of (swN_ok w hw) (hts w (rNw_ok w hw)), ?_, ?_, ?_⟩, ⟨?_, ?_, ?_, ?_, ?_, ?_⟩, ⟨?_, ?_, ?_⟩, ⟨y1, vk_R.of (hv _ (by decide +kernel)) r1'⟩, ⟨y2, vk_R.of (hv _ (by decide +kernel)) r2'⟩, ?_, ?_, ?_, ?_, ?_, ?_⟩
  · intro t C h2 h5 hC
    rcases (show t = 2 ∨ t = 3 ∨ t = 4 ∨ t = 5 by omega) with rfl | rfl | rfl | rfl
    · cases hC
      exact va_AO.of (hv _ (by decide +kernel))
    · cases hC
      exact va_AO.of (hv _ (by decide +kernel))
    · cases hC
      exact va_AO.of (hv _ (by decide +kernel))
    · cases hC
      exact va_AO.of (hv _ (by decide +kernel))
  · intro q hq h1 own tx ho ht
    have h2 := List.all_eq_true.mp swL_ok q hq
    unfold swOkL at h2
    rw [if_pos h1, ho] at h2
    dsimp only at h2
    rw [Bool.and_eq_true, Bool.or_eq_true, decide_eq_true_eq] at h2
    have h3 := List.all_eq_true.mp rLt_ok q hq
    unfold rOkL at h3
    rw [ho] at h3
    dsimp only at h3
    rw [if_neg (by omega), ht] at h3
    dsimp only at h3
    rw [Bool.and_eq_true, decide_eq_true_eq] at h3
    refine vk_R.of (hts _ (List.mem_of_getElem? h3.1)) ?_
    rw [ds _ h2.1.1 h2.1.2]
    have h4 := (hsa (q.2.2.2.1 - 10) (by omega)).1
    rcases h2.2 with h5 | h5
    · rw [of_decide_eq_true h5]
      exact h4
    · exact va_eqv (hs _ (of_decide_eq_true h5)) h4
  · intro i j hi hj hij
    rw [de i hi, de j hj] at hij
    by_cases c : i = j
    · exact c
    · exfalso
      rcases Nat.lt_or_gt_of_ne c with h | h
      · rcases (sw_E hj).2.2.2.2.2 i h with h6 | h6
        · exact va_neR (hs _ h6) (hea j hj).1 (hea i hi).1 hij.symm
        · exact va_neR (hs _ h6) (hea i hi).1 (hea j hj).1 hij
      · rcases (sw_E hi).2.2.2.2.2 j h with h6 | h6
        · exact va_neR (hs _ h6) (hea i hi).1 (hea j hj).1 hij
        · exact va_neR (hs _ h6) (hea j hj).1 (hea i hi).1 hij.symm
  · rw [d8]
    exact va_Zof (hv _ (by decide +kernel)) (hv _ (by decide +kernel)) e8 hA
  · rw [de 7 (by decide)]
    exact va_Zof (hv _ (by decide +kernel)) (hv _ (by decide +kernel)) (hea 7 (by decide)).1 hA
  · rw [d9]
    exact va_Zof (hv _ (by decide +kernel)) (hv _ (by decide +kernel)) e9 hA
  · rw [d8]
    obtain ⟨cell, g1, g2, g3, g4, g5, g6, g7⟩ := t8
    exact ⟨cell, g1, g2, g3, g4, g5, fun j hj => by
      show _ = some (Value.ref (ad j))
      rw [de j hj]
      exact g6 j hj, g7⟩
  · rw [d9]
    exact t9
  · intro i hi
    have hw := sw_ids hi
    obtain ⟨g1, g2, g3, g4, g5⟩ := hea i hi
    rw [de i hi, ds _ hw.1.1 hw.1.2, ds _ hw.2.1 hw.2.2]
    exact ⟨g2, g3, g4, g5⟩
  · intro i hi
    have hi : i < 24 := hi
    obtain ⟨g1, g2, g3, g4, g5⟩ := hsa i hi
    rw [ds (10 + i) (by omega) (by omega), show 10 + i - 10 = i by omega]
    exact ⟨g2, g3, (sa i).2, g4, g5⟩
  · exact va_Zof (hv _ (by decide +kernel)) (hv _ (by decide +kernel)) (va_eqt (hs _ (sw_S (k := 6) (v := .eq (.static "java/lang/String" "COMPACT_STRINGS" "Z") (.int 1)) (by decide +kernel)))) hA
  · exact va_Zqof (hv _ (by decide +kernel)) (hv _ (by decide +kernel)) (hs _ (sw_S (k := 7) (v := .isRef (.static "jdk/internal/util/Preconditions" "SIOOBE_FORMATTER" "Ljava/util/function/BiFunction;")) (by decide +kernel))) hA
  · exact vx_Zqof (hv _ (by decide +kernel)) (hv _ (by decide +kernel)) (hs _ (sw_S (k := 4) (v := .isRef (.static "java/lang/Throwable" "UNASSIGNED_STACK" "[Ljava/lang/StackTraceElement;")) (by decide +kernel))) hA
  · exact vx_Zqof (hv _ (by decide +kernel)) (hv _ (by decide +kernel)) (hs _ (sw_S (k := 5) (v := .isRef (.static "java/lang/Throwable" "SUPPRESSED_SENTINEL" "Ljava/util/List;")) (by decide +kernel))) hA
  · exact fun w hw => va_Nw.of (rDC_tab (List.all_eq_true.mp rXw_ok w hw)) (hts w (rXw_in w hw))
  · exact va_Nw.of rfl (hv _ (by decide +kernel))
  · exact va_Nw.of rfl (hv _ (by decide +kernel))
  · exact va_Nc.of (hs _ (sw_S (k := 121) (v := .not (.castable "java/lang/IllegalArgumentException" "java/util/NoSuchElementException")) (by decide +kernel)))
