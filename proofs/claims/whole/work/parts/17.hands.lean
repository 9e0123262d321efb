/-! ===== handlers; what is told by itself ===== -/
theorem rFind_mem {α : Type} : ∀ {l : List (Nat × α)} {n : Nat} {v : α}, rFind l n = some v → (n, v) ∈ l := by
  intro l
  induction l with
  | nil => intro n v h; cases h
  | cons a l ih =>
    intro n v h
    obtain ⟨k, w⟩ := a
    unfold rFind at h
    cases hk : Nat.beq k n with
    | true =>
      rw [hk] at h
      cases h
      rw [Nat.beq_eq.mp hk]
      exact List.mem_cons_self
    | false =>
      rw [hk] at h
      exact List.mem_cons_of_mem _ (ih h)
theorem rXn_ok {ct y : Nat} (h : rFind rXn ct = some y) : (ct = 13 ∧ y = 0) ∨ (ct = 34 ∧ y = 1) := by
  have := rFind_mem h
  simp only [rXn, List.mem_cons, List.not_mem_nil, or_false, Prod.mk.injEq] at this
  exact this
/-- the row that takes x -/
theorem rHnd_ok : ∀ {hh : List (Nat × Nat × Nat × Nat)} {pc x h : Nat}, rHnd hh pc x = some h → ∃ (pre : List (Nat × Nat × Nat × Nat)) (s e ct : Nat) (suf : List (Nat × Nat × Nat × Nat)), hh = pre ++ (s, e, h, ct) :: suf ∧ (s ≤ pc ∧ pc < e) ∧ rFind rXn ct = some x ∧
    ∀ z ∈ pre, ¬ (z.1 ≤ pc ∧ pc < z.2.1) ∨ (z.2.2.2 = 34 ∧ x = 0) := by
  intro hh
  induction hh with
  | nil => intro pc x h hq; cases hq
  | cons a hh ih =>
    intro pc x h hq
    obtain ⟨s, e, hp, ct⟩ := a
    unfold rHnd at hq
    split at hq
    next hc =>
      split at hq
      next y hy =>
        split at hq
        next he =>
          cases hq
          subst he
          exact ⟨[], s, e, ct, hh, rfl, hc, hy, fun z hz => nomatch hz⟩
        next he =>
          split at hq
          next h01 =>
            obtain ⟨pre, s2, e2, ct2, suf, h1, h2, h3, h4⟩ := ih hq
            refine ⟨(s, e, hp, ct) :: pre, s2, e2, ct2, suf, by rw [h1]; rfl, h2, h3, fun z hz => ?_⟩
            rcases List.mem_cons.mp hz with rfl | hz
            · rcases rXn_ok hy with ⟨-, hy0⟩ | ⟨hct, -⟩
              · omega
              · exact Or.inr ⟨hct, h01.1⟩
            · exact h4 z hz
          next => cases hq
      next => cases hq
    next hc =>
      obtain ⟨pre, s2, e2, ct2, suf, h1, h2, h3, h4⟩ := ih hq
      refine ⟨(s, e, hp, ct) :: pre, s2, e2, ct2, suf, by rw [h1]; rfl, h2, h3, fun z hz => ?_⟩
      rcases List.mem_cons.mp hz with rfl | hz
      · exact Or.inl hc
      · exact h4 z hz
set_option maxRecDepth 100000 in
theorem rHw_ok : Jvm.Cond.classLink "FanHouseLaw" 13 "java/lang/IllegalArgumentException" ∈ rWs ∧ Jvm.Cond.classLink "FanHouseLaw" 34 "java/util/NoSuchElementException" ∈ rWs := by decide +kernel
set_option maxRecDepth 100000 in
theorem rHc_ok : rMs.all (fun r => decide (rHh r = [] ∨ r.1.cls = "FanHouseLaw")) = true := by decide +kernel
set_option maxRecDepth 100000 in
theorem rAd_ok : rMs.all (fun r => decide ((r.1 = ⟨"FanHouse", "allow", "(Z)V"⟩ → r.2.1 = cX12_allow) ∧ (r.1 = ⟨"FanHouse", "demand", "(Z)V"⟩ → r.2.1 = cX12_demand))) = true := by decide +kernel
section RowsH
variable {p : Program} {l : Launch} {e : Env} {R : Room} {s : State} {m : MethodId} {args : Array Value} {below : List Frame} {meth : Method} {c : Code} {H : Heap} {locs : List Loc} {cells slots : Nat} {Q : State → Prop}
variable {cc : ByteArray} {D : va_G} {base nL pc : Nat} {ad : Nat → Nat} {ls : Array Slot} {L : rLoc} {st : List Value} {M : rMem}
variable {ad0 : Nat → Nat} {M0 : rMem}

theorem ok_Hdl {r : rRow} {x dk dn : Nat} {res : rRes} {rest : List Value} {E : String} {ce : Cell} {q9 : Addr} {H1 : Heap} {locs1 : List Loc} {ad' : Nat → Nat} {M' : rMem} (hx : p.tables.exec = Jvm.exec) (hb : c.code = r.2.1) (hown : s.vm.findClass r.1.cls = some m.cls) (hret : meth.sig.returnType = r.2.2.2.1) (hlocks : meth.locks = false) (hml : r.2.2.1 = nL)
    (hts : ∀ w ∈ rWs, w.before args s = true) (hxt : c.exceptionTable.toList = tableOf (rHh r)) (hC : rCn base ad s s.heap) (hhc : rHh r = [] ∨ r.1.cls = "FanHouseLaw") (hchk : (rTi r).all (rChk r) = true) (h : rHdl r pc x M' dk dn = some (.inr res)) (hl : lv_has ls nL (rPr ad L))
    (hEx : rEx[x]? = some E) (hE : rEqv M0.1 ad0 ad') (hle : M0.1 ≤ M'.1) (hR : Rp D base M' ad' s H1) (hS : va_S (rA base) s.heap H1 locs1) (hce : H1[q9]? = some ce) (hcv : ce.vm = .none) (hcl : s.vm.findClass E = some ce.cls) :
    vx_W p l e R s m args below meth c H1 locs1 (cells + dk) (slots + dn) (vx_MQ below (rQc D base ad0 M0 res.1 res.2.1) (rXC D base ad0 M0 res.1 res.2.1) args s (cells + res.2.2.1) (slots + res.2.2.2) (rA base)) (F0 m pc ls rest) q9 := by
  unfold rHdl at h
  split at h
  next hh =>
    cases h
    refine vx_out (fun z hz => ?_) hlocks hce hcv hcl (fun t ht hvm => end_X hEx hE hle hR hS ht hvm) hS.2.2 (Nat.le_refl _) (Nat.le_refl _)
    rw [hxt, hh] at hz
    cases hz
  next hh0 =>
    split at h
    next => cases h
    next h9 hh9 =>
      split at h
      next v hv =>
        cases h
        obtain ⟨pre, s1, e1, ct, suf, h1, h2, h3, h4⟩ := rHnd_ok hh9
        have hcn : r.1.cls = "FanHouseLaw" := by
          rcases hhc with h | h
          · exact absurd h hh0
          · exact h
        rw [hcn] at hown
        have hspl : c.exceptionTable.toList = tableOf pre ++ ⟨s1, e1, h9, ct⟩ :: tableOf suf := by
          rw [hxt, h1]
          unfold tableOf
          rw [List.map_append, List.map_cons]
        have hcov : ∀ (a b h c pc : Nat), covers ⟨a, b, h, c⟩ pc = true ↔ (a ≤ pc ∧ pc < b) := by
          intro a b h c pc
          simp [covers]
        -- the handler's own rows
        have hbody : W p l e R s m args below meth c H1 locs1 (cells + dk) (slots + dn) (vx_MQ below (rQc D base ad0 M0 (.inl (some (.int v))) M') (rXC D base ad0 M0 (.inl (some (.int v))) M') args s (cells + dk) (slots + dn) (rA base)) (F0 m h9 ls [.ref q9]) := by
          have hdec : ∀ (n : Nat) (I : Instr) (k : Nat × (Nat × Nat)), rFind (rTi r) n = some (I, k) → decode r.2.1 n = .ok (I, k.1) ∧ ∀ j, rLen I = some j → k.1 = j := by
            intro n I k hf
            obtain ⟨k1, k2, k3⟩ := k
            have := rChk_ok (List.all_eq_true.mp hchk _ (rFind_mem hf))
            exact ⟨this.1, this.2.1⟩
          have hend : ∀ (i h2 : Nat) (ls1 : Array Slot), rCat2 r i h2 = some v → W p l e R s m args below meth c H1 locs1 (cells + dk) (slots + dn) (vx_MQ below (rQc D base ad0 M0 (.inl (some (.int v))) M') (rXC D base ad0 M0 (.inl (some (.int v))) M') args s (cells + dk) (slots + dn) (rA base)) (F0 m h2 ls1 []) ∧ i < nL := by
            intro i h2 ls1 hc2
            unfold rCat2 at hc2
            split at hc2
            next n k1 k2 f1 f2 f3 =>
              split at hc2
              next hi =>
                cases hc2
                obtain ⟨d1, l1⟩ := hdec _ _ _ f1
                obtain ⟨d2, l2⟩ := hdec _ _ _ f2
                have d1' : decode r.2.1 h2 = .ok (.iconst n, 1) := by rw [d1, l1 1 rfl]
                have d2' : decode r.2.1 (h2 + 1) = .ok (.ireturn, 1) := by rw [d2, l2 1 rfl]
                refine ⟨lv_iconst hx hb d1' rfl (vx_ret (W.zret (v := Int32.ofInt n) hx hb (hret.trans f3) rfl (fun t ht hW => ?_) hS.2.2 d2' hlocks)), by rw [← hml]; exact hi⟩
                exact ⟨some (.int (Int32.ofInt n)), ad', rfl, hE, hle, rfl, fun w hw => by cases hw; trivial, by rw [ht]; exact Rp_moved hW.alike hR, hS.F ht⟩
              next => cases hc2
            next => cases hc2
          unfold rCatch at hv
          split at hv
          next i k f0 =>
            obtain ⟨d0, l0⟩ := hdec _ _ _ f0
            have d0' : decode r.2.1 h9 = .ok (.astore_n i, 1) := by rw [d0, l0 1 rfl]
            exact lv_astore_n hx hb d0' rfl hl (hend _ _ ls hv).2 rfl (fun ls1 hl1 => (hend _ _ ls1 hv).1)
          next i k f0 =>
            obtain ⟨d0, l0⟩ := hdec _ _ _ f0
            have d0' : decode r.2.1 h9 = .ok (.astore i, 2) := by rw [d0, l0 2 rfl]
            exact lv_astore hx hb d0' hl (hend _ _ ls hv).2 rfl (fun ls1 hl1 => (hend _ _ ls1 hv).1)
          next => cases hv
        obtain ⟨-, -, -, -, -, c6, c7, c8⟩ := hC.2.2.2
        have hpass : x = 0 → ∀ z ∈ tableOf pre, covers z pc = false ∨ (z.catchType ≠ 0 ∧ ∃ nm : String, (Jvm.Cond.classLink "FanHouseLaw" z.catchType nm).before args s = true ∧ va_Nc "java/lang/IllegalArgumentException" nm s) := by
          intro hx0 z hz
          obtain ⟨z0, hz0, rfl⟩ := List.mem_map.mp hz
          rcases h4 z0 hz0 with h | ⟨h, -⟩
          · left
            cases hcv2 : covers ⟨z0.1, z0.2.1, z0.2.2.1, z0.2.2.2⟩ pc with
            | false => rfl
            | true => exact absurd ((hcov _ _ _ _ _).mp hcv2) h
          · right
            refine ⟨by show z0.2.2.2 ≠ 0; rw [h]; decide, "java/util/NoSuchElementException", ?_, c8⟩
            show (Jvm.Cond.classLink "FanHouseLaw" z0.2.2.2 _).before args s = true
            rw [h]
            exact hts _ rHw_ok.2
        have hpass1 : x ≠ 0 → ∀ z ∈ tableOf pre, covers z pc = false := by
          intro hx0 z hz
          obtain ⟨z0, hz0, rfl⟩ := List.mem_map.mp hz
          rcases h4 z0 hz0 with h | ⟨-, h⟩
          · cases hcv2 : covers ⟨z0.1, z0.2.1, z0.2.2.1, z0.2.2.2⟩ pc with
            | false => rfl
            | true => exact absurd ((hcov _ _ _ _ _).mp hcv2) h
          · exact absurd h hx0
        rcases rXn_ok h3 with ⟨rfl, rfl⟩ | ⟨rfl, rfl⟩
        · have hEn : E = "java/lang/IllegalArgumentException" := (Option.some.inj hEx).symm
          subst hEn
          exact vx_catch (own := "FanHouseLaw") (name := "java/lang/IllegalArgumentException") hown (tableOf pre) ⟨s1, e1, h9, 13⟩ (tableOf suf) hspl (hpass rfl) ((hcov _ _ _ _ _).mpr h2) (by show (13 : Nat) ≠ 0; decide) (hts _ rHw_ok.1) (va_Nw.use rfl c6) hce hcv hcl hbody
        · have hEn : E = "java/util/NoSuchElementException" := (Option.some.inj hEx).symm
          subst hEn
          exact vx_catch (own := "FanHouseLaw") (name := "java/util/NoSuchElementException") hown (tableOf pre) ⟨s1, e1, h9, 34⟩ (tableOf suf) hspl (fun z hz => Or.inl (hpass1 (by decide) z hz)) ((hcov _ _ _ _ _).mpr h2) (by show (34 : Nat) ≠ 0; decide) (hts _ rHw_ok.2) (va_Nw.use rfl c7) hce hcv hcl hbody
      next => cases h
end RowsH
