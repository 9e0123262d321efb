/-! ===== the law, from its entry ===== -/
def R_law : String := "FanHouseLaw"
section LW
variable {p : Program} {l : Launch} {e : Env} {s : State} {m : MethodId} {below : List Frame} {meth : Method} {c : Code}
theorem lw_sh {D : va_G} {ad0 : Nat → Nat} {b : Nat} {Q : State → Prop} {pc : Nat} {L : rLoc} {st : List Value} {M : rMem} {K N : Nat} (h1 : M.1 = 391) (hc : ∀ i, i < 291 → chC (rShp (100 + i)) (M.2 (100 + i)) = true) (k : lwG p l e s m below meth c D ad0 b Q pc L st (mk (mOf (nM M)) (qOf (nM M)) none) K N) : lwG p l e s m below meth c D ad0 b Q pc L st M K N := by
  intro ad ls H locs cells slots F hE hle hcc hs
  have hd : ∀ x c, M.2 x = some c → 100 ≤ x ∧ x < M.1 := fun x c h => ⟨(F.2.2.1.2.2.1 x c h).1, (F.2.2.1.2.2.1 x c h).2.1⟩
  rw [← mem_mk h1 hd hc] at k
  exact k ad ls H locs cells slots ⟨F.1, F.2.1, nM_Rp F.2.2.1, F.2.2.2⟩ hE hle hcc hs
theorem sw_K {b : Nat} (hts : ∀ w ∈ lw_tbl, w.before #[Value.ref b] s = true) : ∃ D : va_G, va_K D rCl [] s := by
  have hex : ∀ k : Nat, ∃ (cC : ClassId) (iS : Nat → Nat), ∀ q : vw_C, rCl[k]? = some q → u_Kn s q.1 q.2.1 q.2.2 cC iS := by
    intro k
    cases h : rCl[k]? with
    | none => exact ⟨0, fun _ => 0, fun q hq => by cases hq⟩
    | some q =>
      obtain ⟨cC, iS, hk⟩ := u_known (C := q.1) (T := q.2.1) (N := q.2.2) (n := q.2.2) hts (fun w hw => (List.mem_filter.mp ((cl_ok h).1 w hw)).1) (hts _ (swC_ok q (List.mem_of_getElem? h)))
      exact ⟨cC, iS, fun q2 hq => by cases hq; exact hk⟩
  exact ⟨(fun k => Classical.choose (hex k), fun k => Classical.choose (Classical.choose_spec (hex k))), fun k q hq => Classical.choose_spec (Classical.choose_spec (hex k)) q hq, fun k q h => by simp at h⟩
set_option maxHeartbeats 4000000 in
theorem lw_start {b n : Nat} {xs : Nat → Int32} (hl9 : l.stackTraces = false) (hn : n ≤ 4096) (hx : p.tables.exec = Jvm.exec) (hb : c.code = code) (hr : meth.sig.returnType = ret) (hml : c.maxLocals = 7) (hown : s.vm.findClass R_law = some m.cls) (hts : ∀ w ∈ lw_tbl, w.before #[Value.ref b] s = true) (hX : va_X b n xs s s.heap) (hbl : b < s.heap.size) (hlocks : meth.locks = false) (hgv : (Jvm.Cond.and given_1 narrow_1).before #[Value.ref b] s = true) (hmn : meth.name = "law") (hxt : c.exceptionTable.toList = []) :
    W p l e room_1 s m #[Value.ref b] below meth c s.heap [] 0 0 (lw_Z below #[Value.ref b] s) (entryFrame m ([Value.ref b] : List Value).toArray 7) := by
  obtain ⟨ad0, h99, hC⟩ := sw_rCn hts hgv
  obtain ⟨D, hK⟩ := sw_K hts
  have hcl := lw_cl (p := p) (e := e) (below := below) (D := D) (ad0 := ad0) (Q := lw_Z below #[Value.ref b] s) hl9 hx hb hml hown hmn hr hlocks hts hxt hC hX hbl (by omega) h99
  have hxs : ∀ j, i32 ((fun j => (xs j).toInt) j) := fun j => by
    have h1 := Int32.le_toInt (xs j)
    have h2 := Int32.toInt_lt (xs j)
    show -2147483648 ≤ (xs j).toInt ∧ (xs j).toInt < 2147483648
    omega
  obtain ⟨k2, c2, e2, h2, -, -⟩ := okR_ok r2_ok
  have hsh : ∀ i, i < 291 → chC (rShp (100 + i)) ((aft r2).2 (100 + i)) = true := fun i hi => List.all_eq_true.mp r2_sh i (List.mem_range.mpr hi)
  have key := c_start hcl (fun pc L st K N k => lw_sh h2 hsh k) (c_loop hcl (by decide) hn hxs (fun m' q' w' j v5 v6 => lw_end hx hb hr hlocks hcl) 512 0 none none m0 q0 (fun _ => 0) (by decide) (by decide) (by omega) RR0)
  rw [lg_entry_eq]
  refine W_room room_ok ?_
  have hF := ini_ok (ad := ad0) (As := [.ref 99]) (mx := 7) (n := 100) (fun v hv => by
    obtain rfl := List.mem_singleton.mp hv
    rfl) (fun v hv => by
    obtain rfl := List.mem_singleton.mp hv
    show 99 < 100
    decide) (by decide)
  have e1 : ([.ref 99] : List Value).map (rv ad0) = [.ref b] := by
    show [Value.ref (ad0 99)] = [.ref b]
    rw [h99]
  rw [e1] at hF
  refine key ad0 _ s.heap [] 0 0 ⟨hF, (fun v hv => nomatch hv), ?_, va_S.rf⟩ (fun _ _ => rfl) (Nat.le_refl _) (by decide) (by decide)
  exact ⟨Nat.le_refl _, Nat.le_refl _, (fun id c h => nomatch h), (fun i j h => absurd rfl h), [], [], (fun k q h => by simp at h), ⟨fun i j p q h => by simp at h, fun k q h => by simp at h⟩, hK, (fun id c h => nomatch h)⟩
end LW
