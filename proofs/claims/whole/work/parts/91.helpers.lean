/-! ===== the law's helpers: what may throw, told by a number ===== -/
/-- a call of both through the law's helper jh -/
def cLW (jh jr : Nat) (As : List Value) (f : Int → Int64) : Prop := ∀ (m : Nat → Nat → Int) (q : Nat → Nat → Option Nat) (w : Nat → Int64), RR m q → ∀ d : Nat, 201 ≤ d →
  ∃ (k : Nat) (v : Int) (m1 : Nat → Nat → Int) (q1 : Nat → Nat → Option Nat) (w1 : Nat → Int64) (m2 : Nat → Nat → Int) (dk dn : Nat), k ≤ 2 ∧ dk ≤ 1 ∧ dn ≤ 6 ∧ ev d jh (.ref 100 :: (As ++ [.ref 391])) (mk m q (some w)) = some (.inl (some (.int (iI (k : Nat)))), (mk m1 q1 (some w1), (dk, dn))) ∧
    ev d jr (.ref 363 :: As) (mk m1 q1 (some w1)) = vI v (mk m2 q1 (some w1)) ∧ m2 363 0 = (k : Nat) ∧ RR m2 q1 ∧ (k = 0 → w1 0 = f v)
def fL (v : Int) : Int64 := (iI v).toInt64
def fZ (v : Int) : Int64 := if iI v = iI 0 then Int64.ofNat 0 else Int64.ofNat 1
theorem cLW_th {jc jr jh c : Nat} {As : List Value} {f : Int → Int64} (hc : c = 1 ∨ c = 2) (hj : jr < 274) (hK : cTH jc jr As c) (hv : ∀ (d : Nat) (m : Nat → Nat → Int) (q : Nat → Nat → Option Nat) (w : Nat → Int64) (v : Int) (m1 : Nat → Nat → Int) (q1 : Nat → Nat → Option Nat), ev d jc (.ref 100 :: As) (mk m q (some w)) = vI v (mk m1 q1 (some w)) → ev (d + 1) jh (.ref 100 :: (As ++ [.ref 391])) (mk m q (some w)) = vI 0 (mk m1 q1 (some (vp_updL w 0 (f v)))))
    (hx : ∀ (d : Nat) (m : Nat → Nat → Int) (q : Nat → Nat → Option Nat) (w : Nat → Int64) (e : Nat) (M' : rMem), (e = 0 ∨ (e = 1 ∧ c = 2)) → ev d jc (.ref 100 :: As) (mk m q (some w)) = some (.inr e, (M', (1, 6))) → ev (d + 1) jh (.ref 100 :: (As ++ [.ref 391])) (mk m q (some w)) = some (.inl (some (.int (iI ((if e = 0 then c else 1 : Nat) : Nat)))), (M', (1, 6)))) : cLW jh jr As f := by
  intro m q w hR d hd
  obtain ⟨d, rfl⟩ : ∃ e, d = e + 1 := ⟨d - 1, by omega⟩
  rcases hK m q (some w) hR d (by omega) with ⟨v, m1, q1, m2, h1, h2, h3, h4⟩ | ⟨e, v, m1, m2, he, h1, h2, h3, h4⟩
  · exact ⟨0, v, m1, q1, _, m2, 0, 0, by omega, by omega, by omega, hv d m q w v m1 q1 h1, ev_up (Nat.le_succ _) (tW_vI hj h2), h3, h4, fun _ => by unfold vp_updL; exact if_pos rfl⟩
  · exact ⟨if e = 0 then c else 1, v, m1, q, w, m2, 1, 6, by split <;> omega, by omega, by omega, hx d m q w e _ he h1, ev_up (Nat.le_succ _) h2, h3, h4, fun h => by split at h <;> omega⟩
theorem cLW_tn {jc jr jh : Nat} {As : List Value} {f : Int → Int64} (hj : jr < 274) (hK : cTN jc jr As) (hv : ∀ (d : Nat) (m : Nat → Nat → Int) (q : Nat → Nat → Option Nat) (w : Nat → Int64) (v : Int) (m1 : Nat → Nat → Int) (q1 : Nat → Nat → Option Nat), ev d jc (.ref 100 :: As) (mk m q (some w)) = vI v (mk m1 q1 (some w)) → ev (d + 1) jh (.ref 100 :: (As ++ [.ref 391])) (mk m q (some w)) = vI 0 (mk m1 q1 (some (vp_updL w 0 (f v)))))
    (hx : ∀ (d : Nat) (m : Nat → Nat → Int) (q : Nat → Nat → Option Nat) (w : Nat → Int64) (M' : rMem), ev d jc (.ref 100 :: As) (mk m q (some w)) = some (.inr 1, (M', (1, 6))) → ev (d + 1) jh (.ref 100 :: (As ++ [.ref 391])) (mk m q (some w)) = some (.inl (some (.int (iI ((1 : Nat) : Nat)))), (M', (1, 6)))) : cLW jh jr As f := by
  intro m q w hR d hd
  obtain ⟨d, rfl⟩ : ∃ e, d = e + 1 := ⟨d - 1, by omega⟩
  rcases hK m q (some w) hR d (by omega) with ⟨v, m1, q1, m2, h1, h2, h3, h4⟩ | ⟨v, m1, m2, h1, h2, h3, h4⟩
  · exact ⟨0, v, m1, q1, _, m2, 0, 0, by omega, by omega, by omega, hv d m q w v m1 q1 h1, ev_up (Nat.le_succ _) (tW_vI hj h2), h3, h4, fun _ => by unfold vp_updL; exact if_pos rfl⟩
  · exact ⟨1, v, m1, q, w, m2, 1, 6, by omega, by omega, by omega, hx d m q w _ h1, ev_up (Nat.le_succ _) h2, h3, h4, fun h => by omega⟩
theorem h_274v (d : Nat) (m : Nat → Nat → Int) (q : Nat → Nat → Option Nat) (w : Nat → Int64) {a0 : Int} (v : Int) (m1 : Nat → Nat → Int) (q1 : Nat → Nat → Option Nat) (he : ev d 117 [.ref 100, .int (iI a0)] (mk m q (some w)) = vI v (mk m1 q1 (some w))) : ev (d + 1) 274 [.ref 100, .int (iI a0), .ref 391] (mk m q (some w)) = vI 0 (mk m1 q1 (some (vp_updL w 0 (fL v)))) := by
  refine Eq.trans (ev_at (by omega) q_274 rfl rfl rfl) ?_
  show gv d rR274 0 [some (.ref 100), some (.int (iI a0)), some (.ref 391), none] [] _ = _
  refine Eq.trans (k_ald2 rfl) ?_
  refine Eq.trans (k_con rfl) ?_
  refine Eq.trans (k_ald0 rfl) ?_
  refine Eq.trans (k_ild1 rfl) ?_
  refine Eq.trans (k_ivr rfl q_117 (rArg_v (As := [.int (iI a0)]) (rest := [.int (iI 0), .ref 391]) rfl rfl (by decide) s_100 rfl) he) ?_
  refine Eq.trans (k_i2l rfl) ?_
  refine Eq.trans (k_last rfl) ?_
  refine Eq.trans (k_go rfl rfl) ?_
  refine Eq.trans (k_con rfl) ?_
  exact k_rtI rfl rfl
theorem h_274x0 (d : Nat) (m : Nat → Nat → Int) (q : Nat → Nat → Option Nat) (w : Nat → Int64) {a0 : Int} (M' : rMem) (he : ev d 117 [.ref 100, .int (iI a0)] (mk m q (some w)) = some (.inr 0, (M', (1, 6)))) : ev (d + 1) 274 [.ref 100, .int (iI a0), .ref 391] (mk m q (some w)) = some (.inl (some (.int (iI ((1 : Nat) : Nat)))), (M', (1, 6))) := by
  refine Eq.trans (ev_at (by omega) q_274 rfl rfl rfl) ?_
  show gv d rR274 0 [some (.ref 100), some (.int (iI a0)), some (.ref 391), none] [] _ = _
  refine Eq.trans (k_ald2 rfl) ?_
  refine Eq.trans (k_con rfl) ?_
  refine Eq.trans (k_ald0 rfl) ?_
  refine Eq.trans (k_ild1 rfl) ?_
  exact k_ivx rfl q_117 (rArg_v (As := [.int (iI a0)]) (rest := [.int (iI 0), .ref 391]) rfl rfl (by decide) s_100 rfl) he rfl rfl rfl
theorem P_274 {a0 : Int} (ha0 : i32 a0) : cLW 274 183 [.int (iI a0)] fL := by
  refine cLW_th (c := 1) (by decide) (by decide) (K_fan ha0) (fun d m q w v m1 q1 he => h_274v d m q w v m1 q1 he) (fun d m q w e M' hh he => ?_)
  obtain rfl : e = 0 := by omega
  exact h_274x0 d m q w M' he
theorem h_275v (d : Nat) (m : Nat → Nat → Int) (q : Nat → Nat → Option Nat) (w : Nat → Int64) {a0 : Int} (v : Int) (m1 : Nat → Nat → Int) (q1 : Nat → Nat → Option Nat) (he : ev d 118 [.ref 100, .int (iI a0)] (mk m q (some w)) = vI v (mk m1 q1 (some w))) : ev (d + 1) 275 [.ref 100, .int (iI a0), .ref 391] (mk m q (some w)) = vI 0 (mk m1 q1 (some (vp_updL w 0 (fL v)))) := by
  refine Eq.trans (ev_at (by omega) q_275 rfl rfl rfl) ?_
  show gv d rR275 0 [some (.ref 100), some (.int (iI a0)), some (.ref 391), none] [] _ = _
  refine Eq.trans (k_ald2 rfl) ?_
  refine Eq.trans (k_con rfl) ?_
  refine Eq.trans (k_ald0 rfl) ?_
  refine Eq.trans (k_ild1 rfl) ?_
  refine Eq.trans (k_ivr rfl q_118 (rArg_v (As := [.int (iI a0)]) (rest := [.int (iI 0), .ref 391]) rfl rfl (by decide) s_100 rfl) he) ?_
  refine Eq.trans (k_i2l rfl) ?_
  refine Eq.trans (k_last rfl) ?_
  refine Eq.trans (k_go rfl rfl) ?_
  refine Eq.trans (k_con rfl) ?_
  exact k_rtI rfl rfl
theorem h_275x0 (d : Nat) (m : Nat → Nat → Int) (q : Nat → Nat → Option Nat) (w : Nat → Int64) {a0 : Int} (M' : rMem) (he : ev d 118 [.ref 100, .int (iI a0)] (mk m q (some w)) = some (.inr 0, (M', (1, 6)))) : ev (d + 1) 275 [.ref 100, .int (iI a0), .ref 391] (mk m q (some w)) = some (.inl (some (.int (iI ((1 : Nat) : Nat)))), (M', (1, 6))) := by
  refine Eq.trans (ev_at (by omega) q_275 rfl rfl rfl) ?_
  show gv d rR275 0 [some (.ref 100), some (.int (iI a0)), some (.ref 391), none] [] _ = _
  refine Eq.trans (k_ald2 rfl) ?_
  refine Eq.trans (k_con rfl) ?_
  refine Eq.trans (k_ald0 rfl) ?_
  refine Eq.trans (k_ild1 rfl) ?_
  exact k_ivx rfl q_118 (rArg_v (As := [.int (iI a0)]) (rest := [.int (iI 0), .ref 391]) rfl rfl (by decide) s_100 rfl) he rfl rfl rfl
theorem P_275 {a0 : Int} (ha0 : i32 a0) : cLW 275 191 [.int (iI a0)] fL := by
  refine cLW_th (c := 1) (by decide) (by decide) (K_law ha0) (fun d m q w v m1 q1 he => h_275v d m q w v m1 q1 he) (fun d m q w e M' hh he => ?_)
  obtain rfl : e = 0 := by omega
  exact h_275x0 d m q w M' he
theorem h_276v (d : Nat) (m : Nat → Nat → Int) (q : Nat → Nat → Option Nat) (w : Nat → Int64) {a0 : Int} (v : Int) (m1 : Nat → Nat → Int) (q1 : Nat → Nat → Option Nat) (he : ev d 119 [.ref 100, .int (iI a0)] (mk m q (some w)) = vI v (mk m1 q1 (some w))) : ev (d + 1) 276 [.ref 100, .int (iI a0), .ref 391] (mk m q (some w)) = vI 0 (mk m1 q1 (some (vp_updL w 0 (fL v)))) := by
  refine Eq.trans (ev_at (by omega) q_276 rfl rfl rfl) ?_
  show gv d rR276 0 [some (.ref 100), some (.int (iI a0)), some (.ref 391), none] [] _ = _
  refine Eq.trans (k_ald2 rfl) ?_
  refine Eq.trans (k_con rfl) ?_
  refine Eq.trans (k_ald0 rfl) ?_
  refine Eq.trans (k_ild1 rfl) ?_
  refine Eq.trans (k_ivr rfl q_119 (rArg_v (As := [.int (iI a0)]) (rest := [.int (iI 0), .ref 391]) rfl rfl (by decide) s_100 rfl) he) ?_
  refine Eq.trans (k_i2l rfl) ?_
  refine Eq.trans (k_last rfl) ?_
  refine Eq.trans (k_go rfl rfl) ?_
  refine Eq.trans (k_con rfl) ?_
  exact k_rtI rfl rfl
theorem h_276x0 (d : Nat) (m : Nat → Nat → Int) (q : Nat → Nat → Option Nat) (w : Nat → Int64) {a0 : Int} (M' : rMem) (he : ev d 119 [.ref 100, .int (iI a0)] (mk m q (some w)) = some (.inr 0, (M', (1, 6)))) : ev (d + 1) 276 [.ref 100, .int (iI a0), .ref 391] (mk m q (some w)) = some (.inl (some (.int (iI ((1 : Nat) : Nat)))), (M', (1, 6))) := by
  refine Eq.trans (ev_at (by omega) q_276 rfl rfl rfl) ?_
  show gv d rR276 0 [some (.ref 100), some (.int (iI a0)), some (.ref 391), none] [] _ = _
  refine Eq.trans (k_ald2 rfl) ?_
  refine Eq.trans (k_con rfl) ?_
  refine Eq.trans (k_ald0 rfl) ?_
  refine Eq.trans (k_ild1 rfl) ?_
  exact k_ivx rfl q_119 (rArg_v (As := [.int (iI a0)]) (rest := [.int (iI 0), .ref 391]) rfl rfl (by decide) s_100 rfl) he rfl rfl rfl
theorem P_276 {a0 : Int} (ha0 : i32 a0) : cLW 276 215 [.int (iI a0)] fL := by
  refine cLW_th (c := 1) (by decide) (by decide) (K_work ha0) (fun d m q w v m1 q1 he => h_276v d m q w v m1 q1 he) (fun d m q w e M' hh he => ?_)
  obtain rfl : e = 0 := by omega
  exact h_276x0 d m q w M' he
theorem h_277v (d : Nat) (m : Nat → Nat → Int) (q : Nat → Nat → Option Nat) (w : Nat → Int64) {a0 a1 : Int} (v : Int) (m1 : Nat → Nat → Int) (q1 : Nat → Nat → Option Nat) (he : ev d 120 [.ref 100, .int (iI a0), .int (iI a1)] (mk m q (some w)) = vI v (mk m1 q1 (some w))) : ev (d + 1) 277 [.ref 100, .int (iI a0), .int (iI a1), .ref 391] (mk m q (some w)) = vI 0 (mk m1 q1 (some (vp_updL w 0 (fL v)))) := by
  refine Eq.trans (ev_at (by omega) q_277 rfl rfl rfl) ?_
  show gv d rR277 0 [some (.ref 100), some (.int (iI a0)), some (.int (iI a1)), some (.ref 391), none] [] _ = _
  refine Eq.trans (k_ald3 rfl) ?_
  refine Eq.trans (k_con rfl) ?_
  refine Eq.trans (k_ald0 rfl) ?_
  refine Eq.trans (k_ild1 rfl) ?_
  refine Eq.trans (k_ild2 rfl) ?_
  refine Eq.trans (k_ivr rfl q_120 (rArg_v (As := [.int (iI a0), .int (iI a1)]) (rest := [.int (iI 0), .ref 391]) rfl rfl (by decide) s_100 rfl) he) ?_
  refine Eq.trans (k_i2l rfl) ?_
  refine Eq.trans (k_last rfl) ?_
  refine Eq.trans (k_go rfl rfl) ?_
  refine Eq.trans (k_con rfl) ?_
  exact k_rtI rfl rfl
theorem h_277x0 (d : Nat) (m : Nat → Nat → Int) (q : Nat → Nat → Option Nat) (w : Nat → Int64) {a0 a1 : Int} (M' : rMem) (he : ev d 120 [.ref 100, .int (iI a0), .int (iI a1)] (mk m q (some w)) = some (.inr 0, (M', (1, 6)))) : ev (d + 1) 277 [.ref 100, .int (iI a0), .int (iI a1), .ref 391] (mk m q (some w)) = some (.inl (some (.int (iI ((1 : Nat) : Nat)))), (M', (1, 6))) := by
  refine Eq.trans (ev_at (by omega) q_277 rfl rfl rfl) ?_
  show gv d rR277 0 [some (.ref 100), some (.int (iI a0)), some (.int (iI a1)), some (.ref 391), none] [] _ = _
  refine Eq.trans (k_ald3 rfl) ?_
  refine Eq.trans (k_con rfl) ?_
  refine Eq.trans (k_ald0 rfl) ?_
  refine Eq.trans (k_ild1 rfl) ?_
  refine Eq.trans (k_ild2 rfl) ?_
  exact k_ivx rfl q_120 (rArg_v (As := [.int (iI a0), .int (iI a1)]) (rest := [.int (iI 0), .ref 391]) rfl rfl (by decide) s_100 rfl) he rfl rfl rfl
theorem P_277 {a0 a1 : Int} (ha0 : i32 a0) (ha1 : i32 a1) : cLW 277 218 [.int (iI a0), .int (iI a1)] fL := by
  refine cLW_th (c := 1) (by decide) (by decide) (K_picture ha0 ha1) (fun d m q w v m1 q1 he => h_277v d m q w v m1 q1 he) (fun d m q w e M' hh he => ?_)
  obtain rfl : e = 0 := by omega
  exact h_277x0 d m q w M' he
theorem h_278v (d : Nat) (m : Nat → Nat → Int) (q : Nat → Nat → Option Nat) (w : Nat → Int64) {a0 : Int} (v : Int) (m1 : Nat → Nat → Int) (q1 : Nat → Nat → Option Nat) (he : ev d 121 [.ref 100, .int (iI a0)] (mk m q (some w)) = vI v (mk m1 q1 (some w))) : ev (d + 1) 278 [.ref 100, .int (iI a0), .ref 391] (mk m q (some w)) = vI 0 (mk m1 q1 (some (vp_updL w 0 (fL v)))) := by
  refine Eq.trans (ev_at (by omega) q_278 rfl rfl rfl) ?_
  show gv d rR278 0 [some (.ref 100), some (.int (iI a0)), some (.ref 391), none] [] _ = _
  refine Eq.trans (k_ald2 rfl) ?_
  refine Eq.trans (k_con rfl) ?_
  refine Eq.trans (k_ald0 rfl) ?_
  refine Eq.trans (k_ild1 rfl) ?_
  refine Eq.trans (k_ivr rfl q_121 (rArg_v (As := [.int (iI a0)]) (rest := [.int (iI 0), .ref 391]) rfl rfl (by decide) s_100 rfl) he) ?_
  refine Eq.trans (k_i2l rfl) ?_
  refine Eq.trans (k_last rfl) ?_
  refine Eq.trans (k_go rfl rfl) ?_
  refine Eq.trans (k_con rfl) ?_
  exact k_rtI rfl rfl
theorem h_278x0 (d : Nat) (m : Nat → Nat → Int) (q : Nat → Nat → Option Nat) (w : Nat → Int64) {a0 : Int} (M' : rMem) (he : ev d 121 [.ref 100, .int (iI a0)] (mk m q (some w)) = some (.inr 0, (M', (1, 6)))) : ev (d + 1) 278 [.ref 100, .int (iI a0), .ref 391] (mk m q (some w)) = some (.inl (some (.int (iI ((1 : Nat) : Nat)))), (M', (1, 6))) := by
  refine Eq.trans (ev_at (by omega) q_278 rfl rfl rfl) ?_
  show gv d rR278 0 [some (.ref 100), some (.int (iI a0)), some (.ref 391), none] [] _ = _
  refine Eq.trans (k_ald2 rfl) ?_
  refine Eq.trans (k_con rfl) ?_
  refine Eq.trans (k_ald0 rfl) ?_
  refine Eq.trans (k_ild1 rfl) ?_
  exact k_ivx rfl q_121 (rArg_v (As := [.int (iI a0)]) (rest := [.int (iI 0), .ref 391]) rfl rfl (by decide) s_100 rfl) he rfl rfl rfl
theorem P_278 {a0 : Int} (ha0 : i32 a0) : cLW 278 219 [.int (iI a0)] fL := by
  refine cLW_th (c := 1) (by decide) (by decide) (K_book ha0) (fun d m q w v m1 q1 he => h_278v d m q w v m1 q1 he) (fun d m q w e M' hh he => ?_)
  obtain rfl : e = 0 := by omega
  exact h_278x0 d m q w M' he
theorem h_279v (d : Nat) (m : Nat → Nat → Int) (q : Nat → Nat → Option Nat) (w : Nat → Int64) {a0 : Int} (v : Int) (m1 : Nat → Nat → Int) (q1 : Nat → Nat → Option Nat) (he : ev d 124 [.ref 100, .int (iI a0)] (mk m q (some w)) = vI v (mk m1 q1 (some w))) : ev (d + 1) 279 [.ref 100, .int (iI a0), .ref 391] (mk m q (some w)) = vI 0 (mk m1 q1 (some (vp_updL w 0 (fL v)))) := by
  refine Eq.trans (ev_at (by omega) q_279 rfl rfl rfl) ?_
  show gv d rR279 0 [some (.ref 100), some (.int (iI a0)), some (.ref 391), none] [] _ = _
  refine Eq.trans (k_ald2 rfl) ?_
  refine Eq.trans (k_con rfl) ?_
  refine Eq.trans (k_ald0 rfl) ?_
  refine Eq.trans (k_ild1 rfl) ?_
  refine Eq.trans (k_ivr rfl q_124 (rArg_v (As := [.int (iI a0)]) (rest := [.int (iI 0), .ref 391]) rfl rfl (by decide) s_100 rfl) he) ?_
  refine Eq.trans (k_i2l rfl) ?_
  refine Eq.trans (k_last rfl) ?_
  refine Eq.trans (k_go rfl rfl) ?_
  refine Eq.trans (k_con rfl) ?_
  exact k_rtI rfl rfl
theorem h_279x0 (d : Nat) (m : Nat → Nat → Int) (q : Nat → Nat → Option Nat) (w : Nat → Int64) {a0 : Int} (M' : rMem) (he : ev d 124 [.ref 100, .int (iI a0)] (mk m q (some w)) = some (.inr 0, (M', (1, 6)))) : ev (d + 1) 279 [.ref 100, .int (iI a0), .ref 391] (mk m q (some w)) = some (.inl (some (.int (iI ((1 : Nat) : Nat)))), (M', (1, 6))) := by
  refine Eq.trans (ev_at (by omega) q_279 rfl rfl rfl) ?_
  show gv d rR279 0 [some (.ref 100), some (.int (iI a0)), some (.ref 391), none] [] _ = _
  refine Eq.trans (k_ald2 rfl) ?_
  refine Eq.trans (k_con rfl) ?_
  refine Eq.trans (k_ald0 rfl) ?_
  refine Eq.trans (k_ild1 rfl) ?_
  exact k_ivx rfl q_124 (rArg_v (As := [.int (iI a0)]) (rest := [.int (iI 0), .ref 391]) rfl rfl (by decide) s_100 rfl) he rfl rfl rfl
theorem P_279 {a0 : Int} (ha0 : i32 a0) : cLW 279 222 [.int (iI a0)] fL := by
  refine cLW_th (c := 1) (by decide) (by decide) (K_told ha0) (fun d m q w v m1 q1 he => h_279v d m q w v m1 q1 he) (fun d m q w e M' hh he => ?_)
  obtain rfl : e = 0 := by omega
  exact h_279x0 d m q w M' he
theorem h_280v (d : Nat) (m : Nat → Nat → Int) (q : Nat → Nat → Option Nat) (w : Nat → Int64) {a0 a1 : Int} (v : Int) (m1 : Nat → Nat → Int) (q1 : Nat → Nat → Option Nat) (he : ev d 126 [.ref 100, .int (iI a0), .int (iI a1)] (mk m q (some w)) = vI v (mk m1 q1 (some w))) : ev (d + 1) 280 [.ref 100, .int (iI a0), .int (iI a1), .ref 391] (mk m q (some w)) = vI 0 (mk m1 q1 (some (vp_updL w 0 (fL v)))) := by
  refine Eq.trans (ev_at (by omega) q_280 rfl rfl rfl) ?_
  show gv d rR280 0 [some (.ref 100), some (.int (iI a0)), some (.int (iI a1)), some (.ref 391), none] [] _ = _
  refine Eq.trans (k_ald3 rfl) ?_
  refine Eq.trans (k_con rfl) ?_
  refine Eq.trans (k_ald0 rfl) ?_
  refine Eq.trans (k_ild1 rfl) ?_
  refine Eq.trans (k_ild2 rfl) ?_
  refine Eq.trans (k_ivr rfl q_126 (rArg_v (As := [.int (iI a0), .int (iI a1)]) (rest := [.int (iI 0), .ref 391]) rfl rfl (by decide) s_100 rfl) he) ?_
  refine Eq.trans (k_i2l rfl) ?_
  refine Eq.trans (k_last rfl) ?_
  refine Eq.trans (k_go rfl rfl) ?_
  refine Eq.trans (k_con rfl) ?_
  exact k_rtI rfl rfl
theorem h_280x0 (d : Nat) (m : Nat → Nat → Int) (q : Nat → Nat → Option Nat) (w : Nat → Int64) {a0 a1 : Int} (M' : rMem) (he : ev d 126 [.ref 100, .int (iI a0), .int (iI a1)] (mk m q (some w)) = some (.inr 0, (M', (1, 6)))) : ev (d + 1) 280 [.ref 100, .int (iI a0), .int (iI a1), .ref 391] (mk m q (some w)) = some (.inl (some (.int (iI ((2 : Nat) : Nat)))), (M', (1, 6))) := by
  refine Eq.trans (ev_at (by omega) q_280 rfl rfl rfl) ?_
  show gv d rR280 0 [some (.ref 100), some (.int (iI a0)), some (.int (iI a1)), some (.ref 391), none] [] _ = _
  refine Eq.trans (k_ald3 rfl) ?_
  refine Eq.trans (k_con rfl) ?_
  refine Eq.trans (k_ald0 rfl) ?_
  refine Eq.trans (k_ild1 rfl) ?_
  refine Eq.trans (k_ild2 rfl) ?_
  exact k_ivx rfl q_126 (rArg_v (As := [.int (iI a0), .int (iI a1)]) (rest := [.int (iI 0), .ref 391]) rfl rfl (by decide) s_100 rfl) he rfl rfl rfl
theorem h_280x1 (d : Nat) (m : Nat → Nat → Int) (q : Nat → Nat → Option Nat) (w : Nat → Int64) {a0 a1 : Int} (M' : rMem) (he : ev d 126 [.ref 100, .int (iI a0), .int (iI a1)] (mk m q (some w)) = some (.inr 1, (M', (1, 6)))) : ev (d + 1) 280 [.ref 100, .int (iI a0), .int (iI a1), .ref 391] (mk m q (some w)) = some (.inl (some (.int (iI ((1 : Nat) : Nat)))), (M', (1, 6))) := by
  refine Eq.trans (ev_at (by omega) q_280 rfl rfl rfl) ?_
  show gv d rR280 0 [some (.ref 100), some (.int (iI a0)), some (.int (iI a1)), some (.ref 391), none] [] _ = _
  refine Eq.trans (k_ald3 rfl) ?_
  refine Eq.trans (k_con rfl) ?_
  refine Eq.trans (k_ald0 rfl) ?_
  refine Eq.trans (k_ild1 rfl) ?_
  refine Eq.trans (k_ild2 rfl) ?_
  exact k_ivx rfl q_126 (rArg_v (As := [.int (iI a0), .int (iI a1)]) (rest := [.int (iI 0), .ref 391]) rfl rfl (by decide) s_100 rfl) he rfl rfl rfl
theorem P_280 {a0 a1 : Int} (ha0 : i32 a0) (ha1 : i32 a1) : cLW 280 226 [.int (iI a0), .int (iI a1)] fL := by
  refine cLW_th (c := 2) (by decide) (by decide) (K_stick ha0 ha1) (fun d m q w v m1 q1 he => h_280v d m q w v m1 q1 he) (fun d m q w e M' hh he => ?_)
  rcases hh with rfl | ⟨rfl, -⟩
  · exact h_280x0 d m q w M' he
  · exact h_280x1 d m q w M' he
theorem h_281v (d : Nat) (m : Nat → Nat → Int) (q : Nat → Nat → Option Nat) (w : Nat → Int64) {a0 : Int} (v : Int) (m1 : Nat → Nat → Int) (q1 : Nat → Nat → Option Nat) (he : ev d 127 [.ref 100, .int (iI a0)] (mk m q (some w)) = vI v (mk m1 q1 (some w))) : ev (d + 1) 281 [.ref 100, .int (iI a0), .ref 391] (mk m q (some w)) = vI 0 (mk m1 q1 (some (vp_updL w 0 (fL v)))) := by
  refine Eq.trans (ev_at (by omega) q_281 rfl rfl rfl) ?_
  show gv d rR281 0 [some (.ref 100), some (.int (iI a0)), some (.ref 391), none] [] _ = _
  refine Eq.trans (k_ald2 rfl) ?_
  refine Eq.trans (k_con rfl) ?_
  refine Eq.trans (k_ald0 rfl) ?_
  refine Eq.trans (k_ild1 rfl) ?_
  refine Eq.trans (k_ivr rfl q_127 (rArg_v (As := [.int (iI a0)]) (rest := [.int (iI 0), .ref 391]) rfl rfl (by decide) s_100 rfl) he) ?_
  refine Eq.trans (k_i2l rfl) ?_
  refine Eq.trans (k_last rfl) ?_
  refine Eq.trans (k_go rfl rfl) ?_
  refine Eq.trans (k_con rfl) ?_
  exact k_rtI rfl rfl
theorem h_281x1 (d : Nat) (m : Nat → Nat → Int) (q : Nat → Nat → Option Nat) (w : Nat → Int64) {a0 : Int} (M' : rMem) (he : ev d 127 [.ref 100, .int (iI a0)] (mk m q (some w)) = some (.inr 1, (M', (1, 6)))) : ev (d + 1) 281 [.ref 100, .int (iI a0), .ref 391] (mk m q (some w)) = some (.inl (some (.int (iI ((1 : Nat) : Nat)))), (M', (1, 6))) := by
  refine Eq.trans (ev_at (by omega) q_281 rfl rfl rfl) ?_
  show gv d rR281 0 [some (.ref 100), some (.int (iI a0)), some (.ref 391), none] [] _ = _
  refine Eq.trans (k_ald2 rfl) ?_
  refine Eq.trans (k_con rfl) ?_
  refine Eq.trans (k_ald0 rfl) ?_
  refine Eq.trans (k_ild1 rfl) ?_
  exact k_ivx rfl q_127 (rArg_v (As := [.int (iI a0)]) (rest := [.int (iI 0), .ref 391]) rfl rfl (by decide) s_100 rfl) he rfl rfl rfl
theorem P_281 {a0 : Int} (ha0 : i32 a0) : cLW 281 227 [.int (iI a0)] fL := by
  exact cLW_tn (by decide) (K_at2 ha0) (fun d m q w v m1 q1 he => h_281v d m q w v m1 q1 he) (fun d m q w M' he => h_281x1 d m q w M' he)
theorem h_282v (d : Nat) (m : Nat → Nat → Int) (q : Nat → Nat → Option Nat) (w : Nat → Int64) {a0 a1 : Int} (v : Int) (m1 : Nat → Nat → Int) (q1 : Nat → Nat → Option Nat) (he : ev d 129 [.ref 100, .int (iI a0), .int (iI a1)] (mk m q (some w)) = vI v (mk m1 q1 (some w))) : ev (d + 1) 282 [.ref 100, .int (iI a0), .int (iI a1), .ref 391] (mk m q (some w)) = vI 0 (mk m1 q1 (some (vp_updL w 0 (fL v)))) := by
  refine Eq.trans (ev_at (by omega) q_282 rfl rfl rfl) ?_
  show gv d rR282 0 [some (.ref 100), some (.int (iI a0)), some (.int (iI a1)), some (.ref 391), none] [] _ = _
  refine Eq.trans (k_ald3 rfl) ?_
  refine Eq.trans (k_con rfl) ?_
  refine Eq.trans (k_ald0 rfl) ?_
  refine Eq.trans (k_ild1 rfl) ?_
  refine Eq.trans (k_ild2 rfl) ?_
  refine Eq.trans (k_ivr rfl q_129 (rArg_v (As := [.int (iI a0), .int (iI a1)]) (rest := [.int (iI 0), .ref 391]) rfl rfl (by decide) s_100 rfl) he) ?_
  refine Eq.trans (k_i2l rfl) ?_
  refine Eq.trans (k_last rfl) ?_
  refine Eq.trans (k_go rfl rfl) ?_
  refine Eq.trans (k_con rfl) ?_
  exact k_rtI rfl rfl
theorem h_282x0 (d : Nat) (m : Nat → Nat → Int) (q : Nat → Nat → Option Nat) (w : Nat → Int64) {a0 a1 : Int} (M' : rMem) (he : ev d 129 [.ref 100, .int (iI a0), .int (iI a1)] (mk m q (some w)) = some (.inr 0, (M', (1, 6)))) : ev (d + 1) 282 [.ref 100, .int (iI a0), .int (iI a1), .ref 391] (mk m q (some w)) = some (.inl (some (.int (iI ((1 : Nat) : Nat)))), (M', (1, 6))) := by
  refine Eq.trans (ev_at (by omega) q_282 rfl rfl rfl) ?_
  show gv d rR282 0 [some (.ref 100), some (.int (iI a0)), some (.int (iI a1)), some (.ref 391), none] [] _ = _
  refine Eq.trans (k_ald3 rfl) ?_
  refine Eq.trans (k_con rfl) ?_
  refine Eq.trans (k_ald0 rfl) ?_
  refine Eq.trans (k_ild1 rfl) ?_
  refine Eq.trans (k_ild2 rfl) ?_
  exact k_ivx rfl q_129 (rArg_v (As := [.int (iI a0), .int (iI a1)]) (rest := [.int (iI 0), .ref 391]) rfl rfl (by decide) s_100 rfl) he rfl rfl rfl
theorem P_282 {a0 a1 : Int} (ha0 : i32 a0) (ha1 : i32 a1) : cLW 282 228 [.int (iI a0), .int (iI a1)] fL := by
  refine cLW_th (c := 1) (by decide) (by decide) (K_strain ha0 ha1) (fun d m q w v m1 q1 he => h_282v d m q w v m1 q1 he) (fun d m q w e M' hh he => ?_)
  obtain rfl : e = 0 := by omega
  exact h_282x0 d m q w M' he
theorem h_283v (d : Nat) (m : Nat → Nat → Int) (q : Nat → Nat → Option Nat) (w : Nat → Int64) {a0 a1 a2 a3 a4 a5 a6 : Int} (v : Int) (m1 : Nat → Nat → Int) (q1 : Nat → Nat → Option Nat) (he : ev d 130 [.ref 100, .int (iI a0), .int (iI a1), .int (iI a2), .int (iI a3), .int (iI a4), .int (iI a5), .int (iI a6)] (mk m q (some w)) = vI v (mk m1 q1 (some w))) : ev (d + 1) 283 [.ref 100, .int (iI a0), .int (iI a1), .int (iI a2), .int (iI a3), .int (iI a4), .int (iI a5), .int (iI a6), .ref 391] (mk m q (some w)) = vI 0 (mk m1 q1 (some (vp_updL w 0 (fL v)))) := by
  refine Eq.trans (ev_at (by omega) q_283 rfl rfl rfl) ?_
  show gv d rR283 0 [some (.ref 100), some (.int (iI a0)), some (.int (iI a1)), some (.int (iI a2)), some (.int (iI a3)), some (.int (iI a4)), some (.int (iI a5)), some (.int (iI a6)), some (.ref 391), none] [] _ = _
  refine Eq.trans (k_ald8 rfl) ?_
  refine Eq.trans (k_con rfl) ?_
  refine Eq.trans (k_ald0 rfl) ?_
  refine Eq.trans (k_ild1 rfl) ?_
  refine Eq.trans (k_ild2 rfl) ?_
  refine Eq.trans (k_ild3 rfl) ?_
  refine Eq.trans (k_ild4 rfl) ?_
  refine Eq.trans (k_ild5 rfl) ?_
  refine Eq.trans (k_ild6 rfl) ?_
  refine Eq.trans (k_ild7 rfl) ?_
  refine Eq.trans (k_ivr rfl q_130 (rArg_v (As := [.int (iI a0), .int (iI a1), .int (iI a2), .int (iI a3), .int (iI a4), .int (iI a5), .int (iI a6)]) (rest := [.int (iI 0), .ref 391]) rfl rfl (by decide) s_100 rfl) he) ?_
  refine Eq.trans (k_i2l rfl) ?_
  refine Eq.trans (k_last rfl) ?_
  refine Eq.trans (k_go rfl rfl) ?_
  refine Eq.trans (k_con rfl) ?_
  exact k_rtI rfl rfl
theorem h_283x0 (d : Nat) (m : Nat → Nat → Int) (q : Nat → Nat → Option Nat) (w : Nat → Int64) {a0 a1 a2 a3 a4 a5 a6 : Int} (M' : rMem) (he : ev d 130 [.ref 100, .int (iI a0), .int (iI a1), .int (iI a2), .int (iI a3), .int (iI a4), .int (iI a5), .int (iI a6)] (mk m q (some w)) = some (.inr 0, (M', (1, 6)))) : ev (d + 1) 283 [.ref 100, .int (iI a0), .int (iI a1), .int (iI a2), .int (iI a3), .int (iI a4), .int (iI a5), .int (iI a6), .ref 391] (mk m q (some w)) = some (.inl (some (.int (iI ((1 : Nat) : Nat)))), (M', (1, 6))) := by
  refine Eq.trans (ev_at (by omega) q_283 rfl rfl rfl) ?_
  show gv d rR283 0 [some (.ref 100), some (.int (iI a0)), some (.int (iI a1)), some (.int (iI a2)), some (.int (iI a3)), some (.int (iI a4)), some (.int (iI a5)), some (.int (iI a6)), some (.ref 391), none] [] _ = _
  refine Eq.trans (k_ald8 rfl) ?_
  refine Eq.trans (k_con rfl) ?_
  refine Eq.trans (k_ald0 rfl) ?_
  refine Eq.trans (k_ild1 rfl) ?_
  refine Eq.trans (k_ild2 rfl) ?_
  refine Eq.trans (k_ild3 rfl) ?_
  refine Eq.trans (k_ild4 rfl) ?_
  refine Eq.trans (k_ild5 rfl) ?_
  refine Eq.trans (k_ild6 rfl) ?_
  refine Eq.trans (k_ild7 rfl) ?_
  exact k_ivx rfl q_130 (rArg_v (As := [.int (iI a0), .int (iI a1), .int (iI a2), .int (iI a3), .int (iI a4), .int (iI a5), .int (iI a6)]) (rest := [.int (iI 0), .ref 391]) rfl rfl (by decide) s_100 rfl) he rfl rfl rfl
theorem P_283 {a0 a1 a2 a3 a4 a5 a6 : Int} (ha0 : i32 a0) (ha1 : i32 a1) (ha2 : i32 a2) (ha3 : i32 a3) (ha4 : i32 a4) (ha5 : i32 a5) (ha6 : i32 a6) : cLW 283 229 [.int (iI a0), .int (iI a1), .int (iI a2), .int (iI a3), .int (iI a4), .int (iI a5), .int (iI a6)] fL := by
  refine cLW_th (c := 1) (by decide) (by decide) (K_would ha0 ha1 ha2 ha3 ha4 ha5 ha6) (fun d m q w v m1 q1 he => h_283v d m q w v m1 q1 he) (fun d m q w e M' hh he => ?_)
  obtain rfl : e = 0 := by omega
  exact h_283x0 d m q w M' he
theorem h_284v (d : Nat) (m : Nat → Nat → Int) (q : Nat → Nat → Option Nat) (w : Nat → Int64) {a0 a1 : Int} (v : Int) (m1 : Nat → Nat → Int) (q1 : Nat → Nat → Option Nat) (he : ev d 131 [.ref 100, .int (iI a0), .int (iI a1)] (mk m q (some w)) = vI v (mk m1 q1 (some w))) : ev (d + 1) 284 [.ref 100, .int (iI a0), .int (iI a1), .ref 391] (mk m q (some w)) = vI 0 (mk m1 q1 (some (vp_updL w 0 (fL v)))) := by
  refine Eq.trans (ev_at (by omega) q_284 rfl rfl rfl) ?_
  show gv d rR284 0 [some (.ref 100), some (.int (iI a0)), some (.int (iI a1)), some (.ref 391), none] [] _ = _
  refine Eq.trans (k_ald3 rfl) ?_
  refine Eq.trans (k_con rfl) ?_
  refine Eq.trans (k_ald0 rfl) ?_
  refine Eq.trans (k_ild1 rfl) ?_
  refine Eq.trans (k_ild2 rfl) ?_
  refine Eq.trans (k_ivr rfl q_131 (rArg_v (As := [.int (iI a0), .int (iI a1)]) (rest := [.int (iI 0), .ref 391]) rfl rfl (by decide) s_100 rfl) he) ?_
  refine Eq.trans (k_i2l rfl) ?_
  refine Eq.trans (k_last rfl) ?_
  refine Eq.trans (k_go rfl rfl) ?_
  refine Eq.trans (k_con rfl) ?_
  exact k_rtI rfl rfl
theorem h_284x0 (d : Nat) (m : Nat → Nat → Int) (q : Nat → Nat → Option Nat) (w : Nat → Int64) {a0 a1 : Int} (M' : rMem) (he : ev d 131 [.ref 100, .int (iI a0), .int (iI a1)] (mk m q (some w)) = some (.inr 0, (M', (1, 6)))) : ev (d + 1) 284 [.ref 100, .int (iI a0), .int (iI a1), .ref 391] (mk m q (some w)) = some (.inl (some (.int (iI ((1 : Nat) : Nat)))), (M', (1, 6))) := by
  refine Eq.trans (ev_at (by omega) q_284 rfl rfl rfl) ?_
  show gv d rR284 0 [some (.ref 100), some (.int (iI a0)), some (.int (iI a1)), some (.ref 391), none] [] _ = _
  refine Eq.trans (k_ald3 rfl) ?_
  refine Eq.trans (k_con rfl) ?_
  refine Eq.trans (k_ald0 rfl) ?_
  refine Eq.trans (k_ild1 rfl) ?_
  refine Eq.trans (k_ild2 rfl) ?_
  exact k_ivx rfl q_131 (rArg_v (As := [.int (iI a0), .int (iI a1)]) (rest := [.int (iI 0), .ref 391]) rfl rfl (by decide) s_100 rfl) he rfl rfl rfl
theorem P_284 {a0 a1 : Int} (ha0 : i32 a0) (ha1 : i32 a1) : cLW 284 230 [.int (iI a0), .int (iI a1)] fL := by
  refine cLW_th (c := 1) (by decide) (by decide) (K_mark ha0 ha1) (fun d m q w v m1 q1 he => h_284v d m q w v m1 q1 he) (fun d m q w e M' hh he => ?_)
  obtain rfl : e = 0 := by omega
  exact h_284x0 d m q w M' he
theorem h_285v (d : Nat) (m : Nat → Nat → Int) (q : Nat → Nat → Option Nat) (w : Nat → Int64) {a0 : Int} (v : Int) (m1 : Nat → Nat → Int) (q1 : Nat → Nat → Option Nat) (he : ev d 132 [.ref 100, .int (iI a0)] (mk m q (some w)) = vI v (mk m1 q1 (some w))) : ev (d + 1) 285 [.ref 100, .int (iI a0), .ref 391] (mk m q (some w)) = vI 0 (mk m1 q1 (some (vp_updL w 0 (fL v)))) := by
  refine Eq.trans (ev_at (by omega) q_285 rfl rfl rfl) ?_
  show gv d rR285 0 [some (.ref 100), some (.int (iI a0)), some (.ref 391), none] [] _ = _
  refine Eq.trans (k_ald2 rfl) ?_
  refine Eq.trans (k_con rfl) ?_
  refine Eq.trans (k_ald0 rfl) ?_
  refine Eq.trans (k_ild1 rfl) ?_
  refine Eq.trans (k_ivr rfl q_132 (rArg_v (As := [.int (iI a0)]) (rest := [.int (iI 0), .ref 391]) rfl rfl (by decide) s_100 rfl) he) ?_
  refine Eq.trans (k_i2l rfl) ?_
  refine Eq.trans (k_last rfl) ?_
  refine Eq.trans (k_go rfl rfl) ?_
  refine Eq.trans (k_con rfl) ?_
  exact k_rtI rfl rfl
theorem h_285x0 (d : Nat) (m : Nat → Nat → Int) (q : Nat → Nat → Option Nat) (w : Nat → Int64) {a0 : Int} (M' : rMem) (he : ev d 132 [.ref 100, .int (iI a0)] (mk m q (some w)) = some (.inr 0, (M', (1, 6)))) : ev (d + 1) 285 [.ref 100, .int (iI a0), .ref 391] (mk m q (some w)) = some (.inl (some (.int (iI ((1 : Nat) : Nat)))), (M', (1, 6))) := by
  refine Eq.trans (ev_at (by omega) q_285 rfl rfl rfl) ?_
  show gv d rR285 0 [some (.ref 100), some (.int (iI a0)), some (.ref 391), none] [] _ = _
  refine Eq.trans (k_ald2 rfl) ?_
  refine Eq.trans (k_con rfl) ?_
  refine Eq.trans (k_ald0 rfl) ?_
  refine Eq.trans (k_ild1 rfl) ?_
  exact k_ivx rfl q_132 (rArg_v (As := [.int (iI a0)]) (rest := [.int (iI 0), .ref 391]) rfl rfl (by decide) s_100 rfl) he rfl rfl rfl
theorem P_285 {a0 : Int} (ha0 : i32 a0) : cLW 285 231 [.int (iI a0)] fL := by
  refine cLW_th (c := 1) (by decide) (by decide) (K_seen ha0) (fun d m q w v m1 q1 he => h_285v d m q w v m1 q1 he) (fun d m q w e M' hh he => ?_)
  obtain rfl : e = 0 := by omega
  exact h_285x0 d m q w M' he
theorem h_286v (d : Nat) (m : Nat → Nat → Int) (q : Nat → Nat → Option Nat) (w : Nat → Int64) {a0 : Int} (v : Int) (m1 : Nat → Nat → Int) (q1 : Nat → Nat → Option Nat) (he : ev d 133 [.ref 100, .int (iI a0)] (mk m q (some w)) = vI v (mk m1 q1 (some w))) : ev (d + 1) 286 [.ref 100, .int (iI a0), .ref 391] (mk m q (some w)) = vI 0 (mk m1 q1 (some (vp_updL w 0 (fL v)))) := by
  refine Eq.trans (ev_at (by omega) q_286 rfl rfl rfl) ?_
  show gv d rR286 0 [some (.ref 100), some (.int (iI a0)), some (.ref 391), none] [] _ = _
  refine Eq.trans (k_ald2 rfl) ?_
  refine Eq.trans (k_con rfl) ?_
  refine Eq.trans (k_ald0 rfl) ?_
  refine Eq.trans (k_ild1 rfl) ?_
  refine Eq.trans (k_ivr rfl q_133 (rArg_v (As := [.int (iI a0)]) (rest := [.int (iI 0), .ref 391]) rfl rfl (by decide) s_100 rfl) he) ?_
  refine Eq.trans (k_i2l rfl) ?_
  refine Eq.trans (k_last rfl) ?_
  refine Eq.trans (k_go rfl rfl) ?_
  refine Eq.trans (k_con rfl) ?_
  exact k_rtI rfl rfl
theorem h_286x0 (d : Nat) (m : Nat → Nat → Int) (q : Nat → Nat → Option Nat) (w : Nat → Int64) {a0 : Int} (M' : rMem) (he : ev d 133 [.ref 100, .int (iI a0)] (mk m q (some w)) = some (.inr 0, (M', (1, 6)))) : ev (d + 1) 286 [.ref 100, .int (iI a0), .ref 391] (mk m q (some w)) = some (.inl (some (.int (iI ((1 : Nat) : Nat)))), (M', (1, 6))) := by
  refine Eq.trans (ev_at (by omega) q_286 rfl rfl rfl) ?_
  show gv d rR286 0 [some (.ref 100), some (.int (iI a0)), some (.ref 391), none] [] _ = _
  refine Eq.trans (k_ald2 rfl) ?_
  refine Eq.trans (k_con rfl) ?_
  refine Eq.trans (k_ald0 rfl) ?_
  refine Eq.trans (k_ild1 rfl) ?_
  exact k_ivx rfl q_133 (rArg_v (As := [.int (iI a0)]) (rest := [.int (iI 0), .ref 391]) rfl rfl (by decide) s_100 rfl) he rfl rfl rfl
theorem P_286 {a0 : Int} (ha0 : i32 a0) : cLW 286 232 [.int (iI a0)] fL := by
  refine cLW_th (c := 1) (by decide) (by decide) (K_marks ha0) (fun d m q w v m1 q1 he => h_286v d m q w v m1 q1 he) (fun d m q w e M' hh he => ?_)
  obtain rfl : e = 0 := by omega
  exact h_286x0 d m q w M' he
theorem h_287v (d : Nat) (m : Nat → Nat → Int) (q : Nat → Nat → Option Nat) (w : Nat → Int64) {a0 : Int} (v : Int) (m1 : Nat → Nat → Int) (q1 : Nat → Nat → Option Nat) (he : ev d 134 [.ref 100, .int (iI a0)] (mk m q (some w)) = vI v (mk m1 q1 (some w))) : ev (d + 1) 287 [.ref 100, .int (iI a0), .ref 391] (mk m q (some w)) = vI 0 (mk m1 q1 (some (vp_updL w 0 (fZ v)))) := by
  refine Eq.trans (ev_at (by omega) q_287 rfl rfl rfl) ?_
  show gv d rR287 0 [some (.ref 100), some (.int (iI a0)), some (.ref 391), none] [] _ = _
  refine Eq.trans (k_ald2 rfl) ?_
  refine Eq.trans (k_con rfl) ?_
  refine Eq.trans (k_ald0 rfl) ?_
  refine Eq.trans (k_ild1 rfl) ?_
  refine Eq.trans (k_ivr rfl q_134 (rArg_v (As := [.int (iI a0)]) (rest := [.int (iI 0), .ref 391]) rfl rfl (by decide) s_100 rfl) he) ?_
  refine Eq.trans (k_i1eq rfl rfl) ?_
  unfold fZ
  by_cases hz : iI v = iI 0
  · rw [if_pos hz, if_pos hz]
    refine Eq.trans (k_lcon rfl) ?_
    refine Eq.trans (k_last rfl) ?_
    refine Eq.trans (k_go rfl rfl) ?_
    refine Eq.trans (k_con rfl) ?_
    exact k_rtI rfl rfl
  · rw [if_neg hz, if_neg hz]
    refine Eq.trans (k_lcon rfl) ?_
    refine Eq.trans (k_go rfl rfl) ?_
    refine Eq.trans (k_last rfl) ?_
    refine Eq.trans (k_go rfl rfl) ?_
    refine Eq.trans (k_con rfl) ?_
    exact k_rtI rfl rfl
theorem h_287x0 (d : Nat) (m : Nat → Nat → Int) (q : Nat → Nat → Option Nat) (w : Nat → Int64) {a0 : Int} (M' : rMem) (he : ev d 134 [.ref 100, .int (iI a0)] (mk m q (some w)) = some (.inr 0, (M', (1, 6)))) : ev (d + 1) 287 [.ref 100, .int (iI a0), .ref 391] (mk m q (some w)) = some (.inl (some (.int (iI ((1 : Nat) : Nat)))), (M', (1, 6))) := by
  refine Eq.trans (ev_at (by omega) q_287 rfl rfl rfl) ?_
  show gv d rR287 0 [some (.ref 100), some (.int (iI a0)), some (.ref 391), none] [] _ = _
  refine Eq.trans (k_ald2 rfl) ?_
  refine Eq.trans (k_con rfl) ?_
  refine Eq.trans (k_ald0 rfl) ?_
  refine Eq.trans (k_ild1 rfl) ?_
  exact k_ivx rfl q_134 (rArg_v (As := [.int (iI a0)]) (rest := [.int (iI 0), .ref 391]) rfl rfl (by decide) s_100 rfl) he rfl rfl rfl
theorem P_287 {a0 : Int} (ha0 : i32 a0) : cLW 287 236 [.int (iI a0)] fZ := by
  refine cLW_th (c := 1) (by decide) (by decide) (K_shows ha0) (fun d m q w v m1 q1 he => h_287v d m q w v m1 q1 he) (fun d m q w e M' hh he => ?_)
  obtain rfl : e = 0 := by omega
  exact h_287x0 d m q w M' he
theorem h_288v (d : Nat) (m : Nat → Nat → Int) (q : Nat → Nat → Option Nat) (w : Nat → Int64) {a0 : Int} (v : Int) (m1 : Nat → Nat → Int) (q1 : Nat → Nat → Option Nat) (he : ev d 136 [.ref 100, .int (iI a0)] (mk m q (some w)) = vI v (mk m1 q1 (some w))) : ev (d + 1) 288 [.ref 100, .int (iI a0), .ref 391] (mk m q (some w)) = vI 0 (mk m1 q1 (some (vp_updL w 0 (fL v)))) := by
  refine Eq.trans (ev_at (by omega) q_288 rfl rfl rfl) ?_
  show gv d rR288 0 [some (.ref 100), some (.int (iI a0)), some (.ref 391), none] [] _ = _
  refine Eq.trans (k_ald2 rfl) ?_
  refine Eq.trans (k_con rfl) ?_
  refine Eq.trans (k_ald0 rfl) ?_
  refine Eq.trans (k_ild1 rfl) ?_
  refine Eq.trans (k_ivr rfl q_136 (rArg_v (As := [.int (iI a0)]) (rest := [.int (iI 0), .ref 391]) rfl rfl (by decide) s_100 rfl) he) ?_
  refine Eq.trans (k_i2l rfl) ?_
  refine Eq.trans (k_last rfl) ?_
  refine Eq.trans (k_go rfl rfl) ?_
  refine Eq.trans (k_con rfl) ?_
  exact k_rtI rfl rfl
theorem h_288x0 (d : Nat) (m : Nat → Nat → Int) (q : Nat → Nat → Option Nat) (w : Nat → Int64) {a0 : Int} (M' : rMem) (he : ev d 136 [.ref 100, .int (iI a0)] (mk m q (some w)) = some (.inr 0, (M', (1, 6)))) : ev (d + 1) 288 [.ref 100, .int (iI a0), .ref 391] (mk m q (some w)) = some (.inl (some (.int (iI ((1 : Nat) : Nat)))), (M', (1, 6))) := by
  refine Eq.trans (ev_at (by omega) q_288 rfl rfl rfl) ?_
  show gv d rR288 0 [some (.ref 100), some (.int (iI a0)), some (.ref 391), none] [] _ = _
  refine Eq.trans (k_ald2 rfl) ?_
  refine Eq.trans (k_con rfl) ?_
  refine Eq.trans (k_ald0 rfl) ?_
  refine Eq.trans (k_ild1 rfl) ?_
  exact k_ivx rfl q_136 (rArg_v (As := [.int (iI a0)]) (rest := [.int (iI 0), .ref 391]) rfl rfl (by decide) s_100 rfl) he rfl rfl rfl
theorem P_288 {a0 : Int} (ha0 : i32 a0) : cLW 288 240 [.int (iI a0)] fL := by
  refine cLW_th (c := 1) (by decide) (by decide) (K_lays ha0) (fun d m q w v m1 q1 he => h_288v d m q w v m1 q1 he) (fun d m q w e M' hh he => ?_)
  obtain rfl : e = 0 := by omega
  exact h_288x0 d m q w M' he
theorem h_289v (d : Nat) (m : Nat → Nat → Int) (q : Nat → Nat → Option Nat) (w : Nat → Int64) {a0 a1 : Int} (v : Int) (m1 : Nat → Nat → Int) (q1 : Nat → Nat → Option Nat) (he : ev d 137 [.ref 100, .int (iI a0), .int (iI a1)] (mk m q (some w)) = vI v (mk m1 q1 (some w))) : ev (d + 1) 289 [.ref 100, .int (iI a0), .int (iI a1), .ref 391] (mk m q (some w)) = vI 0 (mk m1 q1 (some (vp_updL w 0 (fL v)))) := by
  refine Eq.trans (ev_at (by omega) q_289 rfl rfl rfl) ?_
  show gv d rR289 0 [some (.ref 100), some (.int (iI a0)), some (.int (iI a1)), some (.ref 391), none] [] _ = _
  refine Eq.trans (k_ald3 rfl) ?_
  refine Eq.trans (k_con rfl) ?_
  refine Eq.trans (k_ald0 rfl) ?_
  refine Eq.trans (k_ild1 rfl) ?_
  refine Eq.trans (k_ild2 rfl) ?_
  refine Eq.trans (k_ivr rfl q_137 (rArg_v (As := [.int (iI a0), .int (iI a1)]) (rest := [.int (iI 0), .ref 391]) rfl rfl (by decide) s_100 rfl) he) ?_
  refine Eq.trans (k_i2l rfl) ?_
  refine Eq.trans (k_last rfl) ?_
  refine Eq.trans (k_go rfl rfl) ?_
  refine Eq.trans (k_con rfl) ?_
  exact k_rtI rfl rfl
theorem h_289x0 (d : Nat) (m : Nat → Nat → Int) (q : Nat → Nat → Option Nat) (w : Nat → Int64) {a0 a1 : Int} (M' : rMem) (he : ev d 137 [.ref 100, .int (iI a0), .int (iI a1)] (mk m q (some w)) = some (.inr 0, (M', (1, 6)))) : ev (d + 1) 289 [.ref 100, .int (iI a0), .int (iI a1), .ref 391] (mk m q (some w)) = some (.inl (some (.int (iI ((2 : Nat) : Nat)))), (M', (1, 6))) := by
  refine Eq.trans (ev_at (by omega) q_289 rfl rfl rfl) ?_
  show gv d rR289 0 [some (.ref 100), some (.int (iI a0)), some (.int (iI a1)), some (.ref 391), none] [] _ = _
  refine Eq.trans (k_ald3 rfl) ?_
  refine Eq.trans (k_con rfl) ?_
  refine Eq.trans (k_ald0 rfl) ?_
  refine Eq.trans (k_ild1 rfl) ?_
  refine Eq.trans (k_ild2 rfl) ?_
  exact k_ivx rfl q_137 (rArg_v (As := [.int (iI a0), .int (iI a1)]) (rest := [.int (iI 0), .ref 391]) rfl rfl (by decide) s_100 rfl) he rfl rfl rfl
theorem h_289x1 (d : Nat) (m : Nat → Nat → Int) (q : Nat → Nat → Option Nat) (w : Nat → Int64) {a0 a1 : Int} (M' : rMem) (he : ev d 137 [.ref 100, .int (iI a0), .int (iI a1)] (mk m q (some w)) = some (.inr 1, (M', (1, 6)))) : ev (d + 1) 289 [.ref 100, .int (iI a0), .int (iI a1), .ref 391] (mk m q (some w)) = some (.inl (some (.int (iI ((1 : Nat) : Nat)))), (M', (1, 6))) := by
  refine Eq.trans (ev_at (by omega) q_289 rfl rfl rfl) ?_
  show gv d rR289 0 [some (.ref 100), some (.int (iI a0)), some (.int (iI a1)), some (.ref 391), none] [] _ = _
  refine Eq.trans (k_ald3 rfl) ?_
  refine Eq.trans (k_con rfl) ?_
  refine Eq.trans (k_ald0 rfl) ?_
  refine Eq.trans (k_ild1 rfl) ?_
  refine Eq.trans (k_ild2 rfl) ?_
  exact k_ivx rfl q_137 (rArg_v (As := [.int (iI a0), .int (iI a1)]) (rest := [.int (iI 0), .ref 391]) rfl rfl (by decide) s_100 rfl) he rfl rfl rfl
theorem P_289 {a0 a1 : Int} (ha0 : i32 a0) (ha1 : i32 a1) : cLW 289 241 [.int (iI a0), .int (iI a1)] fL := by
  refine cLW_th (c := 2) (by decide) (by decide) (K_laid ha0 ha1) (fun d m q w v m1 q1 he => h_289v d m q w v m1 q1 he) (fun d m q w e M' hh he => ?_)
  rcases hh with rfl | ⟨rfl, -⟩
  · exact h_289x0 d m q w M' he
  · exact h_289x1 d m q w M' he
theorem h_290v (d : Nat) (m : Nat → Nat → Int) (q : Nat → Nat → Option Nat) (w : Nat → Int64) {a0 a1 : Int} (v : Int) (m1 : Nat → Nat → Int) (q1 : Nat → Nat → Option Nat) (he : ev d 138 [.ref 100, .int (iI a0), .int (iI a1)] (mk m q (some w)) = vI v (mk m1 q1 (some w))) : ev (d + 1) 290 [.ref 100, .int (iI a0), .int (iI a1), .ref 391] (mk m q (some w)) = vI 0 (mk m1 q1 (some (vp_updL w 0 (fL v)))) := by
  refine Eq.trans (ev_at (by omega) q_290 rfl rfl rfl) ?_
  show gv d rR290 0 [some (.ref 100), some (.int (iI a0)), some (.int (iI a1)), some (.ref 391), none] [] _ = _
  refine Eq.trans (k_ald3 rfl) ?_
  refine Eq.trans (k_con rfl) ?_
  refine Eq.trans (k_ald0 rfl) ?_
  refine Eq.trans (k_ild1 rfl) ?_
  refine Eq.trans (k_ild2 rfl) ?_
  refine Eq.trans (k_ivr rfl q_138 (rArg_v (As := [.int (iI a0), .int (iI a1)]) (rest := [.int (iI 0), .ref 391]) rfl rfl (by decide) s_100 rfl) he) ?_
  refine Eq.trans (k_i2l rfl) ?_
  refine Eq.trans (k_last rfl) ?_
  refine Eq.trans (k_go rfl rfl) ?_
  refine Eq.trans (k_con rfl) ?_
  exact k_rtI rfl rfl
theorem h_290x0 (d : Nat) (m : Nat → Nat → Int) (q : Nat → Nat → Option Nat) (w : Nat → Int64) {a0 a1 : Int} (M' : rMem) (he : ev d 138 [.ref 100, .int (iI a0), .int (iI a1)] (mk m q (some w)) = some (.inr 0, (M', (1, 6)))) : ev (d + 1) 290 [.ref 100, .int (iI a0), .int (iI a1), .ref 391] (mk m q (some w)) = some (.inl (some (.int (iI ((1 : Nat) : Nat)))), (M', (1, 6))) := by
  refine Eq.trans (ev_at (by omega) q_290 rfl rfl rfl) ?_
  show gv d rR290 0 [some (.ref 100), some (.int (iI a0)), some (.int (iI a1)), some (.ref 391), none] [] _ = _
  refine Eq.trans (k_ald3 rfl) ?_
  refine Eq.trans (k_con rfl) ?_
  refine Eq.trans (k_ald0 rfl) ?_
  refine Eq.trans (k_ild1 rfl) ?_
  refine Eq.trans (k_ild2 rfl) ?_
  exact k_ivx rfl q_138 (rArg_v (As := [.int (iI a0), .int (iI a1)]) (rest := [.int (iI 0), .ref 391]) rfl rfl (by decide) s_100 rfl) he rfl rfl rfl
theorem P_290 {a0 a1 : Int} (ha0 : i32 a0) (ha1 : i32 a1) : cLW 290 242 [.int (iI a0), .int (iI a1)] fL := by
  refine cLW_th (c := 1) (by decide) (by decide) (K_both ha0 ha1) (fun d m q w v m1 q1 he => h_290v d m q w v m1 q1 he) (fun d m q w e M' hh he => ?_)
  obtain rfl : e = 0 := by omega
  exact h_290x0 d m q w M' he
theorem h_291v (d : Nat) (m : Nat → Nat → Int) (q : Nat → Nat → Option Nat) (w : Nat → Int64) {a0 : Int} (v : Int) (m1 : Nat → Nat → Int) (q1 : Nat → Nat → Option Nat) (he : ev d 139 [.ref 100, .int (iI a0)] (mk m q (some w)) = vI v (mk m1 q1 (some w))) : ev (d + 1) 291 [.ref 100, .int (iI a0), .ref 391] (mk m q (some w)) = vI 0 (mk m1 q1 (some (vp_updL w 0 (fL v)))) := by
  refine Eq.trans (ev_at (by omega) q_291 rfl rfl rfl) ?_
  show gv d rR291 0 [some (.ref 100), some (.int (iI a0)), some (.ref 391), none] [] _ = _
  refine Eq.trans (k_ald2 rfl) ?_
  refine Eq.trans (k_con rfl) ?_
  refine Eq.trans (k_ald0 rfl) ?_
  refine Eq.trans (k_ild1 rfl) ?_
  refine Eq.trans (k_ivr rfl q_139 (rArg_v (As := [.int (iI a0)]) (rest := [.int (iI 0), .ref 391]) rfl rfl (by decide) s_100 rfl) he) ?_
  refine Eq.trans (k_i2l rfl) ?_
  refine Eq.trans (k_last rfl) ?_
  refine Eq.trans (k_go rfl rfl) ?_
  refine Eq.trans (k_con rfl) ?_
  exact k_rtI rfl rfl
theorem h_291x0 (d : Nat) (m : Nat → Nat → Int) (q : Nat → Nat → Option Nat) (w : Nat → Int64) {a0 : Int} (M' : rMem) (he : ev d 139 [.ref 100, .int (iI a0)] (mk m q (some w)) = some (.inr 0, (M', (1, 6)))) : ev (d + 1) 291 [.ref 100, .int (iI a0), .ref 391] (mk m q (some w)) = some (.inl (some (.int (iI ((1 : Nat) : Nat)))), (M', (1, 6))) := by
  refine Eq.trans (ev_at (by omega) q_291 rfl rfl rfl) ?_
  show gv d rR291 0 [some (.ref 100), some (.int (iI a0)), some (.ref 391), none] [] _ = _
  refine Eq.trans (k_ald2 rfl) ?_
  refine Eq.trans (k_con rfl) ?_
  refine Eq.trans (k_ald0 rfl) ?_
  refine Eq.trans (k_ild1 rfl) ?_
  exact k_ivx rfl q_139 (rArg_v (As := [.int (iI a0)]) (rest := [.int (iI 0), .ref 391]) rfl rfl (by decide) s_100 rfl) he rfl rfl rfl
theorem P_291 {a0 : Int} (ha0 : i32 a0) : cLW 291 243 [.int (iI a0)] fL := by
  refine cLW_th (c := 1) (by decide) (by decide) (K_brush ha0) (fun d m q w v m1 q1 he => h_291v d m q w v m1 q1 he) (fun d m q w e M' hh he => ?_)
  obtain rfl : e = 0 := by omega
  exact h_291x0 d m q w M' he
theorem h_292v (d : Nat) (m : Nat → Nat → Int) (q : Nat → Nat → Option Nat) (w : Nat → Int64) {a0 : Int} (v : Int) (m1 : Nat → Nat → Int) (q1 : Nat → Nat → Option Nat) (he : ev d 140 [.ref 100, .int (iI a0)] (mk m q (some w)) = vI v (mk m1 q1 (some w))) : ev (d + 1) 292 [.ref 100, .int (iI a0), .ref 391] (mk m q (some w)) = vI 0 (mk m1 q1 (some (vp_updL w 0 (fL v)))) := by
  refine Eq.trans (ev_at (by omega) q_292 rfl rfl rfl) ?_
  show gv d rR292 0 [some (.ref 100), some (.int (iI a0)), some (.ref 391), none] [] _ = _
  refine Eq.trans (k_ald2 rfl) ?_
  refine Eq.trans (k_con rfl) ?_
  refine Eq.trans (k_ald0 rfl) ?_
  refine Eq.trans (k_ild1 rfl) ?_
  refine Eq.trans (k_ivr rfl q_140 (rArg_v (As := [.int (iI a0)]) (rest := [.int (iI 0), .ref 391]) rfl rfl (by decide) s_100 rfl) he) ?_
  refine Eq.trans (k_i2l rfl) ?_
  refine Eq.trans (k_last rfl) ?_
  refine Eq.trans (k_go rfl rfl) ?_
  refine Eq.trans (k_con rfl) ?_
  exact k_rtI rfl rfl
theorem h_292x0 (d : Nat) (m : Nat → Nat → Int) (q : Nat → Nat → Option Nat) (w : Nat → Int64) {a0 : Int} (M' : rMem) (he : ev d 140 [.ref 100, .int (iI a0)] (mk m q (some w)) = some (.inr 0, (M', (1, 6)))) : ev (d + 1) 292 [.ref 100, .int (iI a0), .ref 391] (mk m q (some w)) = some (.inl (some (.int (iI ((1 : Nat) : Nat)))), (M', (1, 6))) := by
  refine Eq.trans (ev_at (by omega) q_292 rfl rfl rfl) ?_
  show gv d rR292 0 [some (.ref 100), some (.int (iI a0)), some (.ref 391), none] [] _ = _
  refine Eq.trans (k_ald2 rfl) ?_
  refine Eq.trans (k_con rfl) ?_
  refine Eq.trans (k_ald0 rfl) ?_
  refine Eq.trans (k_ild1 rfl) ?_
  exact k_ivx rfl q_140 (rArg_v (As := [.int (iI a0)]) (rest := [.int (iI 0), .ref 391]) rfl rfl (by decide) s_100 rfl) he rfl rfl rfl
theorem P_292 {a0 : Int} (ha0 : i32 a0) : cLW 292 246 [.int (iI a0)] fL := by
  refine cLW_th (c := 1) (by decide) (by decide) (K_near ha0) (fun d m q w v m1 q1 he => h_292v d m q w v m1 q1 he) (fun d m q w e M' hh he => ?_)
  obtain rfl : e = 0 := by omega
  exact h_292x0 d m q w M' he
theorem h_293v (d : Nat) (m : Nat → Nat → Int) (q : Nat → Nat → Option Nat) (w : Nat → Int64) {a0 a1 : Int} (v : Int) (m1 : Nat → Nat → Int) (q1 : Nat → Nat → Option Nat) (he : ev d 142 [.ref 100, .int (iI a0), .int (iI a1)] (mk m q (some w)) = vI v (mk m1 q1 (some w))) : ev (d + 1) 293 [.ref 100, .int (iI a0), .int (iI a1), .ref 391] (mk m q (some w)) = vI 0 (mk m1 q1 (some (vp_updL w 0 (fL v)))) := by
  refine Eq.trans (ev_at (by omega) q_293 rfl rfl rfl) ?_
  show gv d rR293 0 [some (.ref 100), some (.int (iI a0)), some (.int (iI a1)), some (.ref 391), none] [] _ = _
  refine Eq.trans (k_ald3 rfl) ?_
  refine Eq.trans (k_con rfl) ?_
  refine Eq.trans (k_ald0 rfl) ?_
  refine Eq.trans (k_ild1 rfl) ?_
  refine Eq.trans (k_ild2 rfl) ?_
  refine Eq.trans (k_ivr rfl q_142 (rArg_v (As := [.int (iI a0), .int (iI a1)]) (rest := [.int (iI 0), .ref 391]) rfl rfl (by decide) s_100 rfl) he) ?_
  refine Eq.trans (k_i2l rfl) ?_
  refine Eq.trans (k_last rfl) ?_
  refine Eq.trans (k_go rfl rfl) ?_
  refine Eq.trans (k_con rfl) ?_
  exact k_rtI rfl rfl
theorem h_293x0 (d : Nat) (m : Nat → Nat → Int) (q : Nat → Nat → Option Nat) (w : Nat → Int64) {a0 a1 : Int} (M' : rMem) (he : ev d 142 [.ref 100, .int (iI a0), .int (iI a1)] (mk m q (some w)) = some (.inr 0, (M', (1, 6)))) : ev (d + 1) 293 [.ref 100, .int (iI a0), .int (iI a1), .ref 391] (mk m q (some w)) = some (.inl (some (.int (iI ((1 : Nat) : Nat)))), (M', (1, 6))) := by
  refine Eq.trans (ev_at (by omega) q_293 rfl rfl rfl) ?_
  show gv d rR293 0 [some (.ref 100), some (.int (iI a0)), some (.int (iI a1)), some (.ref 391), none] [] _ = _
  refine Eq.trans (k_ald3 rfl) ?_
  refine Eq.trans (k_con rfl) ?_
  refine Eq.trans (k_ald0 rfl) ?_
  refine Eq.trans (k_ild1 rfl) ?_
  refine Eq.trans (k_ild2 rfl) ?_
  exact k_ivx rfl q_142 (rArg_v (As := [.int (iI a0), .int (iI a1)]) (rest := [.int (iI 0), .ref 391]) rfl rfl (by decide) s_100 rfl) he rfl rfl rfl
theorem P_293 {a0 a1 : Int} (ha0 : i32 a0) (ha1 : i32 a1) : cLW 293 247 [.int (iI a0), .int (iI a1)] fL := by
  refine cLW_th (c := 1) (by decide) (by decide) (K_lot ha0 ha1) (fun d m q w v m1 q1 he => h_293v d m q w v m1 q1 he) (fun d m q w e M' hh he => ?_)
  obtain rfl : e = 0 := by omega
  exact h_293x0 d m q w M' he
theorem h_294v (d : Nat) (m : Nat → Nat → Int) (q : Nat → Nat → Option Nat) (w : Nat → Int64) {a0 : Int} (v : Int) (m1 : Nat → Nat → Int) (q1 : Nat → Nat → Option Nat) (he : ev d 143 [.ref 100, .int (iI a0)] (mk m q (some w)) = vI v (mk m1 q1 (some w))) : ev (d + 1) 294 [.ref 100, .int (iI a0), .ref 391] (mk m q (some w)) = vI 0 (mk m1 q1 (some (vp_updL w 0 (fL v)))) := by
  refine Eq.trans (ev_at (by omega) q_294 rfl rfl rfl) ?_
  show gv d rR294 0 [some (.ref 100), some (.int (iI a0)), some (.ref 391), none] [] _ = _
  refine Eq.trans (k_ald2 rfl) ?_
  refine Eq.trans (k_con rfl) ?_
  refine Eq.trans (k_ald0 rfl) ?_
  refine Eq.trans (k_ild1 rfl) ?_
  refine Eq.trans (k_ivr rfl q_143 (rArg_v (As := [.int (iI a0)]) (rest := [.int (iI 0), .ref 391]) rfl rfl (by decide) s_100 rfl) he) ?_
  refine Eq.trans (k_i2l rfl) ?_
  refine Eq.trans (k_last rfl) ?_
  refine Eq.trans (k_go rfl rfl) ?_
  refine Eq.trans (k_con rfl) ?_
  exact k_rtI rfl rfl
theorem h_294x0 (d : Nat) (m : Nat → Nat → Int) (q : Nat → Nat → Option Nat) (w : Nat → Int64) {a0 : Int} (M' : rMem) (he : ev d 143 [.ref 100, .int (iI a0)] (mk m q (some w)) = some (.inr 0, (M', (1, 6)))) : ev (d + 1) 294 [.ref 100, .int (iI a0), .ref 391] (mk m q (some w)) = some (.inl (some (.int (iI ((1 : Nat) : Nat)))), (M', (1, 6))) := by
  refine Eq.trans (ev_at (by omega) q_294 rfl rfl rfl) ?_
  show gv d rR294 0 [some (.ref 100), some (.int (iI a0)), some (.ref 391), none] [] _ = _
  refine Eq.trans (k_ald2 rfl) ?_
  refine Eq.trans (k_con rfl) ?_
  refine Eq.trans (k_ald0 rfl) ?_
  refine Eq.trans (k_ild1 rfl) ?_
  exact k_ivx rfl q_143 (rArg_v (As := [.int (iI a0)]) (rest := [.int (iI 0), .ref 391]) rfl rfl (by decide) s_100 rfl) he rfl rfl rfl
theorem P_294 {a0 : Int} (ha0 : i32 a0) : cLW 294 248 [.int (iI a0)] fL := by
  refine cLW_th (c := 1) (by decide) (by decide) (K_off ha0) (fun d m q w v m1 q1 he => h_294v d m q w v m1 q1 he) (fun d m q w e M' hh he => ?_)
  obtain rfl : e = 0 := by omega
  exact h_294x0 d m q w M' he
theorem h_295v (d : Nat) (m : Nat → Nat → Int) (q : Nat → Nat → Option Nat) (w : Nat → Int64) {a0 a1 : Int} (v : Int) (m1 : Nat → Nat → Int) (q1 : Nat → Nat → Option Nat) (he : ev d 144 [.ref 100, .int (iI a0), .int (iI a1)] (mk m q (some w)) = vI v (mk m1 q1 (some w))) : ev (d + 1) 295 [.ref 100, .int (iI a0), .int (iI a1), .ref 391] (mk m q (some w)) = vI 0 (mk m1 q1 (some (vp_updL w 0 (fL v)))) := by
  refine Eq.trans (ev_at (by omega) q_295 rfl rfl rfl) ?_
  show gv d rR295 0 [some (.ref 100), some (.int (iI a0)), some (.int (iI a1)), some (.ref 391), none] [] _ = _
  refine Eq.trans (k_ald3 rfl) ?_
  refine Eq.trans (k_con rfl) ?_
  refine Eq.trans (k_ald0 rfl) ?_
  refine Eq.trans (k_ild1 rfl) ?_
  refine Eq.trans (k_ild2 rfl) ?_
  refine Eq.trans (k_ivr rfl q_144 (rArg_v (As := [.int (iI a0), .int (iI a1)]) (rest := [.int (iI 0), .ref 391]) rfl rfl (by decide) s_100 rfl) he) ?_
  refine Eq.trans (k_i2l rfl) ?_
  refine Eq.trans (k_last rfl) ?_
  refine Eq.trans (k_go rfl rfl) ?_
  refine Eq.trans (k_con rfl) ?_
  exact k_rtI rfl rfl
theorem h_295x0 (d : Nat) (m : Nat → Nat → Int) (q : Nat → Nat → Option Nat) (w : Nat → Int64) {a0 a1 : Int} (M' : rMem) (he : ev d 144 [.ref 100, .int (iI a0), .int (iI a1)] (mk m q (some w)) = some (.inr 0, (M', (1, 6)))) : ev (d + 1) 295 [.ref 100, .int (iI a0), .int (iI a1), .ref 391] (mk m q (some w)) = some (.inl (some (.int (iI ((1 : Nat) : Nat)))), (M', (1, 6))) := by
  refine Eq.trans (ev_at (by omega) q_295 rfl rfl rfl) ?_
  show gv d rR295 0 [some (.ref 100), some (.int (iI a0)), some (.int (iI a1)), some (.ref 391), none] [] _ = _
  refine Eq.trans (k_ald3 rfl) ?_
  refine Eq.trans (k_con rfl) ?_
  refine Eq.trans (k_ald0 rfl) ?_
  refine Eq.trans (k_ild1 rfl) ?_
  refine Eq.trans (k_ild2 rfl) ?_
  exact k_ivx rfl q_144 (rArg_v (As := [.int (iI a0), .int (iI a1)]) (rest := [.int (iI 0), .ref 391]) rfl rfl (by decide) s_100 rfl) he rfl rfl rfl
theorem P_295 {a0 a1 : Int} (ha0 : i32 a0) (ha1 : i32 a1) : cLW 295 249 [.int (iI a0), .int (iI a1)] fL := by
  refine cLW_th (c := 1) (by decide) (by decide) (K_run ha0 ha1) (fun d m q w v m1 q1 he => h_295v d m q w v m1 q1 he) (fun d m q w e M' hh he => ?_)
  obtain rfl : e = 0 := by omega
  exact h_295x0 d m q w M' he
theorem h_296v (d : Nat) (m : Nat → Nat → Int) (q : Nat → Nat → Option Nat) (w : Nat → Int64) {a0 : Int} (v : Int) (m1 : Nat → Nat → Int) (q1 : Nat → Nat → Option Nat) (he : ev d 146 [.ref 100, .int (iI a0)] (mk m q (some w)) = vI v (mk m1 q1 (some w))) : ev (d + 1) 296 [.ref 100, .int (iI a0), .ref 391] (mk m q (some w)) = vI 0 (mk m1 q1 (some (vp_updL w 0 (fL v)))) := by
  refine Eq.trans (ev_at (by omega) q_296 rfl rfl rfl) ?_
  show gv d rR296 0 [some (.ref 100), some (.int (iI a0)), some (.ref 391), none] [] _ = _
  refine Eq.trans (k_ald2 rfl) ?_
  refine Eq.trans (k_con rfl) ?_
  refine Eq.trans (k_ald0 rfl) ?_
  refine Eq.trans (k_ild1 rfl) ?_
  refine Eq.trans (k_ivr rfl q_146 (rArg_v (As := [.int (iI a0)]) (rest := [.int (iI 0), .ref 391]) rfl rfl (by decide) s_100 rfl) he) ?_
  refine Eq.trans (k_i2l rfl) ?_
  refine Eq.trans (k_last rfl) ?_
  refine Eq.trans (k_go rfl rfl) ?_
  refine Eq.trans (k_con rfl) ?_
  exact k_rtI rfl rfl
theorem h_296x0 (d : Nat) (m : Nat → Nat → Int) (q : Nat → Nat → Option Nat) (w : Nat → Int64) {a0 : Int} (M' : rMem) (he : ev d 146 [.ref 100, .int (iI a0)] (mk m q (some w)) = some (.inr 0, (M', (1, 6)))) : ev (d + 1) 296 [.ref 100, .int (iI a0), .ref 391] (mk m q (some w)) = some (.inl (some (.int (iI ((1 : Nat) : Nat)))), (M', (1, 6))) := by
  refine Eq.trans (ev_at (by omega) q_296 rfl rfl rfl) ?_
  show gv d rR296 0 [some (.ref 100), some (.int (iI a0)), some (.ref 391), none] [] _ = _
  refine Eq.trans (k_ald2 rfl) ?_
  refine Eq.trans (k_con rfl) ?_
  refine Eq.trans (k_ald0 rfl) ?_
  refine Eq.trans (k_ild1 rfl) ?_
  exact k_ivx rfl q_146 (rArg_v (As := [.int (iI a0)]) (rest := [.int (iI 0), .ref 391]) rfl rfl (by decide) s_100 rfl) he rfl rfl rfl
theorem P_296 {a0 : Int} (ha0 : i32 a0) : cLW 296 254 [.int (iI a0)] fL := by
  refine cLW_th (c := 1) (by decide) (by decide) (K_fits ha0) (fun d m q w v m1 q1 he => h_296v d m q w v m1 q1 he) (fun d m q w e M' hh he => ?_)
  obtain rfl : e = 0 := by omega
  exact h_296x0 d m q w M' he
theorem h_297v (d : Nat) (m : Nat → Nat → Int) (q : Nat → Nat → Option Nat) (w : Nat → Int64) {a0 : Int} (v : Int) (m1 : Nat → Nat → Int) (q1 : Nat → Nat → Option Nat) (he : ev d 147 [.ref 100, .int (iI a0)] (mk m q (some w)) = vI v (mk m1 q1 (some w))) : ev (d + 1) 297 [.ref 100, .int (iI a0), .ref 391] (mk m q (some w)) = vI 0 (mk m1 q1 (some (vp_updL w 0 (fL v)))) := by
  refine Eq.trans (ev_at (by omega) q_297 rfl rfl rfl) ?_
  show gv d rR297 0 [some (.ref 100), some (.int (iI a0)), some (.ref 391), none] [] _ = _
  refine Eq.trans (k_ald2 rfl) ?_
  refine Eq.trans (k_con rfl) ?_
  refine Eq.trans (k_ald0 rfl) ?_
  refine Eq.trans (k_ild1 rfl) ?_
  refine Eq.trans (k_ivr rfl q_147 (rArg_v (As := [.int (iI a0)]) (rest := [.int (iI 0), .ref 391]) rfl rfl (by decide) s_100 rfl) he) ?_
  refine Eq.trans (k_i2l rfl) ?_
  refine Eq.trans (k_last rfl) ?_
  refine Eq.trans (k_go rfl rfl) ?_
  refine Eq.trans (k_con rfl) ?_
  exact k_rtI rfl rfl
theorem h_297x0 (d : Nat) (m : Nat → Nat → Int) (q : Nat → Nat → Option Nat) (w : Nat → Int64) {a0 : Int} (M' : rMem) (he : ev d 147 [.ref 100, .int (iI a0)] (mk m q (some w)) = some (.inr 0, (M', (1, 6)))) : ev (d + 1) 297 [.ref 100, .int (iI a0), .ref 391] (mk m q (some w)) = some (.inl (some (.int (iI ((1 : Nat) : Nat)))), (M', (1, 6))) := by
  refine Eq.trans (ev_at (by omega) q_297 rfl rfl rfl) ?_
  show gv d rR297 0 [some (.ref 100), some (.int (iI a0)), some (.ref 391), none] [] _ = _
  refine Eq.trans (k_ald2 rfl) ?_
  refine Eq.trans (k_con rfl) ?_
  refine Eq.trans (k_ald0 rfl) ?_
  refine Eq.trans (k_ild1 rfl) ?_
  exact k_ivx rfl q_147 (rArg_v (As := [.int (iI a0)]) (rest := [.int (iI 0), .ref 391]) rfl rfl (by decide) s_100 rfl) he rfl rfl rfl
theorem P_297 {a0 : Int} (ha0 : i32 a0) : cLW 297 257 [.int (iI a0)] fL := by
  refine cLW_th (c := 1) (by decide) (by decide) (K_look ha0) (fun d m q w v m1 q1 he => h_297v d m q w v m1 q1 he) (fun d m q w e M' hh he => ?_)
  obtain rfl : e = 0 := by omega
  exact h_297x0 d m q w M' he
theorem h_298v (d : Nat) (m : Nat → Nat → Int) (q : Nat → Nat → Option Nat) (w : Nat → Int64) {a0 a1 : Int} (v : Int) (m1 : Nat → Nat → Int) (q1 : Nat → Nat → Option Nat) (he : ev d 148 [.ref 100, .int (iI a0), .int (iI a1)] (mk m q (some w)) = vI v (mk m1 q1 (some w))) : ev (d + 1) 298 [.ref 100, .int (iI a0), .int (iI a1), .ref 391] (mk m q (some w)) = vI 0 (mk m1 q1 (some (vp_updL w 0 (fL v)))) := by
  refine Eq.trans (ev_at (by omega) q_298 rfl rfl rfl) ?_
  show gv d rR298 0 [some (.ref 100), some (.int (iI a0)), some (.int (iI a1)), some (.ref 391), none] [] _ = _
  refine Eq.trans (k_ald3 rfl) ?_
  refine Eq.trans (k_con rfl) ?_
  refine Eq.trans (k_ald0 rfl) ?_
  refine Eq.trans (k_ild1 rfl) ?_
  refine Eq.trans (k_ild2 rfl) ?_
  refine Eq.trans (k_ivr rfl q_148 (rArg_v (As := [.int (iI a0), .int (iI a1)]) (rest := [.int (iI 0), .ref 391]) rfl rfl (by decide) s_100 rfl) he) ?_
  refine Eq.trans (k_i2l rfl) ?_
  refine Eq.trans (k_last rfl) ?_
  refine Eq.trans (k_go rfl rfl) ?_
  refine Eq.trans (k_con rfl) ?_
  exact k_rtI rfl rfl
theorem h_298x0 (d : Nat) (m : Nat → Nat → Int) (q : Nat → Nat → Option Nat) (w : Nat → Int64) {a0 a1 : Int} (M' : rMem) (he : ev d 148 [.ref 100, .int (iI a0), .int (iI a1)] (mk m q (some w)) = some (.inr 0, (M', (1, 6)))) : ev (d + 1) 298 [.ref 100, .int (iI a0), .int (iI a1), .ref 391] (mk m q (some w)) = some (.inl (some (.int (iI ((1 : Nat) : Nat)))), (M', (1, 6))) := by
  refine Eq.trans (ev_at (by omega) q_298 rfl rfl rfl) ?_
  show gv d rR298 0 [some (.ref 100), some (.int (iI a0)), some (.int (iI a1)), some (.ref 391), none] [] _ = _
  refine Eq.trans (k_ald3 rfl) ?_
  refine Eq.trans (k_con rfl) ?_
  refine Eq.trans (k_ald0 rfl) ?_
  refine Eq.trans (k_ild1 rfl) ?_
  refine Eq.trans (k_ild2 rfl) ?_
  exact k_ivx rfl q_148 (rArg_v (As := [.int (iI a0), .int (iI a1)]) (rest := [.int (iI 0), .ref 391]) rfl rfl (by decide) s_100 rfl) he rfl rfl rfl
theorem P_298 {a0 a1 : Int} (ha0 : i32 a0) (ha1 : i32 a1) : cLW 298 258 [.int (iI a0), .int (iI a1)] fL := by
  refine cLW_th (c := 1) (by decide) (by decide) (K_ahead ha0 ha1) (fun d m q w v m1 q1 he => h_298v d m q w v m1 q1 he) (fun d m q w e M' hh he => ?_)
  obtain rfl : e = 0 := by omega
  exact h_298x0 d m q w M' he
theorem h_299v (d : Nat) (m : Nat → Nat → Int) (q : Nat → Nat → Option Nat) (w : Nat → Int64) {a0 : Int} (v : Int) (m1 : Nat → Nat → Int) (q1 : Nat → Nat → Option Nat) (he : ev d 149 [.ref 100, .int (iI a0)] (mk m q (some w)) = vI v (mk m1 q1 (some w))) : ev (d + 1) 299 [.ref 100, .int (iI a0), .ref 391] (mk m q (some w)) = vI 0 (mk m1 q1 (some (vp_updL w 0 (fL v)))) := by
  refine Eq.trans (ev_at (by omega) q_299 rfl rfl rfl) ?_
  show gv d rR299 0 [some (.ref 100), some (.int (iI a0)), some (.ref 391), none] [] _ = _
  refine Eq.trans (k_ald2 rfl) ?_
  refine Eq.trans (k_con rfl) ?_
  refine Eq.trans (k_ald0 rfl) ?_
  refine Eq.trans (k_ild1 rfl) ?_
  refine Eq.trans (k_ivr rfl q_149 (rArg_v (As := [.int (iI a0)]) (rest := [.int (iI 0), .ref 391]) rfl rfl (by decide) s_100 rfl) he) ?_
  refine Eq.trans (k_i2l rfl) ?_
  refine Eq.trans (k_last rfl) ?_
  refine Eq.trans (k_go rfl rfl) ?_
  refine Eq.trans (k_con rfl) ?_
  exact k_rtI rfl rfl
theorem h_299x0 (d : Nat) (m : Nat → Nat → Int) (q : Nat → Nat → Option Nat) (w : Nat → Int64) {a0 : Int} (M' : rMem) (he : ev d 149 [.ref 100, .int (iI a0)] (mk m q (some w)) = some (.inr 0, (M', (1, 6)))) : ev (d + 1) 299 [.ref 100, .int (iI a0), .ref 391] (mk m q (some w)) = some (.inl (some (.int (iI ((1 : Nat) : Nat)))), (M', (1, 6))) := by
  refine Eq.trans (ev_at (by omega) q_299 rfl rfl rfl) ?_
  show gv d rR299 0 [some (.ref 100), some (.int (iI a0)), some (.ref 391), none] [] _ = _
  refine Eq.trans (k_ald2 rfl) ?_
  refine Eq.trans (k_con rfl) ?_
  refine Eq.trans (k_ald0 rfl) ?_
  refine Eq.trans (k_ild1 rfl) ?_
  exact k_ivx rfl q_149 (rArg_v (As := [.int (iI a0)]) (rest := [.int (iI 0), .ref 391]) rfl rfl (by decide) s_100 rfl) he rfl rfl rfl
theorem P_299 {a0 : Int} (ha0 : i32 a0) : cLW 299 259 [.int (iI a0)] fL := by
  refine cLW_th (c := 1) (by decide) (by decide) (K_lasts ha0) (fun d m q w v m1 q1 he => h_299v d m q w v m1 q1 he) (fun d m q w e M' hh he => ?_)
  obtain rfl : e = 0 := by omega
  exact h_299x0 d m q w M' he
theorem h_300v (d : Nat) (m : Nat → Nat → Int) (q : Nat → Nat → Option Nat) (w : Nat → Int64) {a0 a1 a2 : Int} (v : Int) (m1 : Nat → Nat → Int) (q1 : Nat → Nat → Option Nat) (he : ev d 152 [.ref 100, .int (iI a0), .int (iI a1), .int (iI a2)] (mk m q (some w)) = vI v (mk m1 q1 (some w))) : ev (d + 1) 300 [.ref 100, .int (iI a0), .int (iI a1), .int (iI a2), .ref 391] (mk m q (some w)) = vI 0 (mk m1 q1 (some (vp_updL w 0 (fL v)))) := by
  refine Eq.trans (ev_at (by omega) q_300 rfl rfl rfl) ?_
  show gv d rR300 0 [some (.ref 100), some (.int (iI a0)), some (.int (iI a1)), some (.int (iI a2)), some (.ref 391), none] [] _ = _
  refine Eq.trans (k_ald4 rfl) ?_
  refine Eq.trans (k_con rfl) ?_
  refine Eq.trans (k_ald0 rfl) ?_
  refine Eq.trans (k_ild1 rfl) ?_
  refine Eq.trans (k_ild2 rfl) ?_
  refine Eq.trans (k_ild3 rfl) ?_
  refine Eq.trans (k_ivr rfl q_152 (rArg_v (As := [.int (iI a0), .int (iI a1), .int (iI a2)]) (rest := [.int (iI 0), .ref 391]) rfl rfl (by decide) s_100 rfl) he) ?_
  refine Eq.trans (k_i2l rfl) ?_
  refine Eq.trans (k_last rfl) ?_
  refine Eq.trans (k_go rfl rfl) ?_
  refine Eq.trans (k_con rfl) ?_
  exact k_rtI rfl rfl
theorem h_300x0 (d : Nat) (m : Nat → Nat → Int) (q : Nat → Nat → Option Nat) (w : Nat → Int64) {a0 a1 a2 : Int} (M' : rMem) (he : ev d 152 [.ref 100, .int (iI a0), .int (iI a1), .int (iI a2)] (mk m q (some w)) = some (.inr 0, (M', (1, 6)))) : ev (d + 1) 300 [.ref 100, .int (iI a0), .int (iI a1), .int (iI a2), .ref 391] (mk m q (some w)) = some (.inl (some (.int (iI ((1 : Nat) : Nat)))), (M', (1, 6))) := by
  refine Eq.trans (ev_at (by omega) q_300 rfl rfl rfl) ?_
  show gv d rR300 0 [some (.ref 100), some (.int (iI a0)), some (.int (iI a1)), some (.int (iI a2)), some (.ref 391), none] [] _ = _
  refine Eq.trans (k_ald4 rfl) ?_
  refine Eq.trans (k_con rfl) ?_
  refine Eq.trans (k_ald0 rfl) ?_
  refine Eq.trans (k_ild1 rfl) ?_
  refine Eq.trans (k_ild2 rfl) ?_
  refine Eq.trans (k_ild3 rfl) ?_
  exact k_ivx rfl q_152 (rArg_v (As := [.int (iI a0), .int (iI a1), .int (iI a2)]) (rest := [.int (iI 0), .ref 391]) rfl rfl (by decide) s_100 rfl) he rfl rfl rfl
theorem P_300 {a0 a1 a2 : Int} (ha0 : i32 a0) (ha1 : i32 a1) (ha2 : i32 a2) : cLW 300 261 [.int (iI a0), .int (iI a1), .int (iI a2)] fL := by
  refine cLW_th (c := 1) (by decide) (by decide) (K_sellers ha0 ha1 ha2) (fun d m q w v m1 q1 he => h_300v d m q w v m1 q1 he) (fun d m q w e M' hh he => ?_)
  obtain rfl : e = 0 := by omega
  exact h_300x0 d m q w M' he
theorem h_301v (d : Nat) (m : Nat → Nat → Int) (q : Nat → Nat → Option Nat) (w : Nat → Int64) {a0 a1 a2 a3 : Int} (v : Int) (m1 : Nat → Nat → Int) (q1 : Nat → Nat → Option Nat) (he : ev d 153 [.ref 100, .int (iI a0), .int (iI a1), .int (iI a2), .int (iI a3)] (mk m q (some w)) = vI v (mk m1 q1 (some w))) : ev (d + 1) 301 [.ref 100, .int (iI a0), .int (iI a1), .int (iI a2), .int (iI a3), .ref 391] (mk m q (some w)) = vI 0 (mk m1 q1 (some (vp_updL w 0 (fL v)))) := by
  refine Eq.trans (ev_at (by omega) q_301 rfl rfl rfl) ?_
  show gv d rR301 0 [some (.ref 100), some (.int (iI a0)), some (.int (iI a1)), some (.int (iI a2)), some (.int (iI a3)), some (.ref 391), none] [] _ = _
  refine Eq.trans (k_ald5 rfl) ?_
  refine Eq.trans (k_con rfl) ?_
  refine Eq.trans (k_ald0 rfl) ?_
  refine Eq.trans (k_ild1 rfl) ?_
  refine Eq.trans (k_ild2 rfl) ?_
  refine Eq.trans (k_ild3 rfl) ?_
  refine Eq.trans (k_ild4 rfl) ?_
  refine Eq.trans (k_ivr rfl q_153 (rArg_v (As := [.int (iI a0), .int (iI a1), .int (iI a2), .int (iI a3)]) (rest := [.int (iI 0), .ref 391]) rfl rfl (by decide) s_100 rfl) he) ?_
  refine Eq.trans (k_i2l rfl) ?_
  refine Eq.trans (k_last rfl) ?_
  refine Eq.trans (k_go rfl rfl) ?_
  refine Eq.trans (k_con rfl) ?_
  exact k_rtI rfl rfl
theorem h_301x0 (d : Nat) (m : Nat → Nat → Int) (q : Nat → Nat → Option Nat) (w : Nat → Int64) {a0 a1 a2 a3 : Int} (M' : rMem) (he : ev d 153 [.ref 100, .int (iI a0), .int (iI a1), .int (iI a2), .int (iI a3)] (mk m q (some w)) = some (.inr 0, (M', (1, 6)))) : ev (d + 1) 301 [.ref 100, .int (iI a0), .int (iI a1), .int (iI a2), .int (iI a3), .ref 391] (mk m q (some w)) = some (.inl (some (.int (iI ((1 : Nat) : Nat)))), (M', (1, 6))) := by
  refine Eq.trans (ev_at (by omega) q_301 rfl rfl rfl) ?_
  show gv d rR301 0 [some (.ref 100), some (.int (iI a0)), some (.int (iI a1)), some (.int (iI a2)), some (.int (iI a3)), some (.ref 391), none] [] _ = _
  refine Eq.trans (k_ald5 rfl) ?_
  refine Eq.trans (k_con rfl) ?_
  refine Eq.trans (k_ald0 rfl) ?_
  refine Eq.trans (k_ild1 rfl) ?_
  refine Eq.trans (k_ild2 rfl) ?_
  refine Eq.trans (k_ild3 rfl) ?_
  refine Eq.trans (k_ild4 rfl) ?_
  exact k_ivx rfl q_153 (rArg_v (As := [.int (iI a0), .int (iI a1), .int (iI a2), .int (iI a3)]) (rest := [.int (iI 0), .ref 391]) rfl rfl (by decide) s_100 rfl) he rfl rfl rfl
theorem P_301 {a0 a1 a2 a3 : Int} (ha0 : i32 a0) (ha1 : i32 a1) (ha2 : i32 a2) (ha3 : i32 a3) : cLW 301 266 [.int (iI a0), .int (iI a1), .int (iI a2), .int (iI a3)] fL := by
  refine cLW_th (c := 1) (by decide) (by decide) (K_year ha0 ha1 ha2 ha3) (fun d m q w v m1 q1 he => h_301v d m q w v m1 q1 he) (fun d m q w e M' hh he => ?_)
  obtain rfl : e = 0 := by omega
  exact h_301x0 d m q w M' he
theorem h_302v (d : Nat) (m : Nat → Nat → Int) (q : Nat → Nat → Option Nat) (w : Nat → Int64) {a0 a1 a2 a3 a4 : Int} (v : Int) (m1 : Nat → Nat → Int) (q1 : Nat → Nat → Option Nat) (he : ev d 154 [.ref 100, .int (iI a0), .int (iI a1), .int (iI a2), .int (iI a3), .int (iI a4)] (mk m q (some w)) = vI v (mk m1 q1 (some w))) : ev (d + 1) 302 [.ref 100, .int (iI a0), .int (iI a1), .int (iI a2), .int (iI a3), .int (iI a4), .ref 391] (mk m q (some w)) = vI 0 (mk m1 q1 (some (vp_updL w 0 (fL v)))) := by
  refine Eq.trans (ev_at (by omega) q_302 rfl rfl rfl) ?_
  show gv d rR302 0 [some (.ref 100), some (.int (iI a0)), some (.int (iI a1)), some (.int (iI a2)), some (.int (iI a3)), some (.int (iI a4)), some (.ref 391), none] [] _ = _
  refine Eq.trans (k_ald6 rfl) ?_
  refine Eq.trans (k_con rfl) ?_
  refine Eq.trans (k_ald0 rfl) ?_
  refine Eq.trans (k_ild1 rfl) ?_
  refine Eq.trans (k_ild2 rfl) ?_
  refine Eq.trans (k_ild3 rfl) ?_
  refine Eq.trans (k_ild4 rfl) ?_
  refine Eq.trans (k_ild5 rfl) ?_
  refine Eq.trans (k_ivr rfl q_154 (rArg_v (As := [.int (iI a0), .int (iI a1), .int (iI a2), .int (iI a3), .int (iI a4)]) (rest := [.int (iI 0), .ref 391]) rfl rfl (by decide) s_100 rfl) he) ?_
  refine Eq.trans (k_i2l rfl) ?_
  refine Eq.trans (k_last rfl) ?_
  refine Eq.trans (k_go rfl rfl) ?_
  refine Eq.trans (k_con rfl) ?_
  exact k_rtI rfl rfl
theorem h_302x0 (d : Nat) (m : Nat → Nat → Int) (q : Nat → Nat → Option Nat) (w : Nat → Int64) {a0 a1 a2 a3 a4 : Int} (M' : rMem) (he : ev d 154 [.ref 100, .int (iI a0), .int (iI a1), .int (iI a2), .int (iI a3), .int (iI a4)] (mk m q (some w)) = some (.inr 0, (M', (1, 6)))) : ev (d + 1) 302 [.ref 100, .int (iI a0), .int (iI a1), .int (iI a2), .int (iI a3), .int (iI a4), .ref 391] (mk m q (some w)) = some (.inl (some (.int (iI ((1 : Nat) : Nat)))), (M', (1, 6))) := by
  refine Eq.trans (ev_at (by omega) q_302 rfl rfl rfl) ?_
  show gv d rR302 0 [some (.ref 100), some (.int (iI a0)), some (.int (iI a1)), some (.int (iI a2)), some (.int (iI a3)), some (.int (iI a4)), some (.ref 391), none] [] _ = _
  refine Eq.trans (k_ald6 rfl) ?_
  refine Eq.trans (k_con rfl) ?_
  refine Eq.trans (k_ald0 rfl) ?_
  refine Eq.trans (k_ild1 rfl) ?_
  refine Eq.trans (k_ild2 rfl) ?_
  refine Eq.trans (k_ild3 rfl) ?_
  refine Eq.trans (k_ild4 rfl) ?_
  refine Eq.trans (k_ild5 rfl) ?_
  exact k_ivx rfl q_154 (rArg_v (As := [.int (iI a0), .int (iI a1), .int (iI a2), .int (iI a3), .int (iI a4)]) (rest := [.int (iI 0), .ref 391]) rfl rfl (by decide) s_100 rfl) he rfl rfl rfl
theorem P_302 {a0 a1 a2 a3 a4 : Int} (ha0 : i32 a0) (ha1 : i32 a1) (ha2 : i32 a2) (ha3 : i32 a3) (ha4 : i32 a4) : cLW 302 267 [.int (iI a0), .int (iI a1), .int (iI a2), .int (iI a3), .int (iI a4)] fL := by
  refine cLW_th (c := 1) (by decide) (by decide) (K_span ha0 ha1 ha2 ha3 ha4) (fun d m q w v m1 q1 he => h_302v d m q w v m1 q1 he) (fun d m q w e M' hh he => ?_)
  obtain rfl : e = 0 := by omega
  exact h_302x0 d m q w M' he
