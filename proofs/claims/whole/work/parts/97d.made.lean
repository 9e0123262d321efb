/-! ===== the constructors ===== -/
def aft (o : Option rRes) : rMem := match o with
  | some (_, (M, _)) => M
  | none => (0, fun _ => none)
def M1 : rMem := rAdd ((100, fun _ => none) : rMem) (.inr (10, rDf 10))
def r1 : Option rRes := rRun 20 3000 114 [.ref 100] M1
def okR (o : Option rRes) (n : Nat) : Bool := match o with
  | some (.inl none, (M, (k, c))) => Nat.beq M.1 n && (Nat.ble k 1000 && Nat.ble c 100000)
  | _ => false
set_option maxRecDepth 100000 in
theorem r1_ok : okR r1 363 = true := by decide +kernel
def M3 : rMem := rAdd (aft r1) (.inr (11, rDf 11))
def r2 : Option rRes := rRun 20 3000 165 [.ref 363] M3
set_option maxRecDepth 100000 in
theorem r2_ok : okR r2 391 = true := by decide +kernel
set_option maxRecDepth 100000 in
theorem r2_sh : (List.range 291).all (fun i => chC (rShp (100 + i)) ((aft r2).2 (100 + i))) = true := by decide +kernel
