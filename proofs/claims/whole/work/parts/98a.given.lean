/-! ===== the start: what the Statement gives of constants ===== -/
def swW : List Jvm.Cond := flatC (Jvm.Cond.and given_1 narrow_1)
def swIn (w : Jvm.Cond) (i : Nat) : Bool := decide (swW[i]? = some w)
theorem swIn_mem {w : Jvm.Cond} {i : Nat} (h : swIn w i = true) : w ∈ swW := List.mem_of_getElem? (of_decide_eq_true h)
/-- the texts: whose, its entry, the place of its words -/
def swT : List (String × (Nat × Nat)) := [("FanHouse$Step", (74, 584)), ("FanHouse$Step", (98, 545)), ("FanHouseModel", (261, 409)), ("FanHouseModel", (266, 419)), ("FanHouse$Step", (92, 635)), ("FanHouse$Step", (64, 560)), ("FanHouseModel", (254, 455)), ("FanHouse$Step", (84, 612)), ("FanHouse$Step", (87, 617)), ("FanHouse$Step", (89, 628)), ("FanHouseModel", (258, 477)), ("FanHouse$Step", (79, 597)), ("FanHouseModel", (193, 389)), ("FanHouse$Step", (95, 643)), ("FanHouse$Step", (72, 575)), ("FanHouseModel", (187, 379)), ("FanHouse$Step", (77, 588)), ("FanHouse$Step", (100, 555)), ("FanHouse$Step", (82, 603)), ("FanHouseModel", (256, 466)), ("FanHouseModel", (248, 428)), ("FanHouse$Step", (66, 569)), ("FanHouseModel", (252, 446)), ("FanHouseModel", (250, 437))]
def swQ (i : Nat) : String × (Nat × Nat) := swT.getD i ("", (0, 0))
def swTm (i : Nat) : Jvm.Term := .string (swQ i).1 (swQ i).2.1
def swVl (i : Nat) : Jvm.Term := .field (swTm i) "java/lang/String" "value" "[B"
def swLn (i : Nat) : List Nat := rTx.getD i []
def swOkT (i : Nat) : Bool := swIn (.exactly (swTm i) "java/lang/String") (swQ i).2.2 && (swIn (.eq (.field (swTm i) "java/lang/String" "coder" "B") (.int 0)) ((swQ i).2.2 + 1) && (swIn (.arrayOf (swVl i) .byte) ((swQ i).2.2 + 2) && (swIn (.eq (.length (swVl i)) (.int (Int32.ofNat (swLn i).length))) ((swQ i).2.2 + 3) &&
  (List.range (swLn i).length).all (fun j => swIn (.eq (.elem (swVl i) (.int (Int32.ofNat j))) (.int (Int32.ofNat ((swLn i).getD j 0)))) ((swQ i).2.2 + 4 + j)))))
set_option maxRecDepth 100000 in
theorem swT_ok : (List.range 24).all swOkT = true := by decide +kernel
/-- the enum's constants -/
def swEt (i : Nat) : Jvm.Term := .static "FanHouse$Step" (rEnm.getD i "") "LFanHouse$Step;"
def swOkE (i : Nat) : Bool := swIn (.eq (.elem (.static "FanHouse$Step" "ALL" "[LFanHouse$Step;") (.int (Int32.ofNat i))) (swEt i)) (16 + i) && (decide (Jvm.Cond.exactly (swEt i) "FanHouse$Step" ∈ swW) && (decide (Jvm.Cond.eq (.field (swEt i) "java/lang/Enum" "ordinal" "I") (.int (Int32.ofNat i)) ∈ swW) &&
  (decide (Jvm.Cond.eq (.field (swEt i) "FanHouse$Step" "word" "Ljava/lang/String;") (swTm (rEw.getD i 0 - 10)) ∈ swW) && (decide (Jvm.Cond.eq (.field (swEt i) "FanHouse$Step" "numbers" "Ljava/lang/String;") (swTm (rEn.getD i 0 - 10)) ∈ swW) &&
  (List.range i).all (fun j => decide (Jvm.Cond.not (.eq (swEt i) (swEt j)) ∈ swW) || decide (Jvm.Cond.not (.eq (swEt j) (swEt i)) ∈ swW))))))
set_option maxRecDepth 100000 in
theorem swE_ok : (List.range 8).all swOkE = true := by decide +kernel
/-- the other places of the texts -/
def swOkL (q : Nat × Nat × Nat × Nat × Nat) : Bool := if q.2.2.1 = 1 then (match rKn[q.1]? with
    | some own => decide (10 ≤ q.2.2.2.1 ∧ q.2.2.2.1 < 34) && (decide (Jvm.Term.string own q.2.1 = swTm (q.2.2.2.1 - 10)) || decide (Jvm.Cond.eq (.string own q.2.1) (swTm (q.2.2.2.1 - 10)) ∈ swW))
    | none => false) else true
set_option maxRecDepth 100000 in
theorem swL_ok : rLt.all swOkL = true := by decide +kernel
/-- the array of the enum, the switch map, statics -/
def swS : List (Nat × Jvm.Cond) := [(4, .isRef (.static "java/lang/Throwable" "UNASSIGNED_STACK" "[Ljava/lang/StackTraceElement;")), (5, .isRef (.static "java/lang/Throwable" "SUPPRESSED_SENTINEL" "Ljava/util/List;")), (6, .eq (.static "java/lang/String" "COMPACT_STRINGS" "Z") (.int 1)), (7, .isRef (.static "jdk/internal/util/Preconditions" "SIOOBE_FORMATTER" "Ljava/util/function/BiFunction;")),
  (13, .arrayOf (.static "FanHouse$Step" "ALL" "[LFanHouse$Step;") (.object "FanHouse$Step")), (14, .eq (.length (.static "FanHouse$Step" "ALL" "[LFanHouse$Step;")) (.int 8)), (29, .arrayOf (.static "FanHouse$1" "$SwitchMap$FanHouse$Step" "[I") .int), (30, .eq (.length (.static "FanHouse$1" "$SwitchMap$FanHouse$Step" "[I")) (.int 8)),
  (187, .exactly (.string "FanHouse" 359) "java/lang/String"), (344, .exactly (.string "FanHouse" 366) "java/lang/String"), (121, .not (.castable "java/lang/IllegalArgumentException" "java/util/NoSuchElementException"))]
set_option maxRecDepth 100000 in
theorem swS_ok : swS.all (fun q => swIn q.2 q.1) = true := by decide +kernel
set_option maxRecDepth 100000 in
theorem swM_ok : (List.range 8).all (fun j => swIn (.eq (.elem (.static "FanHouse$1" "$SwitchMap$FanHouse$Step" "[I") (.int (Int32.ofNat j))) (.int (Int32.ofNat (rSw.getD j 0)))) (31 + j)) = true := by decide +kernel
/-- words of the tables -/
def swV : List Jvm.Cond := [.laysStatic "FanHouse$Step" "ALL" "[LFanHouse$Step;", .laysStatic "FanHouse$Step" "AGAIN" "LFanHouse$Step;", .laysStatic "FanHouse$1" "$SwitchMap$FanHouse$Step" "[I", .laysStatic "java/lang/String" "COMPACT_STRINGS" "Z", .laysStatic "jdk/internal/util/Preconditions" "SIOOBE_FORMATTER" "Ljava/util/function/BiFunction;", .laysStatic Bundle.tN "UNASSIGNED_STACK" Bundle.steD, .laysStatic Bundle.tN "SUPPRESSED_SENTINEL" Bundle.listD,
  .initialized "FanHouse$Step", .initialized "FanHouse$1", .initialized "java/lang/String", .initialized "jdk/internal/util/Preconditions", .initialized Bundle.tN, .arrayOver (.object "FanHouse$Keep"), .arrayOver (.object "FanHouse$Picture"), .arrayOver (.object "FanHouse$Fan"), .arrayOver (.object "FanHouse$Step"),
  .stringRef "FanHouse" 359 "an argument is outside what the document allows", .stringRef "FanHouse" 366 "there is no such stick or place", .castable "java/lang/IllegalArgumentException" "java/lang/IllegalArgumentException", .castable "java/util/NoSuchElementException" "java/util/NoSuchElementException"]
set_option maxRecDepth 100000 in
theorem swV_ok : ∀ w ∈ swV, w ∈ lw_tbl := by decide +kernel
set_option maxRecDepth 100000 in
theorem swC_ok : ∀ q ∈ rCl, Jvm.Cond.instantiable q.1 q.2.2 ∈ lw_tbl := by decide +kernel
theorem swN_ok : ∀ w ∈ rNw, w.onTables = true := by decide +kernel
