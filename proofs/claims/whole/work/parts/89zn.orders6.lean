/-! ===== all orders of six, and of seven by their first ===== -/
theorem chk_6 : chk 6 = true := by decide +kernel
def cE (n : Nat) : List Nat → List (List Nat) → Option (List Nat) → Bool
  | l, [], none => (nxf n (gf l)).isNone
  | l, [], some e => adj n l e
  | l, l2 :: xs, e => adj n l l2 && cE n l2 xs e
theorem cE_none {n : Nat} : ∀ (xs : List (List Nat)) (l : List Nat), cE n l xs none = chn n l xs := by
  intro xs
  induction xs with
  | nil => exact fun l => rfl
  | cons x xs ih =>
    intro l
    show (adj n l x && cE n x xs none) = (adj n l x && chn n x xs)
    rw [ih]
theorem cE_app {n : Nat} {l2 : List Nat} {ys : List (List Nat)} {e : Option (List Nat)} (h2 : cE n l2 ys e = true) : ∀ (xs : List (List Nat)) (l : List Nat), cE n l xs (some l2) = true → cE n l (xs ++ l2 :: ys) e = true := by
  intro xs
  induction xs with
  | nil =>
    intro l h
    show (adj n l l2 && cE n l2 ys e) = true
    rw [show adj n l l2 = true from h, h2]
    rfl
  | cons x xs ih =>
    intro l h
    have h : (adj n l x && cE n x xs (some l2)) = true := h
    rw [Bool.and_eq_true] at h
    show (adj n l x && cE n x (xs ++ l2 :: ys) e) = true
    rw [h.1, ih x h.2]
    rfl
def ch7 (x : Nat) : List (List Nat) := (pml 6 ((List.range 7).erase x)).map (fun l => x :: l)
def ck7 (x : Nat) (h : List Nat) (e : Option (List Nat)) : Bool := match ch7 x with
  | [] => false
  | l :: xs => (l == h) && cE 7 l xs e && (l :: xs).all (okL 7)
theorem ck7_0 : ck7 0 [0, 1, 2, 3, 4, 5, 6] (some [1, 0, 2, 3, 4, 5, 6]) = true := by decide +kernel
