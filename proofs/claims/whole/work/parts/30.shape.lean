/-! ===== memories by functions: numbers m, references q, the row of longs w ===== -/
def iI (z : Int) : Int32 := Int32.ofInt z
abbrev rSq : Type := Nat × List (Nat × Nat)
abbrev aS (t n b k : Nat) : rSq := (0, [(t, n), (b, k)])
abbrev oS (ci : Nat) (F : List (Nat × Nat)) : rSq := (1, (ci, 0) :: F)
abbrev fN : Nat × Nat := (0, 0)
abbrev fR (c : Nat) : Nat × Nat := (1, c)
abbrev fV : Nat × Nat := (2, 0)
/-- what is made ahead of the first call, by ids from 100 on: rows (kind, length, first reference, step), objects (class, fields: number, fixed reference, other reference) -/
def rShL : List rSq := [
  oS 10 [fR 101, fR 103, fR 107, fR 160, fR 161, fR 164, fR 171, fR 177, fR 181, fV, fV, fV, fV, fV, fN, fN, fN, fN],
  oS 6 [fR 102, fN, fN, fN, fN, fN],
  aS 0 600 0 0,
  oS 8 [fR 104, fR 105, fR 106, fN, fN, fN, fN],
  aS 5 150 0 0,
  aS 0 450 0 0,
  aS 0 150 0 0,
  oS 3 [fR 108, fR 111, fN],
  oS 1 [fN, fN, fN, fN, fN, fN, fN, fN, fN, fR 109, fR 110],
  aS 0 7 0 0,
  aS 0 28 0 0,
  aS 4 16 112 3,
  oS 1 [fN, fN, fN, fN, fN, fN, fN, fN, fN, fR 113, fR 114],
  aS 0 7 0 0,
  aS 0 28 0 0,
  oS 1 [fN, fN, fN, fN, fN, fN, fN, fN, fN, fR 116, fR 117],
  aS 0 7 0 0,
  aS 0 28 0 0,
  oS 1 [fN, fN, fN, fN, fN, fN, fN, fN, fN, fR 119, fR 120],
  aS 0 7 0 0,
  aS 0 28 0 0,
  oS 1 [fN, fN, fN, fN, fN, fN, fN, fN, fN, fR 122, fR 123],
  aS 0 7 0 0,
  aS 0 28 0 0,
  oS 1 [fN, fN, fN, fN, fN, fN, fN, fN, fN, fR 125, fR 126],
  aS 0 7 0 0,
  aS 0 28 0 0,
  oS 1 [fN, fN, fN, fN, fN, fN, fN, fN, fN, fR 128, fR 129],
  aS 0 7 0 0,
  aS 0 28 0 0,
  oS 1 [fN, fN, fN, fN, fN, fN, fN, fN, fN, fR 131, fR 132],
  aS 0 7 0 0,
  aS 0 28 0 0,
  oS 1 [fN, fN, fN, fN, fN, fN, fN, fN, fN, fR 134, fR 135],
  aS 0 7 0 0,
  aS 0 28 0 0,
  oS 1 [fN, fN, fN, fN, fN, fN, fN, fN, fN, fR 137, fR 138],
  aS 0 7 0 0,
  aS 0 28 0 0,
  oS 1 [fN, fN, fN, fN, fN, fN, fN, fN, fN, fR 140, fR 141],
  aS 0 7 0 0,
  aS 0 28 0 0,
  oS 1 [fN, fN, fN, fN, fN, fN, fN, fN, fN, fR 143, fR 144],
  aS 0 7 0 0,
  aS 0 28 0 0,
  oS 1 [fN, fN, fN, fN, fN, fN, fN, fN, fN, fR 146, fR 147],
  aS 0 7 0 0,
  aS 0 28 0 0,
  oS 1 [fN, fN, fN, fN, fN, fN, fN, fN, fN, fR 149, fR 150],
  aS 0 7 0 0,
  aS 0 28 0 0,
  oS 1 [fN, fN, fN, fN, fN, fN, fN, fN, fN, fR 152, fR 153],
  aS 0 7 0 0,
  aS 0 28 0 0,
  oS 1 [fN, fN, fN, fN, fN, fN, fN, fN, fN, fR 155, fR 156],
  aS 0 7 0 0,
  aS 0 28 0 0,
  oS 1 [fN, fN, fN, fN, fN, fN, fN, fN, fN, fR 158, fR 159],
  aS 0 7 0 0,
  aS 0 28 0 0,
  aS 2 3 200 53,
  oS 1 [fN, fN, fN, fN, fN, fN, fN, fN, fN, fR 162, fR 163],
  aS 0 7 0 0,
  aS 0 28 0 0,
  oS 7 [fR 165, fN, fR 168, fR 169, fR 170, fN],
  oS 1 [fN, fN, fN, fN, fN, fN, fN, fN, fN, fR 166, fR 167],
  aS 0 7 0 0,
  aS 0 28 0 0,
  aS 0 49 0 0,
  aS 0 128 0 0,
  aS 0 7 0 0,
  oS 2 [fR 172, fR 175, fR 176, fN, fN, fN],
  oS 1 [fN, fN, fN, fN, fN, fN, fN, fN, fN, fR 173, fR 174],
  aS 0 7 0 0,
  aS 0 28 0 0,
  aS 0 28 0 0,
  aS 0 16 0 0,
  oS 9 [fR 178, fN, fN],
  oS 1 [fN, fN, fN, fN, fN, fN, fN, fN, fN, fR 179, fR 180],
  aS 0 7 0 0,
  aS 0 28 0 0,
  aS 3 2 0 0,
  oS 4 [fR 183, fR 184, fR 185, fN],
  aS 0 150 0 0,
  aS 0 150 0 0,
  aS 0 7 0 0,
  oS 4 [fR 187, fR 188, fR 189, fN],
  aS 0 150 0 0,
  aS 0 150 0 0,
  aS 0 7 0 0,
  oS 5 [fR 191, fN],
  aS 0 7 0 0,
  oS 0 [fR 193, fR 194, fR 195, fN],
  aS 0 7 0 0,
  aS 0 7 0 0,
  aS 0 7 0 0,
  oS 0 [fR 197, fR 198, fR 199, fN],
  aS 0 7 0 0,
  aS 0 7 0 0,
  aS 0 7 0 0,
  oS 3 [fR 201, fR 204, fN],
  oS 1 [fN, fN, fN, fN, fN, fN, fN, fN, fN, fR 202, fR 203],
  aS 0 7 0 0,
  aS 0 28 0 0,
  aS 4 16 205 3,
  oS 1 [fN, fN, fN, fN, fN, fN, fN, fN, fN, fR 206, fR 207],
  aS 0 7 0 0,
  aS 0 28 0 0,
  oS 1 [fN, fN, fN, fN, fN, fN, fN, fN, fN, fR 209, fR 210],
  aS 0 7 0 0,
  aS 0 28 0 0,
  oS 1 [fN, fN, fN, fN, fN, fN, fN, fN, fN, fR 212, fR 213],
  aS 0 7 0 0,
  aS 0 28 0 0,
  oS 1 [fN, fN, fN, fN, fN, fN, fN, fN, fN, fR 215, fR 216],
  aS 0 7 0 0,
  aS 0 28 0 0,
  oS 1 [fN, fN, fN, fN, fN, fN, fN, fN, fN, fR 218, fR 219],
  aS 0 7 0 0,
  aS 0 28 0 0,
  oS 1 [fN, fN, fN, fN, fN, fN, fN, fN, fN, fR 221, fR 222],
  aS 0 7 0 0,
  aS 0 28 0 0,
  oS 1 [fN, fN, fN, fN, fN, fN, fN, fN, fN, fR 224, fR 225],
  aS 0 7 0 0,
  aS 0 28 0 0,
  oS 1 [fN, fN, fN, fN, fN, fN, fN, fN, fN, fR 227, fR 228],
  aS 0 7 0 0,
  aS 0 28 0 0,
  oS 1 [fN, fN, fN, fN, fN, fN, fN, fN, fN, fR 230, fR 231],
  aS 0 7 0 0,
  aS 0 28 0 0,
  oS 1 [fN, fN, fN, fN, fN, fN, fN, fN, fN, fR 233, fR 234],
  aS 0 7 0 0,
  aS 0 28 0 0,
  oS 1 [fN, fN, fN, fN, fN, fN, fN, fN, fN, fR 236, fR 237],
  aS 0 7 0 0,
  aS 0 28 0 0,
  oS 1 [fN, fN, fN, fN, fN, fN, fN, fN, fN, fR 239, fR 240],
  aS 0 7 0 0,
  aS 0 28 0 0,
  oS 1 [fN, fN, fN, fN, fN, fN, fN, fN, fN, fR 242, fR 243],
  aS 0 7 0 0,
  aS 0 28 0 0,
  oS 1 [fN, fN, fN, fN, fN, fN, fN, fN, fN, fR 245, fR 246],
  aS 0 7 0 0,
  aS 0 28 0 0,
  oS 1 [fN, fN, fN, fN, fN, fN, fN, fN, fN, fR 248, fR 249],
  aS 0 7 0 0,
  aS 0 28 0 0,
  oS 1 [fN, fN, fN, fN, fN, fN, fN, fN, fN, fR 251, fR 252],
  aS 0 7 0 0,
  aS 0 28 0 0,
  oS 3 [fR 254, fR 257, fN],
  oS 1 [fN, fN, fN, fN, fN, fN, fN, fN, fN, fR 255, fR 256],
  aS 0 7 0 0,
  aS 0 28 0 0,
  aS 4 16 258 3,
  oS 1 [fN, fN, fN, fN, fN, fN, fN, fN, fN, fR 259, fR 260],
  aS 0 7 0 0,
  aS 0 28 0 0,
  oS 1 [fN, fN, fN, fN, fN, fN, fN, fN, fN, fR 262, fR 263],
  aS 0 7 0 0,
  aS 0 28 0 0,
  oS 1 [fN, fN, fN, fN, fN, fN, fN, fN, fN, fR 265, fR 266],
  aS 0 7 0 0,
  aS 0 28 0 0,
  oS 1 [fN, fN, fN, fN, fN, fN, fN, fN, fN, fR 268, fR 269],
  aS 0 7 0 0,
  aS 0 28 0 0,
  oS 1 [fN, fN, fN, fN, fN, fN, fN, fN, fN, fR 271, fR 272],
  aS 0 7 0 0,
  aS 0 28 0 0,
  oS 1 [fN, fN, fN, fN, fN, fN, fN, fN, fN, fR 274, fR 275],
  aS 0 7 0 0,
  aS 0 28 0 0,
  oS 1 [fN, fN, fN, fN, fN, fN, fN, fN, fN, fR 277, fR 278],
  aS 0 7 0 0,
  aS 0 28 0 0,
  oS 1 [fN, fN, fN, fN, fN, fN, fN, fN, fN, fR 280, fR 281],
  aS 0 7 0 0,
  aS 0 28 0 0,
  oS 1 [fN, fN, fN, fN, fN, fN, fN, fN, fN, fR 283, fR 284],
  aS 0 7 0 0,
  aS 0 28 0 0,
  oS 1 [fN, fN, fN, fN, fN, fN, fN, fN, fN, fR 286, fR 287],
  aS 0 7 0 0,
  aS 0 28 0 0,
  oS 1 [fN, fN, fN, fN, fN, fN, fN, fN, fN, fR 289, fR 290],
  aS 0 7 0 0,
  aS 0 28 0 0,
  oS 1 [fN, fN, fN, fN, fN, fN, fN, fN, fN, fR 292, fR 293],
  aS 0 7 0 0,
  aS 0 28 0 0,
  oS 1 [fN, fN, fN, fN, fN, fN, fN, fN, fN, fR 295, fR 296],
  aS 0 7 0 0,
  aS 0 28 0 0,
  oS 1 [fN, fN, fN, fN, fN, fN, fN, fN, fN, fR 298, fR 299],
  aS 0 7 0 0,
  aS 0 28 0 0,
  oS 1 [fN, fN, fN, fN, fN, fN, fN, fN, fN, fR 301, fR 302],
  aS 0 7 0 0,
  aS 0 28 0 0,
  oS 1 [fN, fN, fN, fN, fN, fN, fN, fN, fN, fR 304, fR 305],
  aS 0 7 0 0,
  aS 0 28 0 0,
  oS 3 [fR 307, fR 310, fN],
  oS 1 [fN, fN, fN, fN, fN, fN, fN, fN, fN, fR 308, fR 309],
  aS 0 7 0 0,
  aS 0 28 0 0,
  aS 4 16 311 3,
  oS 1 [fN, fN, fN, fN, fN, fN, fN, fN, fN, fR 312, fR 313],
  aS 0 7 0 0,
  aS 0 28 0 0,
  oS 1 [fN, fN, fN, fN, fN, fN, fN, fN, fN, fR 315, fR 316],
  aS 0 7 0 0,
  aS 0 28 0 0,
  oS 1 [fN, fN, fN, fN, fN, fN, fN, fN, fN, fR 318, fR 319],
  aS 0 7 0 0,
  aS 0 28 0 0,
  oS 1 [fN, fN, fN, fN, fN, fN, fN, fN, fN, fR 321, fR 322],
  aS 0 7 0 0,
  aS 0 28 0 0,
  oS 1 [fN, fN, fN, fN, fN, fN, fN, fN, fN, fR 324, fR 325],
  aS 0 7 0 0,
  aS 0 28 0 0,
  oS 1 [fN, fN, fN, fN, fN, fN, fN, fN, fN, fR 327, fR 328],
  aS 0 7 0 0,
  aS 0 28 0 0,
  oS 1 [fN, fN, fN, fN, fN, fN, fN, fN, fN, fR 330, fR 331],
  aS 0 7 0 0,
  aS 0 28 0 0,
  oS 1 [fN, fN, fN, fN, fN, fN, fN, fN, fN, fR 333, fR 334],
  aS 0 7 0 0,
  aS 0 28 0 0,
  oS 1 [fN, fN, fN, fN, fN, fN, fN, fN, fN, fR 336, fR 337],
  aS 0 7 0 0,
  aS 0 28 0 0,
  oS 1 [fN, fN, fN, fN, fN, fN, fN, fN, fN, fR 339, fR 340],
  aS 0 7 0 0,
  aS 0 28 0 0,
  oS 1 [fN, fN, fN, fN, fN, fN, fN, fN, fN, fR 342, fR 343],
  aS 0 7 0 0,
  aS 0 28 0 0,
  oS 1 [fN, fN, fN, fN, fN, fN, fN, fN, fN, fR 345, fR 346],
  aS 0 7 0 0,
  aS 0 28 0 0,
  oS 1 [fN, fN, fN, fN, fN, fN, fN, fN, fN, fR 348, fR 349],
  aS 0 7 0 0,
  aS 0 28 0 0,
  oS 1 [fN, fN, fN, fN, fN, fN, fN, fN, fN, fR 351, fR 352],
  aS 0 7 0 0,
  aS 0 28 0 0,
  oS 1 [fN, fN, fN, fN, fN, fN, fN, fN, fN, fR 354, fR 355],
  aS 0 7 0 0,
  aS 0 28 0 0,
  oS 1 [fN, fN, fN, fN, fN, fN, fN, fN, fN, fR 357, fR 358],
  aS 0 7 0 0,
  aS 0 28 0 0,
  oS 5 [fR 360, fN],
  aS 0 7 0 0,
  oS 5 [fR 362, fN],
  aS 0 7 0 0,
  oS 11 [fN, fR 364, fN, fN, fN, fN, fN, fN, fN, fR 365, fR 366, fR 367, fN, fN, fN, fN, fN, fN, fR 368, fR 369, fR 370, fR 371, fR 372, fN, fN, fR 373, fR 374, fR 375, fN, fN, fN, fN, fN, fN, fR 376, fR 377, fR 378, fR 379, fR 380, fR 381, fR 382, fR 383, fN, fR 384, fR 385, fR 386, fR 387, fR 388, fN, fR 389, fN, fR 390, fN],
  aS 0 2 0 0,
  aS 0 600 0 0,
  aS 0 28 0 0,
  aS 0 28 0 0,
  aS 0 150 0 0,
  aS 0 150 0 0,
  aS 0 150 0 0,
  aS 0 150 0 0,
  aS 0 150 0 0,
  aS 0 7 0 0,
  aS 0 200 0 0,
  aS 0 200 0 0,
  aS 0 48 0 0,
  aS 0 48 0 0,
  aS 0 768 0 0,
  aS 0 7 0 0,
  aS 0 14 0 0,
  aS 0 2 0 0,
  aS 0 21 0 0,
  aS 0 21 0 0,
  aS 0 128 0 0,
  aS 0 7 0 0,
  aS 0 7 0 0,
  aS 0 784 0 0,
  aS 0 28 0 0,
  aS 0 16 0 0,
  aS 0 2451 0 0,
  aS 1 1 0 0]
def rShp (x : Nat) : Option rSq := if x < 100 then none else rShL[x - 100]?
def rFlv (m : Nat → Nat → Int) (q : Nat → Nat → Option Nat) (x : Nat) : Nat → List (Nat × Nat) → List Value
  | _, [] => []
  | b, (0, _) :: r => .int (iI (m x b)) :: rFlv m q x (b + 1) r
  | b, (1, c) :: r => .ref c :: rFlv m q x (b + 1) r
  | b, (_ + 2, _) :: r => rOv (q x b) :: rFlv m q x (b + 1) r
def rCq (m : Nat → Nat → Int) (q : Nat → Nat → Option Nat) (w : Nat → Int64) (x : Nat) : Option rCell := match rShp x with
  | some (0, [(t, n), (b, k)]) => some (.inl (t, (n, if t = 0 then .inl (fun j => iI (m x j)) else if t = 1 then .inr (.inl w) else if k = 0 then .inr (.inr (q x)) else .inr (.inr (fun j => if j < n then some (b + k * j) else none)))))
  | some (1, (ci, _) :: F) => some (.inr (ci, rFlv m q x 0 F))
  | _ => none
def mk (m : Nat → Nat → Int) (q : Nat → Nat → Option Nat) (w : Option (Nat → Int64)) : rMem := match w with
  | none => (391, fun x => if x = 391 then none else rCq m q (fun _ => 0) x)
  | some w => (392, rCq m q w)
def row {α : Type} (m : Nat → α) (x : Nat) (f : α) : Nat → α := fun y => if y = x then f else m y
def wr (m : Nat → Nat → Int) (x b : Nat) (v : Int) : Nat → Nat → Int := row m x (row (m x) b v)
def wq (q : Nat → Nat → Option Nat) (x b : Nat) (v : Option Nat) : Nat → Nat → Option Nat := row q x (row (q x) b v)
theorem row_s {α : Type} (m : Nat → α) (x : Nat) (f : α) : row m x f x = f := if_pos rfl
theorem row_o {α : Type} (m : Nat → α) (x : Nat) (f : α) {y : Nat} (h : y ≠ x) : row m x f y = m y := if_neg h
theorem row_row {α : Type} (m : Nat → α) (x : Nat) (f g : α) : row (row m x f) x g = row m x g := by
  funext y
  unfold row
  split <;> rfl
theorem wr_s (m : Nat → Nat → Int) (x b : Nat) (v : Int) : wr m x b v x b = v := by
  unfold wr
  rw [row_s, row_s]
theorem wr_b (m : Nat → Nat → Int) (x b : Nat) (v : Int) {c : Nat} (h : c ≠ b) : wr m x b v x c = m x c := by
  unfold wr
  rw [row_s, row_o _ _ _ h]
theorem wr_o (m : Nat → Nat → Int) (x b : Nat) (v : Int) {y : Nat} (h : y ≠ x) : wr m x b v y = m y := row_o _ _ _ h
theorem wr_x (m : Nat → Nat → Int) (x b : Nat) (v : Int) : wr m x b v x = row (m x) b v := row_s _ _ _
theorem wq_s (m : Nat → Nat → Option Nat) (x b : Nat) (v : Option Nat) : wq m x b v x b = v := by
  unfold wq
  rw [row_s, row_s]
theorem wq_b (m : Nat → Nat → Option Nat) (x b : Nat) (v : Option Nat) {c : Nat} (h : c ≠ b) : wq m x b v x c = m x c := by
  unfold wq
  rw [row_s, row_o _ _ _ h]
theorem wq_o (m : Nat → Nat → Option Nat) (x b : Nat) (v : Option Nat) {y : Nat} (h : y ≠ x) : wq m x b v y = m y := row_o _ _ _ h
theorem rowcomm {α : Type} (m : Nat → α) {x y : Nat} (f g : α) (h : x ≠ y) : row (row m x f) y g = row (row m y g) x f := by
  funext z
  unfold row
  by_cases hz : z = y
  · subst hz
    rw [if_pos rfl, if_neg (Ne.symm h), if_pos rfl]
  · rw [if_neg hz, if_neg hz]
theorem row_self {α : Type} (m : Nat → α) (x : Nat) : row m x (m x) = m := by
  funext y
  unfold row
  split
  next h => rw [h]
  next => rfl
/-- the instances of the classes of which there are some -/
def fanIds : List Nat := [108, 112, 115, 118, 121, 124, 127, 130, 133, 136, 139, 142, 145, 148, 151, 154, 157, 161, 165, 172, 178, 201, 205, 208, 211, 214, 217, 220, 223, 226, 229, 232, 235, 238, 241, 244, 247, 250, 254, 258, 261, 264, 267, 270, 273, 276, 279, 282, 285, 288, 291, 294, 297, 300, 303, 307, 311, 314, 317, 320, 323, 326, 329, 332, 335, 338, 341, 344, 347, 350, 353, 356]
def keepIds : List Nat := [107, 200, 253, 306]
def lawIds : List Nat := [182, 186]
def picIds : List Nat := [190, 359, 361]
def bookIds : List Nat := [192, 196]
def iFan (x : Nat) : Prop := x ∈ fanIds
def iKeep (x : Nat) : Prop := x ∈ keepIds
def iLaw (x : Nat) : Prop := x ∈ lawIds
def iPic (x : Nat) : Prop := x ∈ picIds
def iBook (x : Nat) : Prop := x ∈ bookIds
theorem fan_0 {x : Nat} (h : iFan x) : rShp x = some (oS 1 [fN, fN, fN, fN, fN, fN, fN, fN, fN, fR (x + 1), fR (x + 2)]) := (by decide +kernel : ∀ x ∈ fanIds, rShp x = some (oS 1 [fN, fN, fN, fN, fN, fN, fN, fN, fN, fR (x + 1), fR (x + 2)])) x h
theorem fan_1 {x : Nat} (h : iFan x) : rShp (x + 1) = some (aS 0 7 0 0) := (by decide +kernel : ∀ x ∈ fanIds, rShp (x + 1) = some (aS 0 7 0 0)) x h
theorem fan_2 {x : Nat} (h : iFan x) : rShp (x + 2) = some (aS 0 28 0 0) := (by decide +kernel : ∀ x ∈ fanIds, rShp (x + 2) = some (aS 0 28 0 0)) x h
theorem keep_0 {x : Nat} (h : iKeep x) : rShp x = some (oS 3 [fR (x + 1), fR (x + 4), fN]) := (by decide +kernel : ∀ x ∈ keepIds, rShp x = some (oS 3 [fR (x + 1), fR (x + 4), fN])) x h
theorem keep_4 {x : Nat} (h : iKeep x) : rShp (x + 4) = some (aS 4 16 (x + 5) 3) := (by decide +kernel : ∀ x ∈ keepIds, rShp (x + 4) = some (aS 4 16 (x + 5) 3)) x h
theorem keep_fan {x : Nat} (h : iKeep x) : iFan (x + 1) := (by unfold iFan; decide +kernel : ∀ x ∈ keepIds, iFan (x + 1)) x h
theorem keep_bef {x : Nat} (h : iKeep x) {k : Nat} (hk : k < 16) : iFan (x + 5 + 3 * k) := (by unfold iFan; decide +kernel : ∀ x ∈ keepIds, ∀ k, k < 16 → iFan (x + 5 + 3 * k)) x h k hk
theorem law_0 {x : Nat} (h : iLaw x) : rShp x = some (oS 4 [fR (x + 1), fR (x + 2), fR (x + 3), fN]) := (by decide +kernel : ∀ x ∈ lawIds, rShp x = some (oS 4 [fR (x + 1), fR (x + 2), fR (x + 3), fN])) x h
theorem law_1 {x : Nat} (h : iLaw x) : rShp (x + 1) = some (aS 0 150 0 0) := (by decide +kernel : ∀ x ∈ lawIds, rShp (x + 1) = some (aS 0 150 0 0)) x h
theorem law_2 {x : Nat} (h : iLaw x) : rShp (x + 2) = some (aS 0 150 0 0) := (by decide +kernel : ∀ x ∈ lawIds, rShp (x + 2) = some (aS 0 150 0 0)) x h
theorem law_3 {x : Nat} (h : iLaw x) : rShp (x + 3) = some (aS 0 7 0 0) := (by decide +kernel : ∀ x ∈ lawIds, rShp (x + 3) = some (aS 0 7 0 0)) x h
theorem pic_0 {x : Nat} (h : iPic x) : rShp x = some (oS 5 [fR (x + 1), fN]) := (by decide +kernel : ∀ x ∈ picIds, rShp x = some (oS 5 [fR (x + 1), fN])) x h
theorem pic_1 {x : Nat} (h : iPic x) : rShp (x + 1) = some (aS 0 7 0 0) := (by decide +kernel : ∀ x ∈ picIds, rShp (x + 1) = some (aS 0 7 0 0)) x h
theorem book_0 {x : Nat} (h : iBook x) : rShp x = some (oS 0 [fR (x + 1), fR (x + 2), fR (x + 3), fN]) := (by decide +kernel : ∀ x ∈ bookIds, rShp x = some (oS 0 [fR (x + 1), fR (x + 2), fR (x + 3), fN])) x h
theorem book_1 {x : Nat} (h : iBook x) : rShp (x + 1) = some (aS 0 7 0 0) := (by decide +kernel : ∀ x ∈ bookIds, rShp (x + 1) = some (aS 0 7 0 0)) x h
theorem book_2 {x : Nat} (h : iBook x) : rShp (x + 2) = some (aS 0 7 0 0) := (by decide +kernel : ∀ x ∈ bookIds, rShp (x + 2) = some (aS 0 7 0 0)) x h
theorem book_3 {x : Nat} (h : iBook x) : rShp (x + 3) = some (aS 0 7 0 0) := (by decide +kernel : ∀ x ∈ bookIds, rShp (x + 3) = some (aS 0 7 0 0)) x h
/-! what a memory by functions holds -/
theorem rShp_lt {x : Nat} {s : rSq} (h : rShp x = some s) : x < 392 := by
  unfold rShp at h
  split at h
  next => cases h
  next =>
    have h1 := (List.getElem?_eq_some_iff.mp h).1
    have h2 : rShL.length = 292 := by decide +kernel
    omega
theorem mk_at (m : Nat → Nat → Int) (q : Nat → Nat → Option Nat) (w : Option (Nat → Int64)) {x : Nat} (h : x ≠ 391) : (mk m q w).2 x = rCq m q (w.getD (fun _ => 0)) x := by
  cases w with
  | none => exact if_neg h
  | some w => rfl
theorem sh391 : rShp 391 = some (aS 1 1 0 0) := by decide +kernel
theorem at_obj {x ci : Nat} {F : List (Nat × Nat)} (h : rShp x = some (oS ci F)) (m : Nat → Nat → Int) (q : Nat → Nat → Option Nat) (w : Option (Nat → Int64)) : (mk m q w).2 x = some (.inr (ci, rFlv m q x 0 F)) := by
  have hx : x ≠ 391 := fun he => by
    rw [he, sh391] at h
    cases h
  rw [mk_at m q w hx]
  unfold rCq
  rw [h]
  rfl
theorem at_arr {x n b k : Nat} (h : rShp x = some (aS 0 n b k)) (m : Nat → Nat → Int) (q : Nat → Nat → Option Nat) (w : Option (Nat → Int64)) : (mk m q w).2 x = some (.inl (0, (n, .inl (fun j => iI (m x j))))) := by
  have hx : x ≠ 391 := fun he => by
    rw [he, sh391] at h
    cases h
  rw [mk_at m q w hx]
  unfold rCq
  rw [h]
  rfl
theorem at_ref {x t n b k : Nat} (h : rShp x = some (aS (t + 2) n b (k + 1))) (m : Nat → Nat → Int) (q : Nat → Nat → Option Nat) (w : Option (Nat → Int64)) : (mk m q w).2 x = some (.inl (t + 2, (n, .inr (.inr (fun j => if j < n then some (b + (k + 1) * j) else none))))) := by
  have hx : x ≠ 391 := fun he => by
    rw [he, sh391] at h
    cases h
  rw [mk_at m q w hx]
  unfold rCq
  rw [h]
  show some (Sum.inl (t + 2, n, if t + 2 = 0 then _ else if t + 2 = 1 then _ else if k + 1 = 0 then _ else _)) = _
  rw [if_neg (by omega), if_neg (by omega), if_neg (by omega)]
theorem at_rfv {x t n b : Nat} (h : rShp x = some (aS (t + 2) n b 0)) (m : Nat → Nat → Int) (q : Nat → Nat → Option Nat) (w : Option (Nat → Int64)) : (mk m q w).2 x = some (.inl (t + 2, (n, .inr (.inr (q x))))) := by
  have hx : x ≠ 391 := fun he => by
    rw [he, sh391] at h
    cases h
  rw [mk_at m q w hx]
  unfold rCq
  rw [h]
  show some (Sum.inl (t + 2, n, if t + 2 = 0 then _ else if t + 2 = 1 then _ else if 0 = 0 then _ else _)) = _
  rw [if_neg (by omega), if_neg (by omega), if_pos rfl]
theorem at_lng (m : Nat → Nat → Int) (q : Nat → Nat → Option Nat) (w : Nat → Int64) : (mk m q (some w)).2 391 = some (.inl (1, (1, .inr (.inl w)))) := by
  show rCq m q w 391 = _
  unfold rCq
  rw [sh391]
  rfl
/-! writes -/
theorem rFlv_len (m : Nat → Nat → Int) (q : Nat → Nat → Option Nat) (x : Nat) : ∀ (F : List (Nat × Nat)) (b : Nat), (rFlv m q x b F).length = F.length := by
  intro F
  induction F with
  | nil => intro b; rfl
  | cons f F ih =>
    intro b
    rcases f with ⟨_ | _ | f, c⟩
    · exact congrArg (· + 1) (ih (b + 1))
    · exact congrArg (· + 1) (ih (b + 1))
    · exact congrArg (· + 1) (ih (b + 1))
theorem rFlv_ge (m : Nat → Nat → Int) (q : Nat → Nat → Option Nat) (x b0 : Nat) (g : Nat → Int) (hg : ∀ j, b0 ≤ j → g j = m x j) : ∀ (F : List (Nat × Nat)) (b : Nat), b0 ≤ b → rFlv (row m x g) q x b F = rFlv m q x b F := by
  intro F
  induction F with
  | nil => intro b _; rfl
  | cons f F ih =>
    intro b hb
    have h1 := ih (b + 1) (by omega)
    rcases f with ⟨_ | _ | f, c⟩
    · show _ :: _ = _ :: _
      rw [h1, row_s, hg b hb]
    · show _ :: _ = _ :: _
      rw [h1]
    · show _ :: _ = _ :: _
      rw [h1]
theorem rFlv_geq (m : Nat → Nat → Int) (q : Nat → Nat → Option Nat) (x b0 : Nat) (g : Nat → Option Nat) (hg : ∀ j, b0 ≤ j → g j = q x j) : ∀ (F : List (Nat × Nat)) (b : Nat), b0 ≤ b → rFlv m (row q x g) x b F = rFlv m q x b F := by
  intro F
  induction F with
  | nil => intro b _; rfl
  | cons f F ih =>
    intro b hb
    have h1 := ih (b + 1) (by omega)
    rcases f with ⟨_ | _ | f, c⟩
    · show _ :: _ = _ :: _
      rw [h1]
    · show _ :: _ = _ :: _
      rw [h1]
    · show _ :: _ = _ :: _
      rw [h1, row_s, hg b hb]
theorem rFlv_setI (m : Nat → Nat → Int) (q : Nat → Nat → Option Nat) (x : Nat) (z : Int) : ∀ (F : List (Nat × Nat)) (a b : Nat), F[b]? = some fN → (rFlv m q x a F).set b (.int (iI z)) = rFlv (wr m x (a + b) z) q x a F := by
  intro F
  induction F with
  | nil => intro a b h; cases h
  | cons f F ih =>
    intro a b h
    cases b with
    | zero =>
      cases h
      show _ :: _ = _ :: _
      unfold wr
      rw [show a + 0 = a from rfl, rFlv_ge m q x (a + 1) (row (m x) a z) (fun j hj => row_o _ _ _ (by omega)) F (a + 1) (Nat.le_refl _)]
      show _ = Value.int (iI (row m x (row (m x) a z) x a)) :: _
      rw [row_s, row_s]
    | succ b =>
      have h1 := ih (a + 1) b h
      rw [show a + 1 + b = a + (b + 1) by omega] at h1
      rcases f with ⟨_ | _ | f, c⟩
      · show _ :: _ = _ :: _
        rw [h1, wr_b _ _ _ _ (by omega : a ≠ a + (b + 1))]
      · show _ :: _ = _ :: _
        rw [h1]
      · show _ :: _ = _ :: _
        rw [h1]
theorem rFlv_setQ (m : Nat → Nat → Int) (q : Nat → Nat → Option Nat) (x y : Nat) : ∀ (F : List (Nat × Nat)) (a b : Nat), F[b]? = some fV → (rFlv m q x a F).set b (.ref y) = rFlv m (wq q x (a + b) (some y)) x a F := by
  intro F
  induction F with
  | nil => intro a b h; cases h
  | cons f F ih =>
    intro a b h
    cases b with
    | zero =>
      cases h
      show _ :: _ = _ :: _
      unfold wq
      rw [show a + 0 = a from rfl, rFlv_geq m q x (a + 1) (row (q x) a (some y)) (fun j hj => row_o _ _ _ (by omega)) F (a + 1) (Nat.le_refl _)]
      show _ = rOv (row q x (row (q x) a (some y)) x a) :: _
      rw [row_s, row_s]
      rfl
    | succ b =>
      have h1 := ih (a + 1) b h
      rw [show a + 1 + b = a + (b + 1) by omega] at h1
      rcases f with ⟨_ | _ | f, c⟩
      · show _ :: _ = _ :: _
        rw [h1]
      · show _ :: _ = _ :: _
        rw [h1]
      · show _ :: _ = _ :: _
        rw [h1, wq_b _ _ _ _ (by omega : a ≠ a + (b + 1))]
theorem rFlv_off (m : Nat → Nat → Int) (q : Nat → Nat → Option Nat) (m2 : Nat → Nat → Int) (q2 : Nat → Nat → Option Nat) (x : Nat) (h1 : m2 x = m x) (h2 : q2 x = q x) : ∀ (F : List (Nat × Nat)) (b : Nat), rFlv m2 q2 x b F = rFlv m q x b F := by
  intro F
  induction F with
  | nil => intro b; rfl
  | cons f F ih =>
    intro b
    have h3 := ih (b + 1)
    rcases f with ⟨_ | _ | f, c⟩
    · show _ :: _ = _ :: _
      rw [h3, h1]
    · show _ :: _ = _ :: _
      rw [h3]
    · show _ :: _ = _ :: _
      rw [h3, h2]
theorem rCq_off (m m2 : Nat → Nat → Int) (q q2 : Nat → Nat → Option Nat) (w : Nat → Int64) (x : Nat) (h1 : m2 x = m x) (h2 : q2 x = q x) : rCq m2 q2 w x = rCq m q w x := by
  unfold rCq
  have h3 : ∀ F, rFlv m2 q2 x 0 F = rFlv m q x 0 F := fun F => rFlv_off m q m2 q2 x h1 h2 F 0
  split
  next => rw [h1, h2]
  next => rw [h3]
  next => rfl
/-- one cell is written -/
theorem mk_set {m m2 : Nat → Nat → Int} {q q2 : Nat → Nat → Option Nat} {x : Nat} {c : rCell} (w : Option (Nat → Int64)) (hx : x ≠ 391) (hm : ∀ y, y ≠ x → m2 y = m y) (hq : ∀ y, y ≠ x → q2 y = q y) (hc : rCq m2 q2 (w.getD (fun _ => 0)) x = some c) : rSet (mk m q w) x c = mk m2 q2 w := by
  unfold rSet
  cases w with
  | none =>
    show (391, _) = (391, _)
    congr 1
    funext y
    by_cases h : y = x
    · subst h
      rw [if_pos rfl, if_neg hx]
      exact hc.symm
    · rw [if_neg h]
      show (if y = 391 then none else _) = (if y = 391 then none else _)
      rw [rCq_off m m2 q q2 _ y (hm y h) (hq y h)]
  | some w =>
    show (392, _) = (392, _)
    congr 1
    funext y
    by_cases h : y = x
    · subst h
      rw [if_pos rfl]
      exact hc.symm
    · rw [if_neg h]
      exact (rCq_off m m2 q q2 _ y (hm y h) (hq y h)).symm
theorem mk_putI {x ci b : Nat} {F : List (Nat × Nat)} (h : rShp x = some (oS ci F)) (hF : F[b]? = some fN) (m : Nat → Nat → Int) (q : Nat → Nat → Option Nat) (w : Option (Nat → Int64)) (z : Int) : rSet (mk m q w) x (.inr (ci, (rFlv m q x 0 F).set b (.int (iI z)))) = mk (wr m x b z) q w := by
  have hx : x ≠ 391 := fun he => by
    rw [he, sh391] at h
    cases h
  refine mk_set w hx (fun y hy => row_o _ _ _ hy) (fun y _ => rfl) ?_
  unfold rCq
  rw [h]
  show some (Sum.inr (ci, _)) = _
  rw [rFlv_setI m q x z F 0 b hF, Nat.zero_add]
theorem mk_putQ {x ci b : Nat} {F : List (Nat × Nat)} (h : rShp x = some (oS ci F)) (hF : F[b]? = some fV) (m : Nat → Nat → Int) (q : Nat → Nat → Option Nat) (w : Option (Nat → Int64)) (y : Nat) : rSet (mk m q w) x (.inr (ci, (rFlv m q x 0 F).set b (.ref y))) = mk m (wq q x b (some y)) w := by
  have hx : x ≠ 391 := fun he => by
    rw [he, sh391] at h
    cases h
  refine mk_set w hx (fun y _ => rfl) (fun y hy => row_o _ _ _ hy) ?_
  unfold rCq
  rw [h]
  show some (Sum.inr (ci, _)) = _
  rw [rFlv_setQ m q x y F 0 b hF, Nat.zero_add]
theorem mk_arr {x n b k : Nat} (h : rShp x = some (aS 0 n b k)) (m : Nat → Nat → Int) (q : Nat → Nat → Option Nat) (w : Option (Nat → Int64)) (g : Nat → Int) (f : Nat → Int32) (hf : ∀ j, f j = iI (g j)) : rSet (mk m q w) x (.inl (0, (n, .inl f))) = mk (row m x g) q w := by
  have hx : x ≠ 391 := fun he => by
    rw [he, sh391] at h
    cases h
  refine mk_set w hx (fun y hy => row_o _ _ _ hy) (fun y _ => rfl) ?_
  unfold rCq
  rw [h]
  show some (Sum.inl (0, n, if 0 = 0 then _ else _)) = _
  rw [if_pos rfl, row_s, show f = fun j => iI (g j) from funext hf]
theorem mk_ref {x t n b : Nat} (h : rShp x = some (aS (t + 2) n b 0)) (m : Nat → Nat → Int) (q : Nat → Nat → Option Nat) (w : Option (Nat → Int64)) (g : Nat → Option Nat) : rSet (mk m q w) x (.inl (t + 2, (n, .inr (.inr g)))) = mk m (row q x g) w := by
  have hx : x ≠ 391 := fun he => by
    rw [he, sh391] at h
    cases h
  refine mk_set w hx (fun y _ => rfl) (fun y hy => row_o _ _ _ hy) ?_
  unfold rCq
  rw [h]
  show some (Sum.inl (t + 2, n, if t + 2 = 0 then _ else if t + 2 = 1 then _ else if 0 = 0 then _ else _)) = _
  rw [if_neg (by omega), if_neg (by omega), if_pos rfl, row_s]
theorem mk_lng (m : Nat → Nat → Int) (q : Nat → Nat → Option Nat) (w g : Nat → Int64) : rSet (mk m q (some w)) 391 (.inl (1, (1, .inr (.inl g)))) = mk m q (some g) := by
  unfold rSet
  show (392, _) = (392, _)
  congr 1
  funext y
  by_cases h : y = 391
  · subst h
    rw [if_pos rfl]
    exact (at_lng m q g).symm
  · rw [if_neg h]
    show rCq m q w y = rCq m q g y
    unfold rCq
    split
    next t n b k hs =>
      by_cases ht : t = 1
      · exfalso
        subst ht
        have : ∀ y, y < 392 → y ≠ 391 → (match rShp y with | some (0, (t, _) :: _) => decide (t ≠ 1) | _ => true) = true := by decide +kernel
        have h2 := this y (rShp_lt hs) h
        rw [hs] at h2
        cases h2
      · rw [if_neg ht, if_neg ht]
    next => rfl
    next => rfl
