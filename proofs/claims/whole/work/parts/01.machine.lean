/-! A SMALL MACHINE over numbered cells: what the methods do, as one equation. A value .ref 0 is null; cell 1 is the script, 2 and 3 the two texts, made cells from 4 on. -/
/-- the store: ints, longs, references (0: null) by cell and place; kind and length of a cell; the next cell; how many places were made -/
abbrev mjS : Type := (Nat → Nat → Int32) × (Nat → Nat → Int64) × (Nat → Nat → Nat) × (Nat → Nat) × (Nat → Nat) × Nat × Nat
def mI (h : mjS) (a k : Nat) : Int32 := h.1 a k
def mL (h : mjS) (a k : Nat) : Int64 := h.2.1 a k
def mR (h : mjS) (a k : Nat) : Nat := h.2.2.1 a k
def mK (h : mjS) (a : Nat) : Nat := h.2.2.2.1 a
def mN (h : mjS) (a : Nat) : Nat := h.2.2.2.2.1 a
def mX (h : mjS) : Nat := h.2.2.2.2.2.1
def mZ (h : mjS) : Nat := h.2.2.2.2.2.2
def mjU {α : Type} (f : Nat → Nat → α) (a k : Nat) (v : α) : Nat → Nat → α := fun x y => if x = a ∧ y = k then v else f x y
def pI (h : mjS) (a k : Nat) (v : Int32) : mjS := (mjU h.1 a k v, h.2)
def pL (h : mjS) (a k : Nat) (v : Int64) : mjS := (h.1, mjU h.2.1 a k v, h.2.2)
def pR (h : mjS) (a k : Nat) (v : Nat) : mjS := (h.1, h.2.1, mjU h.2.2.1 a k v, h.2.2.2)
/-- a new cell of a kind, a length and so many places, all 0 -/
def pN (h : mjS) (kd n w : Nat) : mjS :=
  (fun a k => if a = mX h then 0 else h.1 a k, fun a k => if a = mX h then 0 else h.2.1 a k, fun a k => if a = mX h then 0 else h.2.2.1 a k,
   fun a => if a = mX h then kd else mK h a, fun a => if a = mX h then n else mN h a, mX h + 1, mZ h + w)
/-- ints of one cell copied into another one -/
def pC (h : mjS) (a i b j n : Nat) : mjS := (fun x y => if x = b ∧ (j ≤ y ∧ y < j + n) then h.1 a (i + (y - j)) else h.1 x y, h.2)
abbrev mjO : Type := Option (Value × mjS)
/-- method, level, place, locals, stack, store: the answer and the store behind it -/
abbrev mjT : Type := Nat → Nat → Nat → List Value → List Value → mjS → mjO
/-- a local that holds nothing -/
abbrev mjD : Value := .float 0
def mjAt : List Value → Nat → Option Value
  | [], _ => none
  | a :: _, 0 => some a
  | _ :: l, n + 1 => mjAt l n
def mjKill : Value → Value
  | .long _ => mjD
  | v => v
def mjSt1 : List Value → Nat → Value → List Value
  | [], _, _ => []
  | _ :: l, 0, v => v :: l
  | a :: l, n + 1, v => (bif Nat.beq n 0 then mjKill a else a) :: mjSt1 l n v
def mjSet : List Value → Nat → Value → List Value
  | [], _, _ => []
  | _ :: l, 0, v => v :: l
  | a :: l, n + 1, v => a :: mjSet l n v
def mjSt2 (l : List Value) (i : Nat) (v : Value) : List Value := mjSet (mjSt1 l i v) (i + 1) mjD
def kLi (l : List Value) (i : Nat) (k : Int32 → mjO) : mjO := match mjAt l i with
  | some (.int x) => k x
  | _ => none
def kLl (l : List Value) (i : Nat) (k : Int64 → mjO) : mjO := match mjAt l i with
  | some (.long x) => k x
  | _ => none
def kLa (l : List Value) (i : Nat) (k : Nat → mjO) : mjO := match mjAt l i with
  | some (.ref x) => k x
  | _ => none
def k1i (st : List Value) (k : Int32 → List Value → mjO) : mjO := match st with
  | .int x :: r => k x r
  | _ => none
def k1l (st : List Value) (k : Int64 → List Value → mjO) : mjO := match st with
  | .long x :: r => k x r
  | _ => none
def k1a (st : List Value) (k : Nat → List Value → mjO) : mjO := match st with
  | .ref x :: r => k x r
  | _ => none
def mjCat : List Value → Nat
  | [] => 0
  | v :: l => v.category + mjCat l
def mjPop : Nat → List Value → List Value → (List Value → List Value → mjO) → mjO
  | 0, acc, st, k => k acc st
  | _ + 1, _, [], _ => none
  | n + 1, acc, v :: st, k => mjPop n (v :: acc) st k
def mjX : List Value → List Value
  | [] => []
  | .long v :: l => .long v :: mjD :: mjX l
  | v :: l => v :: mjX l
def mjPad : Nat → List Value → List Value
  | 0, _ => []
  | n + 1, [] => mjD :: mjPad n []
  | n + 1, a :: l => a :: mjPad n l
def mjSw : List (Int32 × Nat) → Nat → Int32 → (Nat → mjO) → mjO
  | [], d, _, k => k d
  | (y, t) :: l, d, x, k => if x = y then k t else mjSw l d x k
/-- an answer of each type taken -/
def rI (r : mjO) (k : Int32 → mjS → mjO) : mjO := match r with
  | some (.int x, h) => k x h
  | _ => none
def rL (r : mjO) (k : Int64 → mjS → mjO) : mjO := match r with
  | some (.long x, h) => k x h
  | _ => none
def rA (r : mjO) (k : Nat → mjS → mjO) : mjO := match r with
  | some (.ref x, h) => k x h
  | _ => none
def rV (r : mjO) (k : mjS → mjO) : mjO := match r with
  | some (_, h) => k h
  | none => none
/-- an instruction, the next place, three numbers (what it names, by its kind), an int, a long, the place of its word -/
abbrev mjIns : Type := Instr × Nat × Nat × Nat × Nat × Int32 × Int64 × Nat
/-- is the place in a row of n -/
abbrev mjIn (i : Int32) (n : Nat) : Prop := 0 ≤ i ∧ i.toNatClampNeg < n
def mjB (v : Int32) : Int32 := v.toInt8.toInt32
