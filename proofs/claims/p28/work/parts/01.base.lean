/-! sandbox copy of the pure words of 05.kit -/
abbrev gWd : Type := Nat → Nat → Nat → Int32
def up3 (w : gWd) (i r j : Nat) (v : Int32) : gWd := fun a b c => if a = i ∧ b = r ∧ c = j then v else w a b c
def gFirst (j : Nat) : Int32 := if j = 0 then 8 else if j = 1 then 3 else 2
def gLeast (j : Nat) : Int32 := if j = 0 then 4 else if j = 1 then 1 else 0
def gGreat (j : Nat) : Int32 := if j = 0 then 10 else if j = 1 then 3 else 4
def gS {α β : Type} (v : α) (f : α → β) : β := f v
def gB {α : Type} (x : Int32) (n : Nat) (f : Nat → Option α) : Option α := if x < 0 ∨ n ≤ x.toNatClampNeg then none else f x.toNatClampNeg
def gM {α : Type} (i n : Nat) (f : Option α) : Option α := if i < n then f else none
def gZ {α : Type} (v : Int32) (x : Option α) : Option α := if v = 0 ∨ v = 1 then x else none
def gD {α : Type} (v : Int32) (x : Option α) : Option α := if v = 0 then none else x
def gN {α : Type} (v : UInt32) (x : Option α) : Option α := if v &&& 0x7fffffff ≤ 0x7f800000 then x else none
def gC {α β : Type} (x : Option (α × gWd)) (f : α → gWd → Option β) : Option β := match x with
  | none => none
  | some q => f q.1 q.2
def gP {α β : Type} (x : Option α) (f : α → Option β) : Option β := match x with
  | none => none
  | some q => f q
def gFU : Nat := 2000
