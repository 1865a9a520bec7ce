/-! ===== THE PURE MACHINE: heaps as four maps over numbered cells, one step of a method's code as a transformer of propositions ===== -/
abbrev PH : Type := (Nat → Nat → Int32) × (Nat → Nat → Int64) × (Nat → Nat → Option Nat) × (Nat → Nat → UInt64)
def gi (h : PH) (a k : Nat) : Int32 := h.1 a k
def gl (h : PH) (a k : Nat) : Int64 := h.2.1 a k
def gr (h : PH) (a k : Nat) : Option Nat := h.2.2.1 a k
def gd (h : PH) (a k : Nat) : UInt64 := h.2.2.2 a k
def up2 {α : Type} (f : Nat → Nat → α) (a k : Nat) (x : α) : Nat → Nat → α := fun b j => if b = a then (if j = k then x else f b j) else f b j
def si (h : PH) (a k : Nat) (x : Int32) : PH := (up2 h.1 a k x, h.2)
def sl (h : PH) (a k : Nat) (x : Int64) : PH := (h.1, up2 h.2.1 a k x, h.2.2)
def sr (h : PH) (a k : Nat) (x : Option Nat) : PH := (h.1, h.2.1, up2 h.2.2.1 a k x, h.2.2.2)
def sd (h : PH) (a k : Nat) (x : UInt64) : PH := (h.1, h.2.1, h.2.2.1, up2 h.2.2.2 a k x)
/-- n ints of the array a from place sp on, copied to the array b at place dp -/
def cpi (h : PH) (a sp b dp n : Nat) : PH := (fun c => if c = b then va_cpy (h.1 a) (h.1 b) sp dp n else h.1 c, h.2)
def cpl (h : PH) (a sp b dp n : Nat) : PH := (h.1, fun c => if c = b then va_cpy (h.2.1 a) (h.2.1 b) sp dp n else h.2.1 c, h.2.2)
/-- a cell's kind: an object (its class's number, its references by slot) or an array (its type's number, its length) -/
abbrev Kd : Type := (Nat × List (Option Nat)) ⊕ (Nat × Nat)
abbrev Res : Type := Option Value ⊕ Nat
abbrev Lc : Type := List (Option Value)
/-- a method: name, code, locals, answer, frames that it needs above itself, words of locals, exceptions that it may make -/
abbrev MI : Type := MethodName × ByteArray × Nat × Option FieldType × Nat × Nat × Nat × List (Nat × Nat × Nat × Nat) × Nat
def MI.y (M : MI) : MethodName := M.1
def MI.b (M : MI) : ByteArray := M.2.1
def MI.nl (M : MI) : Nat := M.2.2.1
def MI.ret (M : MI) : Option FieldType := M.2.2.2.1
def MI.fr (M : MI) : Nat := M.2.2.2.2.1
def MI.lo (M : MI) : Nat := M.2.2.2.2.2.1
def MI.cap (M : MI) : Nat := M.2.2.2.2.2.2.1
def MI.hh (M : MI) : List (Nat × Nat × Nat × Nat) := M.2.2.2.2.2.2.2.1
/-- 0 an instance method, 1 a static one, 2 a static one with handlers -/
def MI.sk (M : MI) : Nat := M.2.2.2.2.2.2.2.2
/-- a row of a method's code: place, instruction, length, numbers resolved ahead, the method that it calls -/
abbrev En : Type := Nat × Instr × Nat × List Nat × List MI
def cI : Int → Int32
  | .ofNat n => nI n
  | .negSucc n => -(nI (n + 1))
def isB (x : Int32) : Prop := x = 0 ∨ x = 1
def lget (ls : Lc) (i : Nat) : Option Value := ls.getD i none
def lclr (ls : Lc) : Nat → Lc
  | 0 => ls
  | j + 1 => match ls.getD j none with
    | some w => match w.category with
      | 2 => ls.set j none
      | _ => ls
    | none => ls
def lput1 (ls : Lc) (i : Nat) (v : Value) : Lc := (lclr ls i).set i (some v)
def lput2 (ls : Lc) (i : Nat) (v : Value) : Lc := ((lclr ls i).set i (some v)).set (i + 1) none
def lput0 (ls : Lc) (i : Nat) : Lc := (lclr ls i).set i none
def rf1 : Option Nat → Value
  | none => .null
  | some a => .ref a
abbrev KT : Type := Nat → Nat → Lc → List Value → PH → Prop
/-- what a call gives back to its caller: rV, rI, rL .. by the sort of its answer; q: where an exception goes -/
def rV (q : Nat → PH → Prop) (kk : PH → Prop) : Res → PH → Prop
  | .inl none, h => kk h
  | .inl (some _), _ => False
  | .inr e, h => q e h
def rI (q : Nat → PH → Prop) (kk : Int32 → PH → Prop) : Res → PH → Prop
  | .inl (some (.int x)), h => kk x h
  | .inl _, _ => False
  | .inr e, h => q e h
def rL (q : Nat → PH → Prop) (kk : Int64 → PH → Prop) : Res → PH → Prop
  | .inl (some (.long x)), h => kk x h
  | .inl _, _ => False
  | .inr e, h => q e h
def rF (q : Nat → PH → Prop) (kk : UInt32 → PH → Prop) : Res → PH → Prop
  | .inl (some (.float x)), h => kk x h
  | .inl _, _ => False
  | .inr e, h => q e h
def rD (q : Nat → PH → Prop) (kk : UInt64 → PH → Prop) : Res → PH → Prop
  | .inl (some (.double x)), h => kk x h
  | .inl _, _ => False
  | .inr e, h => q e h
/-- the cells of the world, by number -/
def KSS : List (List Kd) := [
  [.inl (8, [some 1, some 60, some 67, some 74, some 81, none, some 13, some 4, some 5, some 3, none]), .inl (7, [some 2, none, none, none, none, none, none, none, none]), .inr (1, 900), .inr (1, 336), .inl (0, [some 1, some 74, some 30, none]), .inl (5, [some 6, some 7, some 8, some 9, some 10, none, some 11, some 12, none, none]), .inr (5, 30), .inr (0, 30), .inr (0, 30), .inr (0, 30), .inr (0, 30), .inr (0, 2), .inr (0, 2), .inl (2, [some 14, none, none]), .inr (4, 6), .inl (3, [some 16, some 18, some 19, some 20, some 21, some 23, some 24, some 25, some 26, some 28, some 29, none, none, none, none, none, none, none])],
  [.inl (4, [some 17, none]), .inr (2, 8), .inr (0, 8), .inr (0, 8), .inr (0, 8), .inl (4, [some 22, none]), .inr (2, 5), .inr (0, 5), .inr (0, 5), .inr (0, 5), .inl (4, [some 27, none]), .inr (2, 12), .inr (0, 12), .inr (0, 12), .inl (3, [some 31, some 33, some 34, some 35, some 36, some 38, some 39, some 40, some 41, some 43, some 44, none, none, none, none, none, none, none]), .inl (4, [some 32, none])],
  [.inr (2, 8), .inr (0, 8), .inr (0, 8), .inr (0, 8), .inl (4, [some 37, none]), .inr (2, 5), .inr (0, 5), .inr (0, 5), .inr (0, 5), .inl (4, [some 42, none]), .inr (2, 12), .inr (0, 12), .inr (0, 12), .inl (3, [some 46, some 48, some 49, some 50, some 51, some 53, some 54, some 55, some 56, some 58, some 59, none, none, none, none, none, none, none]), .inl (4, [some 47, none]), .inr (2, 8)],
  [.inr (0, 8), .inr (0, 8), .inr (0, 8), .inl (4, [some 52, none]), .inr (2, 5), .inr (0, 5), .inr (0, 5), .inr (0, 5), .inl (4, [some 57, none]), .inr (2, 12), .inr (0, 12), .inr (0, 12), .inl (6, [some 15, none, none, some 61, some 62, some 63, some 64, none, none, none, none, none, none, none, none, some 65]), .inr (0, 12), .inr (0, 12), .inr (0, 12)],
  [.inr (0, 12), .inl (1, [some 66, none, none]), .inr (0, 120), .inl (6, [some 15, none, none, some 68, some 69, some 70, some 71, none, none, none, none, none, none, none, none, some 72]), .inr (0, 12), .inr (0, 12), .inr (0, 12), .inr (0, 12), .inl (1, [some 73, none, none]), .inr (0, 120), .inl (6, [some 30, none, none, some 75, some 76, some 77, some 78, none, none, none, none, none, none, none, none, some 79]), .inr (0, 12), .inr (0, 12), .inr (0, 12), .inr (0, 12), .inl (1, [some 80, none, none])],
  [.inr (0, 120), .inl (6, [some 45, none, none, some 82, some 83, some 84, some 85, none, none, none, none, none, none, none, none, some 86]), .inr (0, 12), .inr (0, 12), .inr (0, 12), .inr (0, 12), .inl (1, [some 87, none, none]), .inr (0, 120), .inl (6, [some 15, none, none, some 89, some 90, some 91, some 92, none, none, none, none, none, none, none, none, some 93]), .inr (0, 12), .inr (0, 12), .inr (0, 12), .inr (0, 12), .inl (1, [some 94, none, none]), .inr (0, 120), .inl (6, [some 15, none, none, some 96, some 97, some 98, some 99, none, none, none, none, none, none, none, none, some 100])],
  [.inr (0, 12), .inr (0, 12), .inr (0, 12), .inr (0, 12), .inl (1, [some 101, none, none]), .inr (0, 120), .inl (6, [some 15, none, none, some 103, some 104, some 105, some 106, none, none, none, none, none, none, none, none, some 107]), .inr (0, 12), .inr (0, 12), .inr (0, 12), .inr (0, 12), .inl (1, [some 108, none, none]), .inr (0, 120), .inl (6, [some 15, none, none, some 110, some 111, some 112, some 113, none, none, none, none, none, none, none, none, some 114]), .inr (0, 12), .inr (0, 12)],
  [.inr (0, 12), .inr (0, 12), .inl (1, [some 115, none, none]), .inr (0, 120), .inl (6, [some 15, none, none, some 117, some 118, some 119, some 120, none, none, none, none, none, none, none, none, some 121]), .inr (0, 12), .inr (0, 12), .inr (0, 12), .inr (0, 12), .inl (1, [some 122, none, none]), .inr (0, 120), .inl (6, [some 15, none, none, some 124, some 125, some 126, some 127, none, none, none, none, none, none, none, none, some 128]), .inr (0, 12), .inr (0, 12), .inr (0, 12), .inr (0, 12)],
  [.inl (1, [some 129, none, none]), .inr (0, 120), .inl (9, [none, some 131, none, none, none, none, none, none, none, none, none, none, none, some 132, some 133, some 134, some 135, some 136, some 137, some 138, some 139, none, none, none, some 140, none, none, none, some 141, some 142, some 143, some 144, some 145, none, none, none, none, some 146, none, none]), .inr (0, 900), .inr (0, 253), .inr (0, 253), .inr (0, 1518), .inr (0, 253), .inr (0, 253), .inr (2, 25), .inr (2, 25), .inr (2, 25), .inr (0, 8), .inr (0, 60), .inr (0, 60), .inr (0, 60)],
  [.inr (0, 2), .inr (0, 2), .inr (0, 400), .inr (2, 1), .inr (3, 1)]]
def NK : Nat := 149
def kd (a : Nat) : Option Kd := (KSS.getD (a / 16) [])[a % 16]?
/-- by class: the sort of each slot: 0 an int or a boolean, 1 a long, 2 a reference -/
def fso : Nat → List Nat
  | 0 => [2, 2, 2, 0]
  | 1 => [2, 0, 0]
  | 2 => [2, 0, 0]
  | 3 => [2, 2, 2, 2, 2, 2, 2, 2, 2, 2, 2, 0, 0, 0, 0, 0, 0, 0]
  | 4 => [2, 0]
  | 5 => [2, 2, 2, 2, 2, 0, 2, 2, 0, 0]
  | 6 => [2, 0, 0, 2, 2, 2, 2, 0, 0, 0, 0, 0, 0, 0, 0, 2]
  | 7 => [2, 0, 0, 0, 0, 0, 1, 0, 0]
  | 8 => [2, 2, 2, 2, 2, 0, 2, 2, 2, 2, 0]
  | _ => [0, 2, 0, 0, 0, 0, 0, 0, 0, 0, 0, 0, 1, 2, 2, 2, 2, 2, 2, 2, 2, 0, 0, 0, 2, 0, 0, 0, 2, 2, 2, 2, 2, 0, 0, 0, 0, 2, 0, 0]
def obC (a ci : Nat) : Bool := match kd a with
  | some (.inl (c, _)) => Nat.beq c ci
  | _ => false
def obR (a k : Nat) : Option Nat := match kd a with
  | some (.inl (_, rs)) => rs.getD k none
  | _ => none
def arN (a t : Nat) : Option Nat := match kd a with
  | some (.inr (u, n)) => match Nat.beq u t with
    | true => some n
    | false => none
  | _ => none
def arL (a : Nat) : Option Nat := match kd a with
  | some (.inr (_, n)) => some n
  | _ => none
/-- the constants: enum constants 1000.. (statements) and 1020.. (commands), their words 1040.. and 1060.., ALL 1080 and 1081, the switch maps 1082 and 1083, the word "held" 1084 -/
def cOk (a ci : Nat) : Prop := (ci = 20 ∧ 1000 ≤ a ∧ a < 1012) ∨ (ci = 21 ∧ 1020 ≤ a ∧ a < 1030)
