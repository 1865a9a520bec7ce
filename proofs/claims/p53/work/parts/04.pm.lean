/-! ===== THE PURE MACHINE: heaps as four maps over numbered cells, one step of a method's code as a transformer of propositions ===== -/
abbrev PH : Type := (Nat → Nat → Int32) × (Nat → Nat → Int64) × (Nat → Nat → Option Nat) × (Nat → Nat → Nat)
def gi (h : PH) (a k : Nat) : Int32 := h.1 a k
def gl (h : PH) (a k : Nat) : Int64 := h.2.1 a k
def gr (h : PH) (a k : Nat) : Option Nat := h.2.2.1 a k
def gd (h : PH) (a k : Nat) : Nat := h.2.2.2 a k
def up2 {α : Type} (f : Nat → Nat → α) (a k : Nat) (x : α) : Nat → Nat → α := fun b j => if b = a then (if j = k then x else f b j) else f b j
def si (h : PH) (a k : Nat) (x : Int32) : PH := (up2 h.1 a k x, h.2)
def sl (h : PH) (a k : Nat) (x : Int64) : PH := (h.1, up2 h.2.1 a k x, h.2.2)
def sr (h : PH) (a k : Nat) (x : Option Nat) : PH := (h.1, h.2.1, up2 h.2.2.1 a k x, h.2.2.2)
def sd (h : PH) (a k : Nat) (x : Nat) : PH := (h.1, h.2.1, h.2.2.1, up2 h.2.2.2 a k x)
/-- n ints of the array a from place sp on, copied to the array b at place dp -/
def cpi (h : PH) (a sp b dp n : Nat) : PH := (fun c => if c = b then va_cpy (h.1 a) (h.1 b) sp dp n else h.1 c, h.2)
def cpl (h : PH) (a sp b dp n : Nat) : PH := (h.1, fun c => if c = b then va_cpy (h.2.1 a) (h.2.1 b) sp dp n else h.2.1 c, h.2.2)
/-- a cell's kind: an object (its class's number, its references by slot) or an array (its type's number, its length) -/
abbrev Kd : Type := (Nat × List (Option Nat)) ⊕ (Nat × Nat)
abbrev Res : Type := Option Value ⊕ Nat
abbrev Lc : Type := List (Option Value)
/-- a method: name, code, locals, answer, frames that it needs above itself, words of locals, exceptions that it may make -/
abbrev MI : Type := MethodName × ByteArray × Nat × Option FieldType × Nat × Nat × Nat × List (Nat × Nat × Nat × Nat) × Nat
def MI.y (M : MI) : MethodName := M.1
def MI.b (M : MI) : ByteArray := M.2.1
def MI.nl (M : MI) : Nat := M.2.2.1
def MI.ret (M : MI) : Option FieldType := M.2.2.2.1
def MI.fr (M : MI) : Nat := M.2.2.2.2.1
def MI.lo (M : MI) : Nat := M.2.2.2.2.2.1
def MI.cap (M : MI) : Nat := M.2.2.2.2.2.2.1
def MI.hh (M : MI) : List (Nat × Nat × Nat × Nat) := M.2.2.2.2.2.2.2.1
/-- 0 an instance method, 1 a static one, 2 a static one with handlers -/
def MI.sk (M : MI) : Nat := M.2.2.2.2.2.2.2.2
/-- a row of a method's code: place, instruction, length, numbers resolved ahead, the method that it calls -/
abbrev En : Type := Nat × Instr × Nat × List Nat × List MI
def cI : Int → Int32
  | .ofNat n => nI n
  | .negSucc n => -(nI (n + 1))
def isB (x : Int32) : Prop := x = 0 ∨ x = 1
def lget (ls : Lc) (i : Nat) : Option Value := ls.getD i none
def lclr (ls : Lc) : Nat → Lc
  | 0 => ls
  | j + 1 => match ls.getD j none with
    | some w => match w.category with
      | 2 => ls.set j none
      | _ => ls
    | none => ls
def lput1 (ls : Lc) (i : Nat) (v : Value) : Lc := (lclr ls i).set i (some v)
def lput2 (ls : Lc) (i : Nat) (v : Value) : Lc := ((lclr ls i).set i (some v)).set (i + 1) none
def lput0 (ls : Lc) (i : Nat) : Lc := (lclr ls i).set i none
def rf1 : Option Nat → Value
  | none => .null
  | some a => .ref a
abbrev KT : Type := Nat → Nat → Lc → List Value → PH → Prop
/-- what a call gives back to its caller: rV, rI, rL .. by the sort of its answer; q: where an exception goes -/
def rV (q : Nat → PH → Prop) (kk : PH → Prop) : Res → PH → Prop
  | .inl none, h => kk h
  | .inl (some _), _ => False
  | .inr e, h => q e h
def rI (q : Nat → PH → Prop) (kk : Int32 → PH → Prop) : Res → PH → Prop
  | .inl (some (.int x)), h => kk x h
  | .inl _, _ => False
  | .inr e, h => q e h
def rL (q : Nat → PH → Prop) (kk : Int64 → PH → Prop) : Res → PH → Prop
  | .inl (some (.long x)), h => kk x h
  | .inl _, _ => False
  | .inr e, h => q e h
def rF (q : Nat → PH → Prop) (kk : UInt32 → PH → Prop) : Res → PH → Prop
  | .inl (some (.float x)), h => kk x h
  | .inl _, _ => False
  | .inr e, h => q e h
def rD (q : Nat → PH → Prop) (kk : UInt64 → PH → Prop) : Res → PH → Prop
  | .inl (some (.double x)), h => kk x h
  | .inl _, _ => False
  | .inr e, h => q e h
/-- java.lang.Math.floorMod -/
def fmV (x y : Int32) : Int32 := if 0 ≤ x ^^^ y then x - x / y * y else if x - x / y * y = 0 then x - x / y * y else (x - x / y * y) + y
/-- a reference's answer, or null -/
def rA (q : Nat → PH → Prop) (k1 : Nat → PH → Prop) (k2 : PH → Prop) : Res → PH → Prop
  | .inl (some (.ref x)), h => k1 x h
  | .inl (some .null), h => k2 h
  | .inl _, _ => False
  | .inr e, h => q e h
/-- the cells of the world, by number -/
def KSS : List (List Kd) := [
  [.inl (8, [some 1, some 60, some 67, some 74, some 81, none, some 13, some 4, some 5, some 3, none]), .inl (7, [some 2, none, none, none, none, none, none, none, none]), .inr (1, 900), .inr (1, 336), .inl (0, [some 1, some 74, some 30, none]), .inl (5, [some 6, some 7, some 8, some 9, some 10, none, some 11, some 12, none, none]), .inr (5, 30), .inr (0, 30), .inr (0, 30), .inr (0, 30), .inr (0, 30), .inr (0, 2), .inr (0, 2), .inl (2, [some 14, none, none]), .inr (4, 6), .inl (3, [some 16, some 18, some 19, some 20, some 21, some 23, some 24, some 25, some 26, some 28, some 29, none, none, none, none, none, none, none])],
  [.inl (4, [some 17, none]), .inr (2, 8), .inr (0, 8), .inr (0, 8), .inr (0, 8), .inl (4, [some 22, none]), .inr (2, 5), .inr (0, 5), .inr (0, 5), .inr (0, 5), .inl (4, [some 27, none]), .inr (2, 12), .inr (0, 12), .inr (0, 12), .inl (3, [some 31, some 33, some 34, some 35, some 36, some 38, some 39, some 40, some 41, some 43, some 44, none, none, none, none, none, none, none]), .inl (4, [some 32, none])],
  [.inr (2, 8), .inr (0, 8), .inr (0, 8), .inr (0, 8), .inl (4, [some 37, none]), .inr (2, 5), .inr (0, 5), .inr (0, 5), .inr (0, 5), .inl (4, [some 42, none]), .inr (2, 12), .inr (0, 12), .inr (0, 12), .inl (3, [some 46, some 48, some 49, some 50, some 51, some 53, some 54, some 55, some 56, some 58, some 59, none, none, none, none, none, none, none]), .inl (4, [some 47, none]), .inr (2, 8)],
  [.inr (0, 8), .inr (0, 8), .inr (0, 8), .inl (4, [some 52, none]), .inr (2, 5), .inr (0, 5), .inr (0, 5), .inr (0, 5), .inl (4, [some 57, none]), .inr (2, 12), .inr (0, 12), .inr (0, 12), .inl (6, [some 15, none, none, some 61, some 62, some 63, some 64, none, none, none, none, none, none, none, none, some 65]), .inr (0, 12), .inr (0, 12), .inr (0, 12)],
  [.inr (0, 12), .inl (1, [some 66, none, none]), .inr (0, 120), .inl (6, [some 15, none, none, some 68, some 69, some 70, some 71, none, none, none, none, none, none, none, none, some 72]), .inr (0, 12), .inr (0, 12), .inr (0, 12), .inr (0, 12), .inl (1, [some 73, none, none]), .inr (0, 120), .inl (6, [some 30, none, none, some 75, some 76, some 77, some 78, none, none, none, none, none, none, none, none, some 79]), .inr (0, 12), .inr (0, 12), .inr (0, 12), .inr (0, 12), .inl (1, [some 80, none, none])],
  [.inr (0, 120), .inl (6, [some 45, none, none, some 82, some 83, some 84, some 85, none, none, none, none, none, none, none, none, some 86]), .inr (0, 12), .inr (0, 12), .inr (0, 12), .inr (0, 12), .inl (1, [some 87, none, none]), .inr (0, 120), .inl (6, [some 15, none, none, some 89, some 90, some 91, some 92, none, none, none, none, none, none, none, none, some 93]), .inr (0, 12), .inr (0, 12), .inr (0, 12), .inr (0, 12), .inl (1, [some 94, none, none]), .inr (0, 120), .inl (6, [some 15, none, none, some 96, some 97, some 98, some 99, none, none, none, none, none, none, none, none, some 100])],
  [.inr (0, 12), .inr (0, 12), .inr (0, 12), .inr (0, 12), .inl (1, [some 101, none, none]), .inr (0, 120), .inl (6, [some 15, none, none, some 103, some 104, some 105, some 106, none, none, none, none, none, none, none, none, some 107]), .inr (0, 12), .inr (0, 12), .inr (0, 12), .inr (0, 12), .inl (1, [some 108, none, none]), .inr (0, 120), .inl (6, [some 15, none, none, some 110, some 111, some 112, some 113, none, none, none, none, none, none, none, none, some 114]), .inr (0, 12), .inr (0, 12)],
  [.inr (0, 12), .inr (0, 12), .inl (1, [some 115, none, none]), .inr (0, 120), .inl (6, [some 15, none, none, some 117, some 118, some 119, some 120, none, none, none, none, none, none, none, none, some 121]), .inr (0, 12), .inr (0, 12), .inr (0, 12), .inr (0, 12), .inl (1, [some 122, none, none]), .inr (0, 120), .inl (6, [some 15, none, none, some 124, some 125, some 126, some 127, none, none, none, none, none, none, none, none, some 128]), .inr (0, 12), .inr (0, 12), .inr (0, 12), .inr (0, 12)],
  [.inl (1, [some 129, none, none]), .inr (0, 120)]]
def NK : Nat := 130
def kd (a : Nat) : Option Kd := (KSS.getD (a / 16) [])[a % 16]?
/-- by class: the sort of each slot: 0 an int or a boolean, 1 a long, 2 a reference -/
def fso : Nat → List Nat
  | 0 => [2, 2, 2, 0]
  | 1 => [2, 0, 0]
  | 2 => [2, 0, 0]
  | 3 => [2, 2, 2, 2, 2, 2, 2, 2, 2, 2, 2, 0, 0, 0, 0, 0, 0, 0]
  | 4 => [2, 0]
  | 5 => [2, 2, 2, 2, 2, 0, 2, 2, 0, 0]
  | 6 => [2, 0, 0, 2, 2, 2, 2, 0, 0, 0, 0, 0, 0, 0, 0, 2]
  | 7 => [2, 0, 0, 0, 0, 0, 1, 0, 0]
  | 8 => [2, 2, 2, 2, 2, 0, 2, 2, 2, 2, 0]
  | _ => []
def obC (a ci : Nat) : Bool := match kd a with
  | some (.inl (c, _)) => Nat.beq c ci
  | _ => false
def obR (a k : Nat) : Option Nat := match kd a with
  | some (.inl (_, rs)) => rs.getD k none
  | _ => none
def arN (a t : Nat) : Option Nat := match kd a with
  | some (.inr (u, n)) => match Nat.beq u t with
    | true => some n
    | false => none
  | _ => none
def arL (a : Nat) : Option Nat := match kd a with
  | some (.inr (_, n)) => some n
  | _ => none
/-- the constants: statements 1000.., commands 1020.., their words 1040.., 1060.. and "held" 1084, the words' bytes 60 further on, ALL 1080 and 1081, the switch maps 1082 and 1083 -/
def cOk (a ci : Nat) : Prop := (ci = 20 ∧ 1000 ≤ a ∧ a < 1012) ∨ (ci = 21 ∧ 1020 ≤ a ∧ a < 1020) ∨ (ci = 22 ∧ ((1040 ≤ a ∧ a < 1052) ∨ (1060 ≤ a ∧ a < 1060) ∨ a = 1084))
/-- 0 ints, 1 bytes, 4 statements, 5 commands -/
def cAr (b t : Nat) : Prop := (t = 0 ∧ (b = 1082 ∨ (b = 1083 ∧ b = 0))) ∨ (t = 1 ∧ ((1100 ≤ b ∧ b < 1112) ∨ (1120 ≤ b ∧ b < 1120) ∨ b = 1144)) ∨ (t = 4 ∧ b = 1080) ∨ (t = 5 ∧ b = 1081 ∧ b = 0)
def cI1 (k : Nat) (l : List Int32) : Int32 := l.getD k 0
/-- the int fields of constants: of a statement 1 mark, 2 least, 3 most; of a command 1 hasMember, 2 hasVersion, 3 least, 4 most; 9 ordinal -/
def cfv (a j : Nat) : Int32 := match Nat.blt a 1020 with
  | true => match j with
    | 1 => cI1 (a - 1000) [0, 0, 0, 0, 0, 0, 1, 2, 4, 8, 16, 32]
    | 2 => cI1 (a - 1000) [0, 0, 0, 0, 0, 0, 1, 0, 1, 1, 0, 0]
    | 3 => cI1 (a - 1000) [0, 0, 0, 0, 0, 0, 9, 7, 12, 99, 99, 999]
    | _ => nI (a - 1000)
  | false => match Nat.blt a 1030 with
    | true => match j with
      | 1 => cI1 (a - 1020) [0, 0, 0, 0, 1, 1, 1, 1, 0, 0]
      | 2 => cI1 (a - 1020) [0, 1, 0, 0, 0, 0, 0, 1, 0, 0]
      | 3 => cI1 (a - 1020) [0, 0, 0, 0, 0, 0, 0, 0, 0, 1]
      | 4 => cI1 (a - 1020) [999, (-1), (-1), (-1), (-1), (-1), 999, (-1), 999, 20]
      | _ => nI (a - 1020)
    | false => 0
/-- the reference fields: letters, value -/
def cfr (a : Nat) : Nat := match Nat.blt a 1030 with
  | true => a + 40
  | false => a + 60
/-- the texts of the constants, by place -/
def cTx : List (List Nat) := [[118, 101, 114, 115, 105, 111, 110], [116, 97, 108, 107, 115], [112, 108, 97, 99, 101], [109, 101, 109, 98, 101, 114], [108, 105, 110, 107], [119, 97, 118, 101], [102, 111, 114, 109, 97, 116], [115, 107, 101, 119], [100, 111, 119, 110], [116, 97, 107, 101, 115], [115, 111, 97, 107], [108, 105, 109, 105, 116], [112, 97, 115, 115], [115, 116, 97, 114, 116], [115, 116, 111, 112], [103, 111], [104, 111, 108, 100], [102, 114, 101, 101], [114, 101, 112, 111, 114, 116], [99, 104, 97, 110, 103, 101], [99, 111, 109, 109, 105, 116], [114, 101, 112, 101, 97, 116], [104, 101, 108, 100]]
/-- the place of a bytes' cell among the texts -/
def cTi (b : Nat) : Nat := match Nat.blt b 1112 with
  | true => b - 1100
  | false => match Nat.blt b 1130 with
    | true => b - 1120 + 12
    | false => 22
def cln (b : Nat) : Nat := match b with
  | 1080 => 12
  | 1081 => 10
  | 1082 => 12
  | 1083 => 10
  | b => (cTx.getD (cTi b) []).length
def cby (b j : Nat) : Int32 := nI ((cTx.getD (cTi b) []).getD j 0)
def csw (b j : Nat) : Int32 := match Nat.beq b 1082 with
  | true => cI1 j [1, 8, 2, 3, 5, 4, 6, 7, 9, 10, 11, 0]
  | false => cI1 j [1, 2, 3, 4, 5, 6, 7, 8, 9, 0]
def cel (b j : Nat) : Nat := match Nat.beq b 1080 with
  | true => 1000 + j
  | false => 1020 + j
/-- a constant's field: owner, name, descriptor, whether it is a reference -/
def cFld (ci j : Nat) : Option (String × String × String × Bool) := match ci, j with
  | 20, 0 => some ("WaveUpgrade$Statement", "letters", "Ljava/lang/String;", true)
  | 20, 1 => some ("WaveUpgrade$Statement", "mark", "I", false)
  | 20, 2 => some ("WaveUpgrade$Statement", "least", "I", false)
  | 20, 3 => some ("WaveUpgrade$Statement", "most", "I", false)
  | 20, 9 => some ("java/lang/Enum", "ordinal", "I", false)
  | 21, 0 => some ("WaveUpgrade$Command", "letters", "Ljava/lang/String;", true)
  | 21, 1 => some ("WaveUpgrade$Command", "hasMember", "Z", false)
  | 21, 2 => some ("WaveUpgrade$Command", "hasVersion", "Z", false)
  | 21, 3 => some ("WaveUpgrade$Command", "least", "I", false)
  | 21, 4 => some ("WaveUpgrade$Command", "most", "I", false)
  | 21, 9 => some ("java/lang/Enum", "ordinal", "I", false)
  | 22, 0 => some ("java/lang/String", "value", "[B", true)
  | 22, 1 => some ("java/lang/String", "coder", "B", false)
  | _, _ => none
def cNm (ci : Nat) : String := match ci with
  | 20 => "WaveUpgrade$Statement"
  | 21 => "WaveUpgrade$Command"
  | _ => "java/lang/String"
/-- static fields: class, name, descriptor, the constant (or 0 for an int 1) -/
def cSt (i : Nat) : Option (String × String × String) := match i with
  | 0 => some ("java/lang/String", "COMPACT_STRINGS", "Z")
  | 1080 => some ("WaveUpgrade$Statement", "ALL", "[LWaveUpgrade$Statement;")
  | 1082 => some ("WaveUpgrade$1", "$SwitchMap$WaveUpgrade$Statement", "[I")
  | _ => none
