/-! ===== worlds of the pure machine, the contexts of a walk, 'At' and 'MetPM' ===== -/
def tr (ad : Nat → Nat) : Value → Value
  | .ref i => .ref (ad i)
  | v => v
def fv (ad : Nat → Nat) (h : PH) (a : Nat) (rs : List (Option Nat)) (so j : Nat) : Value := match so with
  | 0 => .int (gi h a j)
  | 1 => .long (gl h a j)
  | _ => va_rf ((rs.getD j none).map ad)
def fvs (ad : Nat → Nat) (h : PH) (a ci : Nat) (rs : List (Option Nat)) : List Value := (List.range (fso ci).length).map (fun j => fv ad h a rs ((fso ci).getD j 0) j)
def aev (ad : Nat → Nat) (h : PH) (a t : Nat) : (Nat → Int32) ⊕ (Nat → Int64) ⊕ (Nat → UInt32) ⊕ (Nat → UInt64) ⊕ (Nat → Option Nat) := match t with
  | 0 => .inl (h.1 a)
  | 1 => .inl (h.1 a)
  | 2 => .inr (.inl (h.2.1 a))
  | 3 => .inr (.inr (.inr (.inl (fun _ => 0))))
  | _ => .inr (.inr (.inr (.inr (fun j => (h.2.2.1 a j).map ad))))
def cellE (ad : Nat → Nat) (cA : Nat → ClassId) (h : PH) (a : Nat) : Option Kd → va_E
  | some (.inl (ci, rs)) => .inr (ci, fvs ad h a ci rs)
  | some (.inr (t, n)) => .inl (cA t, n, aev ad h a t)
  | none => .inr (0, [])
def wd (ad : Nat → Nat) (cA : Nat → ClassId) (h : PH) : va_W := (List.range NK).map (fun a => (ad a, cellE ad cA h a (kd a)))
abbrev pmCl : List vw_C := [(RX1, TX1, 4), (RX3, TX3, 3), (RX4, TX4, 3), (RX5, TX5, 18), (RX6, TX6, 2), (RX7, TX7, 10), (RX8, TX8, 16), (RX10, TX10, 9), (RX11, TX11, 11), (RX12, TX12, 6), (RX13, TX13, 28), (RJ0, TJ0, 4), (RJ4, TJ4, 4), (RJx4a65c, TJx4a65c, 3), (RJx35411, TJx35411, 4)]
def pmTy (cA : Nat → ClassId) : List (ClassId × FieldType) := [(cA 0, .int), (cA 1, .byte), (cA 2, .long), (cA 3, .long), (cA 4, .object RX8), (cA 5, .object "WaveUpgrade$Command"), (cA 6, .boolean), (cA 7, .object "java/lang/Object"), (cA 8, .array .boolean)]
def exN : Nat → String
  | 0 => "java/lang/IllegalStateException"
  | 1 => "java/lang/IllegalArgumentException"
  | _ => "java/lang/IndexOutOfBoundsException"
def cVal (ad : Nat → Nat) (a j : Nat) (r : Bool) : Value := match r with
  | true => .ref (ad (cfr a))
  | false => .int (cfv a j)
def cTy (t : Nat) : FieldType := match t with
  | 0 => .int
  | 1 => .byte
  | 4 => .object "WaveUpgrade$Statement"
  | _ => .object "WaveUpgrade$Command"
def cEv (ad : Nat → Nat) (t b : Nat) (j : Nat) : Value := match t with
  | 0 => .int (csw b j)
  | 1 => .int (cby b j)
  | _ => .ref (ad (cel b j))
def cSv (ad : Nat → Nat) (i : Nat) : Value := match i with
  | 0 => .int 1
  | i => .ref (ad i)
def cPre : String := "jdk/internal/util/Preconditions"
def cFmt : String := "SIOOBE_FORMATTER"
def cBiF : String := "Ljava/util/function/BiFunction;"
/-- what the start holds outside the world: Throwable's statics, which exceptions are not of which class, the constants -/
def CF (ad : Nat → Nat) (A : Nat → Prop) (U : State) (H : Heap) : Prop :=
  (vx_Zq Bundle.tN "UNASSIGNED_STACK" Bundle.steD A U H ∧ vx_Zq Bundle.tN "SUPPRESSED_SENTINEL" Bundle.listD A U H) ∧ True ∧
  (∀ (ci j : Nat) (o n d : String) (r : Bool), cFld ci j = some (o, n, d, r) → ∀ a, cOk a ci → va_OF o n d (cVal ad a j r) (ad a) A U H) ∧
  (∀ ci a, cOk a ci → va_O (cNm ci) (ad a) A U H) ∧
  (∀ t b, cAr b t → va_T (cTy t) (ad b) (cln b) (cEv ad t b) A U H) ∧
  (∀ (i : Nat) (C n d : String), cSt i = some (C, n, d) → va_Z C n d (cSv ad i) A U H) ∧
  (va_Z cPre cFmt cBiF .null A U H ∨ va_Z cPre cFmt cBiF (.ref (ad 1090)) A U H)
theorem CF.moved {ad : Nat → Nat} {A : Nat → Prop} {u U : State} {H : Heap} (hvm : u.vm.Alike U.vm) (h : CF ad A u H) : CF ad A U H := by
  obtain ⟨⟨a1, a2⟩, b, c1, c2, c3, c4, c5⟩ := h
  exact ⟨⟨a1.moved hvm, a2.moved hvm⟩, b, fun ci j o n d r h1 a h2 => (c1 ci j o n d r h1 a h2).moved hvm, fun ci a h1 => (c2 ci a h1).moved hvm, fun t b h1 => (c3 t b h1).moved hvm, fun i C n d h1 => (c4 i C n d h1).moved hvm, c5.imp (fun q => q.moved hvm) (fun q => q.moved hvm)⟩
theorem CF.kept {ad : Nat → Nat} {A : Nat → Prop} {U : State} {H H1 : Heap} (h : CF ad A U H) (hq : ∀ a : Nat, a < H.size → ¬ A a → H1[a]? = H[a]?) : CF ad A U H1 := by
  obtain ⟨⟨a1, a2⟩, b, c1, c2, c3, c4, c5⟩ := h
  exact ⟨⟨a1.kept hq, a2.kept hq⟩, b, fun ci j o n d r h1 a h2 => (c1 ci j o n d r h1 a h2).kept hq, fun ci a h1 => (c2 ci a h1).kept hq, fun t b h1 => (c3 t b h1).kept hq, fun i C n d h1 => (c4 i C n d h1).kept hq, c5.imp (fun q => q.kept hq) (fun q => q.kept hq)⟩
theorem CF.narrow {ad : Nat → Nat} {A B : Nat → Prop} {U : State} {H : Heap} (h : CF ad A U H) (hAB : ∀ q, B q → A q) : CF ad B U H := by
  obtain ⟨⟨a1, a2⟩, b, c1, c2, c3, c4, c5⟩ := h
  exact ⟨⟨a1.narrow hAB, a2.narrow hAB⟩, b, fun ci j o n d r h1 a h2 => (c1 ci j o n d r h1 a h2).narrow hAB, fun ci a h1 => (c2 ci a h1).narrow hAB, fun t b h1 => (c3 t b h1).narrow hAB, fun i C n d h1 => (c4 i C n d h1).narrow hAB, c5.imp (fun q => q.narrow hAB) (fun q => q.narrow hAB)⟩
/-- words that a list of words can't carry over a call: by premises of their own -/
def XW : List Jvm.Cond := [
  .methodLinkNest RX8 119 yX11_isIn RX11, .methodLinkNest RX8 73 yX11_copyRow RX11, .methodLinkNest RX3 22 yX11_copyRow RX11, .methodLinkNest RX5 83 yX11_copyRow RX11, .methodLinkNest RX1 150 yX11_isIn RX11,
  .castable "java/lang/IllegalStateException" "java/lang/IllegalStateException", .castable "java/lang/IllegalArgumentException" "java/lang/IllegalArgumentException", .castable "java/lang/IndexOutOfBoundsException" "java/lang/IndexOutOfBoundsException",
  .declares (Bundle.init0 "java/lang/RuntimeException"), .declares (Bundle.init0 "java/lang/Exception"), .declares (Bundle.init0 Bundle.tN)]
def XWk (w : Jvm.Cond) : Bool := match w with
  | .methodLinkNest .. => true
  | .castable .. => true
  | .declares .. => true
  | _ => false
theorem XW_k : XW.all XWk = true := by decide +kernel
def xwOk (ad : Nat → Nat) (U : State) : Prop := (∀ w ∈ XW, va_Nw w U) ∧ vk_R RX1 165 "held" (ad 1084) U
theorem xwOk.warm {ad : Nat → Nat} {s U : State} (hW : s.WarmedH U.vm) (h : xwOk ad s) : xwOk ad U := by
  refine ⟨?_, h.2.warm hW⟩
  intro w hw
  have h1 := List.all_eq_true.mp XW_k w hw
  have h2 := h.1 w hw
  cases w <;> first | exact va_Nw.warmM hW h2 | exact va_Nw.warmC hW h2 | exact va_Nw.warmD hW h2 | cases h1
theorem xwOk.same {ad : Nat → Nat} {u U : State} (hv : u.vm = U.vm) (h : xwOk ad u) : xwOk ad U := by
  refine ⟨?_, h.2.same hv.symm⟩
  intro w hw
  exact va_Nw.same (by
    have h1 := List.all_eq_true.mp XW_k w hw
    cases w <;> first | rfl | cases h1) hv (h.1 w hw)
/-- the good words of the tables -/
def tbG : List Jvm.Cond := lw_tbl.filter goodWord
def rtOk (ret : Option FieldType) (i : Instr) (v : Option Value) : Prop := match i with
  | .return_ => v = none ∧ ret = none
  | .ireturn => ∃ (x : Int32) (ty : FieldType), v = some (.int x) ∧ ret = some ty ∧ narrow ty (.int x) = .int x
  | .lreturn => ∃ x : Int64, v = some (.long x) ∧ ret = some .long
  | .freturn => ∃ x : UInt32, v = some (.float x) ∧ ret = some .float
  | .dreturn => ∃ x : UInt64, v = some (.double x) ∧ ret = some .double
  | .areturn => ((∃ n, ret = some (.object n)) ∨ ∃ t, ret = some (.array t)) ∧ (v = some .null ∨ ∃ a, v = some (.ref a))
  | _ => False
/-- 'throw new E()' stands at pc -/
def thOk (M : MI) (pc ik ic x : Nat) : Prop :=
  decode M.b pc = .ok (.new ik, 3) ∧ decode M.b (pc + 3) = .ok (.dup, 1) ∧ decode M.b (pc + 4) = .ok (.invokespecial ic, 3) ∧ decode M.b (pc + 7) = .ok (.athrow, 1) ∧
  6 ≤ M.fr ∧ 89 ≤ M.lo ∧ x < 3 ∧ Cond.initialized (exN x) ∈ tbG ∧ Cond.classLink M.y.cls ik (exN x) ∈ tbG ∧ Cond.methodLink M.y.cls ic (Bundle.init0 (exN x)) ∈ tbG
/-- a word lies at a place of the tables, and is a good one -/
def atW (p : Nat) (w : Jvm.Cond) : Bool := decide (tables_1[p]? = some w) && goodWord w
def fldOk (M : MI) (idx ci j so p : Nat) : Bool := match pmCl[ci]? with
  | some (_, T, N) => Nat.blt j N && atW p (.fieldLink M.y.cls idx (T j).1 (T j).2.1 (T j).2.2.1) && Nat.beq N (fso ci).length && (match so, (fso ci).getD j 9 with
    | 0, 0 => decide ((T j).2.2.1 = "I")
    | 1, 0 => decide ((T j).2.2.1 = "Z")
    | 2, 1 => decide ((T j).2.2.1 = "J")
    | 3, 2 => true
    | _, _ => false)
  | none => false
def retC (rt : Nat) : Option FieldType → Bool
  | none => Nat.beq rt 0
  | some .int => Nat.beq rt 1
  | some .boolean => Nat.beq rt 1
  | some .byte => Nat.beq rt 1
  | some .char => Nat.beq rt 1
  | some .long => Nat.beq rt 2
  | some .float => Nat.beq rt 3
  | some .double => Nat.beq rt 4
  | some (.object _) => Nat.beq rt 5
  | _ => false
/-- what is the same at every call of a method: its room below the caller's -/
def calB (M M' : MI) (n : Nat) (mcv rt : Nat) : Bool := Nat.beq mcv M'.cap && Nat.ble (M'.fr + 1) M.fr && Nat.ble (8 + (M'.nl + 11) + M'.lo) M.lo && retC rt M'.ret &&
  decide (M'.y.cls ≠ "java/lang/invoke/MethodHandle" ∧ M'.y.cls ≠ "java/lang/invoke/VarHandle" ∧ (parseMethodDescriptor M'.y.desc).map (fun d => d.parameters.length) = some n)
def okI (M : MI) (pc : Nat) (i : Instr) (len : Nat) (ax : List Nat) (ms : List MI) : Bool := match i with
  | .iconst _ => Nat.beq len 1
  | .bipush n => Nat.beq len 2 && decide ((Int8.ofInt n).toInt32 = cI n)
  | .sipush n => Nat.beq len 3 && decide ((Int16.ofInt n).toInt32 = cI n)
  | .fconst f => Nat.beq len 1 && decide (f = 0)
  | .dconst f => Nat.beq len 1 && decide (f = 0)
  | .ldc idx => Nat.beq len 2 && (match ax with
    | [n, p] => atW p (.constant M.y.cls idx (nI n))
    | [_] => decide (M.y.cls = RX1) && Nat.beq idx 165
    | _ => false)
  | .ldc2_w idx => Nat.beq len 3 && (match ax with
    | [n, p] => atW p (.constantLong M.y.cls idx (lN n))
    | _ => false)
  | .iload _ | .lload _ | .fload _ | .dload _ | .aload _ | .istore _ | .lstore _ | .fstore _ | .dstore _ | .astore _ => Nat.beq len 2
  | .iinc _ _ => Nat.beq len 3
  | .goto off => Nat.beq len 3 && (match ax with
    | [t] => decide ((pc : Int) + off = (t : Int))
    | _ => false)
  | .ifCond _ off => Nat.beq len 3 && (match ax with
    | [t] => decide ((pc : Int) + off = (t : Int))
    | _ => false)
  | .if_icmp _ off => Nat.beq len 3 && (match ax with
    | [t] => decide ((pc : Int) + off = (t : Int))
    | _ => false)
  | .ifnull off => Nat.beq len 3 && (match ax with
    | [t] => decide ((pc : Int) + off = (t : Int))
    | _ => false)
  | .ifnonnull off => Nat.beq len 3 && (match ax with
    | [t] => decide ((pc : Int) + off = (t : Int))
    | _ => false)
  | .tableswitch d lo hi offs => (match ax with
    | dt :: l0 :: ts => decide ((pc : Int) + d = (dt : Int)) && decide (lo = (l0 : Int)) && decide (hi + 1 = (l0 : Int) + (ts.length : Int)) && decide (offs.toList.map (fun o => (pc : Int) + o) = ts.map (fun t => ((t : Nat) : Int))) && Nat.blt (l0 + ts.length) 100000
    | _ => false)
  | .getfield idx => Nat.beq len 3 && (match ax with
    | [ci, j, so, p] => fldOk M idx ci j so p
    | [ci, j, so, p, _] => (match cFld ci j with
      | some (o, n, d, r) => atW p (.fieldLink M.y.cls idx o n d) && Nat.beq so (match r with
        | true => 3
        | false => 0)
      | none => false)
    | _ => false)
  | .putfield idx => Nat.beq len 3 && (match ax with
    | [ci, j, so, p] => fldOk M idx ci j so p && (match pmCl[ci]? with
      | some (_, T, _) => !(T j).2.2.2
      | none => false)
    | _ => false)
  | .iaload => Nat.beq len 1 && (match ax with
    | [] => true
    | [0] => true
    | [6] => Nat.beq M.sk 3
    | _ => false)
  | .baload => Nat.beq len 1 && (match ax with
    | [] => true
    | [1] => true
    | _ => false)
  | .aaload => Nat.beq len 1 && (match ax with
    | [q] => Nat.beq q 4 || Nat.beq q 5
    | [_, t] => Nat.beq t 4 || Nat.beq t 5
    | _ => false)
  | .arraylength => Nat.beq len 1 && (match ax with
    | [] => true
    | [6] => Nat.beq M.sk 3
    | [t] => Nat.beq t 0 || Nat.beq t 1 || Nat.beq t 4 || Nat.beq t 5
    | _ => false)
  | .getstatic idx => Nat.beq len 3 && (match ax with
    | [0, i, p] => (match cSt i with
      | some (C, n, d) => !(Nat.beq i 0) && atW p (.fieldLink M.y.cls idx C n d)
      | none => false)
    | [1, _, p] => atW p (.fieldLink M.y.cls idx "java/lang/String" "COMPACT_STRINGS" "Z")
    | [2, _, p] => atW p (.fieldLink M.y.cls idx cPre cFmt cBiF)
    | _ => false)
  | .if_acmp _ off => Nat.beq len 3 && (match ax with
    | [t] => decide ((pc : Int) + off = (t : Int))
    | _ => false)
  | .ldc_w idx => Nat.beq len 3 && (match ax with
    | [n, p] => atW p (.constant M.y.cls idx (nI n))
    | _ => false)
  | .ireturn => Nat.beq len 1 && (match ax with
    | [1] => decide (M.ret = some .int)
    | [6] => decide (M.ret = some .boolean)
    | [7] => decide (M.ret = some .byte)
    | [8] => decide (M.ret = some .char)
    | _ => false)
  | .return_ => Nat.beq len 1 && decide (M.ret = none)
  | .lreturn => Nat.beq len 1 && decide (M.ret = some .long)
  | .freturn => Nat.beq len 1 && decide (M.ret = some .float)
  | .dreturn => Nat.beq len 1 && decide (M.ret = some .double)
  | .areturn => Nat.beq len 1 && (match M.ret with
    | some (.object _) => true
    | _ => false)
  | .new ik => Nat.beq len 3 && (match ax with
    | [x, ic, p1, p2] => Nat.ble 6 M.fr && Nat.ble 89 M.lo && Nat.blt x 3 && decide (decode M.b (pc + 3) = .ok (.dup, 1)) && decide (decode M.b (pc + 4) = .ok (.invokespecial ic, 3)) && decide (decode M.b (pc + 7) = .ok (.athrow, 1)) && atW p1 (.classLink M.y.cls ik (exN x)) && atW p2 (.methodLink M.y.cls ic (Bundle.init0 (exN x)))
    | _ => false)
  | .invokevirtual idx => Nat.beq len 3 && (match ax, ms with
    | 0 :: n :: rt :: rc :: mcv :: p :: hs, [M'] => calB M M' n mcv rt && Nat.beq M'.sk 0 && atW p (.methodLink M.y.cls idx M'.y) && (match pmCl[rc]? with
      | some (C, _, _) => decide (M'.y.cls = C)
      | none => false) && hsOk M pc hs
    | 5 :: n :: rt :: rc :: mcv :: p :: hs, [M'] => calB M M' n mcv rt && Nat.beq M'.sk 0 && atW p (.methodLink M.y.cls idx M'.y) && decide (M'.y.cls = cNm rc) && hsOk M pc hs
    | [20, p], [] => atW p (.methodLink M.y.cls idx ⟨cNm 20, "ordinal", "()I"⟩) && jdkR M
    | _, _ => false)
  | .invokestatic idx => Nat.beq len 3 && (match ax, ms with
    | kind :: n :: rt :: _ :: mcv :: p :: hs, [M'] => calB M M' n mcv rt && (match kind with
      | 1 => Nat.beq M'.sk 1 && atW p (.methodLink M.y.cls idx M'.y)
      | 3 => Nat.beq M'.sk 2 && atW p (.methodLink M.y.cls idx M'.y)
      | 2 => Nat.beq M'.sk 1 && (match XW[p]? with
        | some w => decide (w = .methodLinkNest M.y.cls idx M'.y RX11)
        | none => false)
      | _ => false) && hsOk M pc hs
    | [10, p], [] => atW p (.methodLink M.y.cls idx Lib.Math.min.name) && jdkR M
    | [11, p], [] => atW p (.methodLink M.y.cls idx Lib.Math.max.name) && jdkR M
    | [12, p], [] => atW p (.methodLink M.y.cls idx Lib.Math.abs.name) && jdkR M
    | [13, p], [] => atW p (.methodLink M.y.cls idx yJ9_floorMod_7cf53) && jdkR M
    | [15, p], [] => atW p (.methodLink M.y.cls idx arraycopyName) && jdkR M
    | [16, p], [] => atW p (.methodLink M.y.cls idx arraycopyName) && jdkR M
    | _, _ => false)
  | _ => Nat.beq len 1
where
  jdkR (M : MI) : Bool := Nat.ble 1 M.fr && Nat.ble 60 M.lo
  hsOk (M : MI) (_ : Nat) (hs : List Nat) : Bool := match hs with
    | [] => decide (M.hh = [])
    | _ => false
def okE (M : MI) (e : En) : Bool := match e with
  | (pc, i, len, ax, ms) => decide (decode M.b pc = .ok (i, len)) && okI M pc i len ax ms
def rmM (M : MI) : Room := { frames := M.fr, cells := M.cap, slots := 6 * M.cap, locals := M.lo }
def headM (M : MI) : Jvm.Cond := match M.hh with
  | [] => .code M.y M.b M.nl M.ret
  | _ => .codeWith M.y M.b M.nl M.ret M.hh
def wsM (M : MI) : List Jvm.Cond := headM M :: tbG
/-- the heaps are the same at the numbers from 1000 on -/
def Hi (x h : PH) : Prop := ∀ a, 1000 ≤ a → h.1 a = x.1 a ∧ h.2.1 a = x.2.1 a ∧ h.2.2.1 a = x.2.2.1 a ∧ h.2.2.2 a = x.2.2.2 a
def scr (xs : PH) (_ : Nat) (h : PH) : Prop := Hi xs h
def adA (ad : Nat → Nat) (sz : Nat) : Nat → Prop := fun q => (∃ a, a < NK ∧ q = ad a) ∨ sz ≤ q
def tl (ad : Nat → Nat) (ls : Lc) : List (Nat × Value) := (List.range ls.length).filterMap (fun i => (ls.getD i none).map (fun v => (i, tr ad v)))
/-- the tables know the method -/
def MOK (M : MI) : Prop := headM M ∈ tbG ∧ Cond.initialized M.y.cls ∈ tbG ∧ plainName M.y.cls = true ∧ (match M.sk with
  | 0 => M.hh = [] ∧ Cond.instanceMethod M.y ∈ tbG ∧ Cond.selects M.y.cls M.y M.y ∈ tbG
  | 1 => M.hh = [] ∧ Cond.static M.y ∈ tbG
  | 2 => M.hh ≠ [] ∧ Cond.static M.y ∈ tbG
  | _ => False)
/-- the world in a heap, with all that the tables and the start say of it -/
def WH (ad : Nat → Nat) (cA : Nat → ClassId) (D : va_G) (xs : PH) (L : Nat) (A : Nat → Prop) (h : PH) (s : State) (H0 H : Heap) (locs : List Loc) : Prop :=
  va_P D pmCl (wd ad cA h) H ∧ va_D A (wd ad cA h) ∧ va_S A H0 H locs ∧ scr xs L h
def PcM (ad : Nat → Nat) (cA : Nat → ClassId) (D : va_G) (xs : PH) (L sz : Nat) (h : PH) (U : State) : Prop :=
  U.heap.size = sz ∧ va_P D pmCl (wd ad cA h) U.heap ∧ va_K D pmCl (pmTy cA) U ∧ va_D (fun _ => True) (wd ad cA h) ∧ scr xs L h ∧ CF ad (adA ad sz) U U.heap ∧ xwOk ad U
def PoM (ad : Nat → Nat) (cA : Nat → ClassId) (D : va_G) (xs : PH) (L : Nat) (A : Nat → Prop) (h : PH) (t : State) : Prop :=
  va_P D pmCl (wd ad cA h) t.heap ∧ va_D A (wd ad cA h) ∧ scr xs L h
def QcM (ad : Nat → Nat) (cA : Nat → ClassId) (D : va_G) (xs : PH) (L sz : Nat) (Q : Res → PH → Prop) : Array Value → State → Outcome → State → Prop :=
  fun _ st o t => (∃ (v : Option Value) (h : PH), o = .returned (v.map (tr ad)) ∧ Q (.inl v) h ∧ PoM ad cA D xs L (adA ad sz) h t) ∧ va_F (adA ad sz) st t
def XcM (ad : Nat → Nat) (cA : Nat → ClassId) (D : va_G) (xs : PH) (L sz : Nat) (Q : Res → PH → Prop) : String → State → State → Prop :=
  fun E st t => (∃ (x : Nat) (h : PH), exN x = E ∧ Q (.inr x) h ∧ PoM ad cA D xs L (adA ad sz) h t) ∧ va_F (adA ad sz) st t
/-- the contract of a method on numbers and pure heaps: from as and h it ends with Q -/
def MetPM (M : MI) (as : List Value) (h : PH) (Q : Res → PH → Prop) : Prop :=
  ∀ (l : Launch) (ad : Nat → Nat) (cA : Nat → ClassId) (D : va_G) (xs : PH) (L sz : Nat), l.stackTraces = false →
    vx_Met l M.y (wsM M) (rmM M) (va_Pc (as.map (tr ad)) (PcM ad cA D xs L sz h)) (QcM ad cA D xs L sz Q) (XcM ad cA D xs L sz Q) M.cap (6 * M.cap) (adA ad sz)
/-- a method's frame in a walk: the machine, the tables, the room, how it ends -/
def Cx (M : MI) (Q : Res → PH → Prop) (Z : State → Prop) (p : Program) (l : Launch) (e : Env) (R : Room) (s : State) (m : MethodId) (args : Array Value) (below : List Frame) (meth : Method) (c : Code)
    (ad : Nat → Nat) (cA : Nat → ClassId) (D : va_G) (A : Nat → Prop) (xs : PH) (L : Nat) : Prop :=
  CallFix p m c M.b M.nl s args tbG M.y.cls ∧ va_K D pmCl (pmTy cA) s ∧ (∀ q, s.heap.size ≤ q → A q) ∧ CF ad A s s.heap ∧ xwOk ad s ∧ (M.sk = 3 → True) ∧ l.stackTraces = false ∧
  (M.fr ≤ R.frames ∧ M.lo ≤ R.locals ∧ M.cap ≤ R.cells ∧ 6 * M.cap ≤ R.slots) ∧ c.exceptionTable.toList = tableOf M.hh ∧
  (∀ (v : Option Value) (h : PH) (H : Heap) (locs : List Loc) (cells slots : Nat) (pc : Nat) (i : Instr) (ls : Array Slot), decode M.b pc = .ok (i, 1) → rtOk M.ret i v → Q (.inl v) h → WH ad cA D xs L A h s s.heap H locs → cells ≤ M.cap → slots ≤ 6 * M.cap →
    W p l e R s m args below meth c H locs cells slots Z (F0 m pc ls ((v.map (tr ad)).toList))) ∧
  (∀ (x : Nat) (h : PH) (H : Heap) (locs : List Loc) (cells slots : Nat) (pc ik ic : Nat) (ls : Array Slot) (rest : List Value), thOk M pc ik ic x → Q (.inr x) h → WH ad cA D xs L A h s s.heap H locs → cells + 1 ≤ M.cap → slots + 6 ≤ 6 * M.cap → ls.size = M.nl → (rest.map fun v => v.category).sum ≤ 8 →
    W p l e R s m args below meth c H locs cells slots Z (F0 m pc ls rest)) ∧
  (∀ (x : Nat) (h : PH) (H : Heap) (locs : List Loc) (cells slots : Nat) (pc : Nat) (ls : Array Slot) (rest : List Value) (q : Addr) (ce : Cell), Q (.inr x) h → WH ad cA D xs L A h s s.heap H locs → cells ≤ M.cap → slots ≤ 6 * M.cap → H[q]? = some ce → ce.vm = .none → s.vm.findClass (exN x) = some ce.cls →
    vx_W p l e R s m args below meth c H locs cells slots Z (F0 m pc ls rest) q)
