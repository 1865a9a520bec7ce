/-! ===== the law's machine: one step ===== -/
/-- a method with another room of its own -/
def wcap (M : MI) (n : Nat) : MI := (M.1, M.2.1, M.2.2.1, M.2.2.2.1, M.2.2.2.2.1, M.2.2.2.2.2.1, n, M.2.2.2.2.2.2.2.1, M.2.2.2.2.2.2.2.2)
/-- a static call whose cost is chosen -/
def qcv (mq : MI → List Value → PH → (Res → PH → Prop) → Prop) (M : MI) (k : KT) (pc : Nat) (M' : MI) (n rt : Nat) (c : Nat) (ls : Lc) (st : List Value) (h : PH) : Prop :=
  len9 n st <| cat8 (st.drop n) <| ∃ cp, c + cp ≤ M.cap ∧ mq (wcap M' cp) (st.take n).reverse h (conq rt (fun vs h' => FrM M' h h' → k (pc + 3) (c + cp) ls (vs ++ st.drop n) h'))
def qst (mq mp : MI → List Value → PH → (Res → PH → Prop) → Prop) (M : MI) (Q : Res → PH → Prop) (k : KT) (e : En) (c : Nat) (ls : Lc) (st : List Value) (h : PH) : Prop :=
  match e with
  | (pc, i, len, ax, ms) => match i with
    | .getfield _ => match ax with
      | [ci, j, so, _, _] => qget k pc c ls st h ci j so
      | _ => False
    | .putfield _ => match ax with
      | [ci, j, so, _, _] => qput k pc c ls st h ci j so
      | _ => False
    | .new _ => match ax with
      | ci :: _ => qnew M k pc c ls st h ci
      | _ => False
    | .newarray _ => match ax with
      | t :: _ => qnewa M k pc 2 c ls st h t
      | _ => False
    | .anewarray _ => qnewa M k pc 3 c ls st h 7
    | .multianewarray _ _ => qmna M k pc c ls st h
    | .iaload => qald k 0 pc c ls st h
    | .baload => match ax with
      | t :: _ => qald k t pc c ls st h
      | _ => False
    | .aaload => match ax with
      | t :: _ => qald k t pc c ls st h
      | _ => False
    | .iastore => qast k 0 pc c ls st h
    | .bastore => match ax with
      | t :: _ => qast k t pc c ls st h
      | _ => False
    | .aastore => qast k 7 pc c ls st h
    | .arraylength => qaln k pc c ls st h
    | .checkcast _ => match ax with
      | t :: _ => qcast k t pc c ls st h
      | _ => False
    | .getstatic _ => qgst k pc c ls st h ax
    | .ldc _ => qldc k pc c ls st h ax
    | .if_acmp cd _ => match ax with
      | t :: _ => qacmp k pc t c cd ls st h
      | _ => False
    | .dup_x1 => match st with
      | x :: y :: r => (x.category = 1 ∧ y.category = 1) ∧ k (pc + 1) c ls (x :: y :: x :: r) h
      | _ => False
    | .ineg => match st with
      | .int x :: r => k (pc + 1) c ls (.int (-x) :: r) h
      | _ => False
    | .areturn => str Q 5 st h
    | .invokevirtual _ => match ax, ms with
      | 19 :: _, [] => qcln M k pc c ls st h
      | kind :: n :: rt :: rc :: mcv :: _, [M'] => qcal mq mp M k pc M' kind n rt rc mcv c ls st h
      | kind :: _, [] => qnat k pc kind c ls st h
      | _, _ => False
    | .invokestatic _ => match ax, ms with
      | 8 :: n :: rt :: _, [M'] => qcv mq M k pc M' n rt c ls st h
      | kind :: n :: rt :: rc :: mcv :: _, [M'] => qcal mq mp M k pc M' kind n rt rc mcv c ls st h
      | kind :: _, [] => qnat k pc kind c ls st h
      | _, _ => False
    | .invokespecial _ => match ax, ms with
      | kind :: n :: rt :: rc :: mcv :: _, [M'] => qcal mq mp M k pc M' kind n rt rc mcv c ls st h
      | kind :: _, [] => qnat k pc kind c ls st h
      | _, _ => False
    | .invokeinterface _ _ => match ax, ms with
      | kind :: n :: rt :: rc :: mcv :: _, [M'] => qcal mq mp M k pc M' kind n rt rc mcv c ls st h
      | _, _ => False
    | _ => stp mp M Q k k e c ls st h
def okQc (M M' : MI) (n _rt mcv : Nat) : Bool := calQ M M' n mcv && (!(flQ M') || flQ M)
def okQ (M : MI) (e : En) : Bool := match e with
  | (pc, i, len, ax, ms) => match i with
    | .getfield idx => decide (decode M.b pc = .ok (.getfield idx, 3)) && (match ax with
      | [ci, j, so, p, nst] => fldQ M idx ci j so p nst
      | _ => false)
    | .putfield idx => decide (decode M.b pc = .ok (.putfield idx, 3)) && (match ax with
      | [ci, j, so, p, nst] => fldQ M idx ci j so p nst && !(Nat.beq nst 1) && (match pmCl[ci]? with
        | some (_, T, _) => !(T j).2.2.2 || (decide (M.y.name = "<init>") && decide ((T j).1 = M.y.cls))
        | none => false)
      | _ => false)
    | .new idx => decide (decode M.b pc = .ok (.new idx, 3)) && (match ax with
      | [ci, p1, p2, p3] => Nat.ble 9 ci && (match pmCl[ci]? with
        | some (C, _, N) => atW p1 (.classLink M.y.cls idx C) && atW p2 (.instantiable C N) && atW p3 (.initialized C)
        | none => false)
      | _ => false)
    | .newarray at' => decide (decode M.b pc = .ok (.newarray at', 2)) && (match ax with
      | [t, p] => ((Nat.beq t 0 && decide (newarray.typeOf at' = .int)) || (Nat.beq t 1 && decide (newarray.typeOf at' = .byte))) && atW p (.arrayClass (newarray.typeOf at'))
      | _ => false)
    | .anewarray idx => decide (decode M.b pc = .ok (.anewarray idx, 3)) && (match ax with
      | [p] => atW p (.classLink M.y.cls idx "java/lang/Object")
      | _ => false)
    | .multianewarray idx _ => decide (decode M.b pc = .ok (.multianewarray idx 2, 4)) && (match ax with
      | [p1, p2] => atW p1 (.classLink M.y.cls idx "[[Z") && atW p2 (.arrayClass .boolean)
      | _ => false)
    | .iaload => decide (decode M.b pc = .ok (.iaload, 1))
    | .baload => decide (decode M.b pc = .ok (.baload, 1)) && (match ax with
      | [t] => Nat.beq t 1 || Nat.beq t 6
      | _ => false)
    | .aaload => decide (decode M.b pc = .ok (.aaload, 1)) && (match ax with
      | [t] => Nat.beq t 7 || Nat.beq t 8
      | _ => false)
    | .iastore => decide (decode M.b pc = .ok (.iastore, 1))
    | .bastore => decide (decode M.b pc = .ok (.bastore, 1)) && (match ax with
      | [t] => Nat.beq t 1 || Nat.beq t 6
      | _ => false)
    | .aastore => decide (decode M.b pc = .ok (.aastore, 1))
    | .arraylength => decide (decode M.b pc = .ok (.arraylength, 1))
    | .checkcast idx => decide (decode M.b pc = .ok (.checkcast idx, 3)) && (match ax with
      | [0, p] => atW p (.classLink M.y.cls idx RX12)
      | [1, p] => atW p (.classLink M.y.cls idx "[Ljava/lang/Object;")
      | [2, p] => atW p (.classLink M.y.cls idx "[B")
      | _ => false)
    | .getstatic idx => decide (decode M.b pc = .ok (.getstatic idx, 3)) && (match ax with
      | [0, i, p] => gQ.any (fun q => Nat.beq q.2.2.2 i && atW p (.fieldLink M.y.cls idx q.1 q.2.1 q.2.2.1))
      | [1, _, p] => atW p (.fieldLink M.y.cls idx "java/lang/String" "COMPACT_STRINGS" "Z")
      | [2, _, p] => atW p (.fieldLink M.y.cls idx cPre cFmt cBiF)
      | _ => false)
    | .ldc idx => decide (decode M.b pc = .ok (.ldc idx, 2)) && (match ax with
      | [n, p] => atW p (.constant M.y.cls idx (nI n))
      | [i] => decide (M.y.cls = RX13) && (match sQi[i]? with
        | some (j, _) => Nat.beq j idx
        | none => false)
      | [_, _, p] => atW p (.classLink M.y.cls idx "[Ljava/lang/Object;")
      | _ => false)
    | .if_acmp cd off => decide (decode M.b pc = .ok (.if_acmp cd off, 3)) && (match ax with
      | [t] => decide ((pc : Int) + off = (t : Int))
      | _ => false)
    | .dup_x1 => decide (decode M.b pc = .ok (.dup_x1, 1))
    | .ineg => decide (decode M.b pc = .ok (.ineg, 1))
    | .areturn => decide (decode M.b pc = .ok (.areturn, 1)) && (match M.ret with
      | some (.object _) => true
      | some (.array _) => true
      | _ => false)
    | .invokevirtual idx => decide (decode M.b pc = .ok (.invokevirtual idx, 3)) && (match ax, ms with
      | 0 :: n :: rt :: rc :: mcv :: [p], [M'] => okQc M M' n rt mcv && Nat.beq M'.sk 0 && atW p (.methodLink M.y.cls idx M'.y) && decide (rcN rc = M'.y.cls) && Nat.ble 1 rc && Nat.ble rc 6
      | 5 :: n :: rt :: rc :: mcv :: [p, p1, p2], [M'] => okQc M M' n rt mcv && Nat.beq M'.sk 4 && atW p (.methodLink M.y.cls idx M'.y) && atW p1 (.sameMethod M'.y.cls M'.y.cls M'.y.name M'.y.desc) && atW p2 (.selects (rcN rc) M'.y M'.y) && Nat.ble 1 rc && Nat.ble rc 6
      | 13 :: n :: rt :: rc :: mcv :: [p, p1, p2], [M'] => okQc M M' n rt mcv && Nat.beq M'.sk 4 && atW p (.methodLink M.y.cls idx M'.y) && atW p1 (.sameMethod M'.y.cls M'.y.cls M'.y.name M'.y.desc) && (match XQ[p2]? with
        | some w => decide (w = .selects (rcN rc) M'.y M'.y)
        | none => false) && Nat.ble 1 rc && Nat.ble rc 6
      | 14 :: n :: rt :: rc :: mcv :: [p, p1, p2, p3, p4], [M'] => okQc M M' n rt mcv && Nat.beq M'.sk 4 && atW p (.methodLink M.y.cls idx yJ5_length_8abf5) && atW p1 (.sameMethod yJ5_length_8abf5.cls yJ5_length_8abf5.cls yJ5_length_8abf5.name yJ5_length_8abf5.desc) && atW p2 (.instanceMethod yJ5_length_8abf5) && atW p3 (.selects (rcN rc) yJ5_length_8abf5 M'.y) && atW p4 (.code yJ5_length_8abf5 cJ5_length_8abf5 1 (some .int)) && decide (yJ5_length_8abf5.desc = M'.y.desc) && Nat.ble 1 rc && Nat.ble rc 6
      | 9 :: n :: rt :: _ :: mcv :: [p], [M'] => okQc M M' n rt mcv && flQ M && Nat.beq M'.sk 0 && atW p (.methodLink M.y.cls idx M'.y) && decide (M'.y.cls = RX11)
      | [19, p], [] => Nat.ble 1 M.fr && Nat.ble 60 M.lo && atW p (.methodLink M.y.cls idx ⟨"[B", "clone", "()Ljava/lang/Object;"⟩)
      | [17, p], [] => Nat.ble 1 M.fr && Nat.ble 60 M.lo && atW p (.methodLink M.y.cls idx ⟨"java/lang/Object", "getClass", "()Ljava/lang/Class;"⟩)
      | _, _ => false)
    | .invokestatic idx => decide (decode M.b pc = .ok (.invokestatic idx, 3)) && (match ax, ms with
      | 1 :: n :: rt :: _ :: mcv :: [p], [M'] => okQc M M' n rt mcv && (Nat.beq M'.sk 1 || Nat.beq M'.sk 5) && atW p (.methodLink M.y.cls idx M'.y)
      | 8 :: n :: rt :: _ :: mcv :: [p], [M'] => okQc M M' n rt mcv && (Nat.beq M'.sk 1 || Nat.beq M'.sk 5) && atW p (.methodLink M.y.cls idx M'.y)
      | 2 :: n :: rt :: _ :: mcv :: [p], [M'] => okQc M M' n rt mcv && (Nat.beq M'.sk 1 || Nat.beq M'.sk 5) && (match XQ[p]? with
        | some w => decide (w = .methodLinkNest M.y.cls idx M'.y RL)
        | none => false)
      | [10, p], [] => Nat.ble 1 M.fr && Nat.ble 60 M.lo && atW p (.methodLink M.y.cls idx Lib.Math.min.name)
      | [11, p], [] => Nat.ble 1 M.fr && Nat.ble 60 M.lo && atW p (.methodLink M.y.cls idx Lib.Math.max.name)
      | [12, p], [] => Nat.ble 1 M.fr && Nat.ble 60 M.lo && atW p (.methodLink M.y.cls idx Lib.Math.abs.name)
      | [15, p], [] => Nat.ble 1 M.fr && Nat.ble 60 M.lo && atW p (.methodLink M.y.cls idx arraycopyName)
      | [16, p], [] => Nat.ble 1 M.fr && Nat.ble 60 M.lo && atW p (.methodLink M.y.cls idx arraycopyName)
      | _, _ => false)
    | .invokespecial idx => decide (decode M.b pc = .ok (.invokespecial idx, 3)) && (match ax, ms with
      | 3 :: n :: rt :: _ :: mcv :: [p], [M'] => okQc M M' n rt mcv && Nat.beq M'.sk 2 && atW p (.methodLink M.y.cls idx M'.y)
      | 4 :: n :: rt :: _ :: mcv :: [p], [M'] => okQc M M' n rt mcv && Nat.beq M'.sk 2 && (match XQ[p]? with
        | some w => decide (w = .methodLinkNest M.y.cls idx M'.y RL)
        | none => false)
      | 6 :: n :: rt :: rc :: mcv :: [p, p1, p2], [M'] => okQc M M' n rt mcv && Nat.beq M'.sk 4 && atW p (.methodLink M.y.cls idx M'.y) && atW p1 (.sameMethod M'.y.cls M'.y.cls M'.y.name M'.y.desc) && atW p2 (.superclass M.y.cls M'.y.cls) && decide (M'.y.name ≠ "<init>") && Nat.ble 1 rc && Nat.ble rc 6
      | [18, p], [] => Nat.ble 1 M.fr && Nat.ble 60 M.lo && atW p (.methodLink M.y.cls idx Lib.objectInit)
      | _, _ => false)
    | .invokeinterface idx cn => decide (decode M.b pc = .ok (.invokeinterface idx cn, 5)) && (match ax, ms with
      | 7 :: n :: rt :: rc :: mcv :: [p, f, p2], [M'] => okQc M M' n rt mcv && (Nat.beq M'.sk 0 || Nat.beq M'.sk 4) && (match FQ[f]? with
        | some x => decide (x.1 = rcN rc) && decide (x.2.2 = M'.y) && decide (x.2.1.desc = M'.y.desc) && atW p (.methodLink M.y.cls idx x.2.1) && atW p2 (.selects (rcN rc) x.2.1 M'.y)
        | none => false) && Nat.ble 1 rc && Nat.ble rc 6
      | _, _ => false)
    | _ => pureI i && okE M e
