/-! ===== walks and contracts of the law's machine ===== -/
def flQ (M : MI) : Bool := Nat.beq M.sk 5
def rmQ (M : MI) : Room := { frames := M.fr, cells := M.cap, slots := 12 * M.cap, locals := M.lo }
/-- the world over a walk: X what stands ahead of the law's own cells, L these, h0 the numbers at the method's entry -/
def WL (fl : Bool) (ad : Nat → Nat) (cA : Nat → ClassId) (D : va_G) (X : PH → va_W) (h0 : PH) (A : Nat → Prop) (h : PH) (s : State) (H0 H : Heap) (locs : List Loc) : Prop :=
  ∃ L : List Nat, va_P D pmCl (X h ++ pq ad cA h L) H ∧ va_D A (X h ++ pq ad cA h L) ∧ va_S A H0 H locs ∧ KdOk h L ∧ Md h0 h ∧ (fl = false → Lw h0 h)
def frQ (w : va_W) (L : List Nat) (sz : Nat) : Nat → Prop := fun q => (∃ (i : Nat) (e : va_E), w[i]? = some (q, e)) ∨ q ∈ L ∨ sz ≤ q
def PcQ (fl : Bool) (ad : Nat → Nat) (cA : Nat → ClassId) (D : va_G) (X : PH → va_W) (L : List Nat) (sz : Nat) (h : PH) (U : State) : Prop :=
  U.heap.size = sz ∧ va_P D pmCl (X h ++ pq ad cA h L) U.heap ∧ va_K D pmCl (pmTy cA) U ∧ va_D (fun _ => True) (X h ++ pq ad cA h L) ∧ KdOk h L ∧ KQ ad (frQ (X h) L sz) U U.heap h ∧ CQ ad (frQ (X h) L sz) U U.heap ∧ (fl = true → X = wd ad cA ∧ CF ad (frQ (X h) L sz) U U.heap ∧ xwOk ad U)
def PoQ (fl : Bool) (ad : Nat → Nat) (cA : Nat → ClassId) (D : va_G) (X : PH → va_W) (L : List Nat) (sz : Nat) (h h' : PH) (L' : List Nat) (t : State) : Prop :=
  va_P D pmCl (X h' ++ pq ad cA h' L') t.heap ∧ va_D (fun _ => True) (X h' ++ pq ad cA h' L') ∧ (∀ q ∈ L', q ∈ L ∨ sz ≤ q) ∧ KdOk h' L' ∧ Md h h' ∧ (fl = false → Lw h h')
def QcQ (fl : Bool) (ad : Nat → Nat) (cA : Nat → ClassId) (D : va_G) (X : PH → va_W) (L : List Nat) (sz : Nat) (h : PH) (Q : Res → PH → Prop) : Array Value → State → Outcome → State → Prop :=
  fun _ st o t => (∃ (v : Option Value) (h' : PH) (L' : List Nat), o = .returned (v.map (tr ad)) ∧ Q (.inl v) h' ∧ PoQ fl ad cA D X L sz h h' L' t) ∧ va_F (frQ (X h) L sz) st t
/-- the contract of a method of the law, or of the JDK: from as and h it returns with Q -/
def MetQ (M : MI) (as : List Value) (h : PH) (Q : Res → PH → Prop) : Prop :=
  ∀ (l : Launch) (ad : Nat → Nat) (cA : Nat → ClassId) (D : va_G) (X : PH → va_W) (L : List Nat) (sz : Nat), l.stackTraces = false → (∀ x y, Lw x y → X y = X x) →
    Met l M.y (wsM M) (rmQ M) (va_Pc (as.map (tr ad)) (PcQ (flQ M) ad cA D X L sz h)) (QcQ (flQ M) ad cA D X L sz h Q) M.cap (12 * M.cap) (frQ (X h) L sz)
/-- a method's frame in a walk -/
def Cb (M : MI) (Q : Res → PH → Prop) (Z : State → Prop) (p : Program) (l : Launch) (e : Env) (R : Room) (s : State) (m : MethodId) (args : Array Value) (below : List Frame) (meth : Method) (c : Code)
    (ad : Nat → Nat) (cA : Nat → ClassId) (D : va_G) (A : Nat → Prop) (X : PH → va_W) (h0 : PH) : Prop :=
  CallFix p m c M.b M.nl s args tbG M.y.cls ∧ va_K D pmCl (pmTy cA) s ∧ (∀ q, s.heap.size ≤ q → A q) ∧ KQ ad A s s.heap h0 ∧ CQ ad A s s.heap ∧ (∀ x y, Lw x y → X y = X x) ∧ (flQ M = true → X = wd ad cA ∧ CF ad A s s.heap ∧ xwOk ad s) ∧ l.stackTraces = false ∧
  (M.fr ≤ R.frames ∧ M.lo ≤ R.locals ∧ M.cap ≤ R.cells ∧ 12 * M.cap ≤ R.slots) ∧ meth.name = M.y.name ∧
  (∀ (v : Option Value) (h : PH) (H : Heap) (locs : List Loc) (cells slots : Nat) (pc : Nat) (i : Instr) (ls : Array Slot), decode M.b pc = .ok (i, 1) → rtOk M.ret i v → Q (.inl v) h → WL (flQ M) ad cA D X h0 A h s s.heap H locs → cells ≤ M.cap → slots ≤ 12 * M.cap →
    W p l e R s m args below meth c H locs cells slots Z (F0 m pc ls ((v.map (tr ad)).toList)))
/-- from this point of M's code, with these locals, stack and numbers, every run ends with Q -/
def BtC (M : MI) (Z : State → Prop) (p : Program) (l : Launch) (e : Env) (R : Room) (s : State) (m : MethodId) (args : Array Value) (below : List Frame) (meth : Method) (cc : Code) (ad : Nat → Nat) (cA : Nat → ClassId) (D : va_G) (A : Nat → Prop) (X : PH → va_W) (h0 : PH) : KT := fun pc c ls st h =>
  ∀ (H : Heap) (locs : List Loc) (cells slots : Nat) (lsA : Array Slot), WL (flQ M) ad cA D X h0 A h s s.heap H locs → lv_has lsA M.nl (tl ad ls) → cells ≤ c → slots ≤ 12 * c → c ≤ M.cap → W p l e R s m args below meth cc H locs cells slots Z (F0 m pc lsA (st.map (tr ad)))
def Bt (M : MI) (Q : Res → PH → Prop) : KT := fun pc c ls st h =>
  ∀ (Z : State → Prop) (p : Program) (l : Launch) (e : Env) (R : Room) (s : State) (m : MethodId) (args : Array Value) (below : List Frame) (meth : Method) (cc : Code) (ad : Nat → Nat) (cA : Nat → ClassId) (D : va_G) (A : Nat → Prop) (X : PH → va_W) (h0 : PH),
    Cb M Q Z p l e R s m args below meth cc ad cA D A X h0 → BtC M Z p l e R s m args below meth cc ad cA D A X h0 pc c ls st h
