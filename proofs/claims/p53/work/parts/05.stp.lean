/-! ===== one step ===== -/
/-- where an exception of a call goes: hs: for each kind of exception the place behind the handler's store and the store's local (0: no handler) -/
def hnd (Q : Res → PH → Prop) (a : KT) (c : Nat) (ls : Lc) (hs : List Nat) : Nat → PH → Prop := fun e h => match hs with
  | [] => Q (.inr e) h
  | hs => match hs.getD (2 * e) 0 with
    | 0 => Q (.inr e) h
    | ha => a ha c (lput0 ls (hs.getD (2 * e + 1) 0)) [] h
/-- a switch's cases: from v on -/
def swc (k : KT) (x : Int32) (c : Nat) (ls : Lc) (st : List Value) (h : PH) : Nat → List Nat → Prop
  | _, [] => True
  | v, t :: ts => (x = nI v → k t c ls st h) ∧ swc k x c ls st h (v + 1) ts
/-- what stays on the stack over a call is small -/
def cat8 (st : List Value) (P : Prop) : Prop := match Nat.ble ((st.map (fun v => v.category)).sum) 8 with
  | true => P
  | false => False
def len9 (n : Nat) (st : List Value) (P : Prop) : Prop := match Nat.ble n st.length with
  | true => P
  | false => False
def capk (c mcv cap : Nat) (P : Prop) : Prop := match mcv with
  | 0 => P
  | _ => c + mcv ≤ cap ∧ P
def conk (rt : Nat) (q : Nat → PH → Prop) (kk : List Value → PH → Prop) : Res → PH → Prop := match rt with
  | 0 => rV q (fun h => kk [] h)
  | 1 => rI q (fun x h => kk [.int x] h)
  | 2 => rL q (fun x h => kk [.long x] h)
  | 3 => rF q (fun x h => kk [.float x] h)
  | 4 => rD q (fun x h => kk [.double x] h)
  | _ => rA q (fun x h => kk [.ref x] h) (fun h => kk [.null] h)
def obIf (b ci : Nat) (P : Prop) : Prop := match obC b ci with
  | true => P
  | false => False
/-- a call: mp is 'MetPM' -/
def stc (mp : MI → List Value → PH → (Res → PH → Prop) → Prop) (M : MI) (Q : Res → PH → Prop) (a k : KT) (pc : Nat) (M' : MI) (kind n rt rc mcv : Nat) (hs : List Nat) (c : Nat) (ls : Lc) (st : List Value) (h : PH) : Prop :=
  match kind with
  | 0 => match st.drop n with
    | .ref b :: rest => obIf b rc <| cat8 rest <| capk c mcv M.cap (mp M' (.ref b :: (st.take n).reverse) h (conk rt (hnd Q a (c + mcv) ls hs) (fun vs h' => k (pc + 3) (c + mcv) ls (vs ++ rest) h')))
    | _ => False
  | 5 => match st.drop n with
    | .ref b :: rest => cOk b rc ∧ (cat8 rest <| capk c mcv M.cap (mp M' (.ref b :: (st.take n).reverse) h (conk rt (hnd Q a (c + mcv) ls hs) (fun vs h' => k (pc + 3) (c + mcv) ls (vs ++ rest) h'))))
    | _ => False
  | _ => len9 n st <| cat8 (st.drop n) <| capk c mcv M.cap (mp M' (st.take n).reverse h (conk rt (hnd Q a (c + mcv) ls hs) (fun vs h' => k (pc + 3) (c + mcv) ls (vs ++ st.drop n) h')))
/-- the JDK's own, by number -/
def stb (M : MI) (k : KT) (pc : Nat) (kind : Nat) (c : Nat) (ls : Lc) (st : List Value) (h : PH) : Prop :=
  match kind with
  | 20 => match st with
    | .ref a :: r => cOk a 20 ∧ cat8 r (k (pc + 3) c ls (.int (cfv a 9) :: r) h)
    | _ => False
  | 21 => match st with
    | .ref a :: r => cOk a 21 ∧ cat8 r (k (pc + 3) c ls (.int (cfv a 9) :: r) h)
    | _ => False
  | 10 => match st with
    | .int y :: .int x :: r => cat8 r <| k (pc + 3) c ls (.int (if y < x then y else x) :: r) h
    | _ => False
  | 11 => match st with
    | .int y :: .int x :: r => cat8 r <| k (pc + 3) c ls (.int (if x < y then y else x) :: r) h
    | _ => False
  | 12 => match st with
    | .int x :: r => cat8 r <| k (pc + 3) c ls (.int (if 0 ≤ x then x else 0 - x) :: r) h
    | _ => False
  | 13 => match st with
    | .int y :: .int x :: r => (¬ y = 0) ∧ cat8 r (k (pc + 3) c ls (.int (fmV x y) :: r) h)
    | _ => False
  | 15 => match st with
    | .int n :: .int dp :: .ref b :: .int sp :: .ref a :: r => match arN a 0, arN b 0 with
      | some n0, some n1 => cat8 r <| (¬ sp < 0 ∧ ¬ dp < 0 ∧ ¬ n < 0 ∧ sp.toNatClampNeg + n.toNatClampNeg ≤ n0 ∧ dp.toNatClampNeg + n.toNatClampNeg ≤ n1) ∧ k (pc + 3) c ls r (cpi h a sp.toNatClampNeg b dp.toNatClampNeg n.toNatClampNeg)
      | _, _ => False
    | _ => False
  | 16 => match st with
    | .int n :: .int dp :: .ref b :: .int sp :: .ref a :: r => match arN a 2, arN b 2 with
      | some n0, some n1 => cat8 r <| (¬ sp < 0 ∧ ¬ dp < 0 ∧ ¬ n < 0 ∧ sp.toNatClampNeg + n.toNatClampNeg ≤ n0 ∧ dp.toNatClampNeg + n.toNatClampNeg ≤ n1) ∧ k (pc + 3) c ls r (cpl h a sp.toNatClampNeg b dp.toNatClampNeg n.toNatClampNeg)
      | _, _ => False
    | _ => False
  | _ => False
/-- loads: q 0 int, 1 long, 2 float, 3 double, 4 a reference -/
def stl (k : KT) (q pc c : Nat) (ls : Lc) (st : List Value) (h : PH) (i : Nat) : Prop := match q with
  | 0 => match lget ls i with
    | some (.int x) => k pc c ls (.int x :: st) h
    | _ => False
  | 1 => match lget ls i with
    | some (.long x) => k pc c ls (.long x :: st) h
    | _ => False
  | 2 => match lget ls i with
    | some (.float x) => k pc c ls (.float x :: st) h
    | _ => False
  | 3 => match lget ls i with
    | some (.double x) => k pc c ls (.double x :: st) h
    | _ => False
  | _ => match lget ls i with
    | some (.ref x) => k pc c ls (.ref x :: st) h
    | some .null => k pc c ls (.null :: st) h
    | _ => False
def sts (nl : Nat) (k : KT) (q pc c : Nat) (ls : Lc) (st : List Value) (h : PH) (i : Nat) : Prop := match q with
  | 0 => match st, Nat.blt i nl with
    | .int x :: r, true => k pc c (lput1 ls i (.int x)) r h
    | _, _ => False
  | 1 => match st, Nat.blt (i + 1) nl with
    | .long x :: r, true => k pc c (lput2 ls i (.long x)) r h
    | _, _ => False
  | 2 => match st, Nat.blt i nl with
    | .float x :: r, true => k pc c (lput1 ls i (.float x)) r h
    | _, _ => False
  | 3 => match st, Nat.blt (i + 1) nl with
    | .double x :: r, true => k pc c (lput2 ls i (.double x)) r h
    | _, _ => False
  | _ => match st, Nat.blt i nl with
    | .ref x :: r, true => k pc c (lput1 ls i (.ref x)) r h
    | .null :: r, true => k pc c (lput1 ls i .null) r h
    | _, _ => False
def stcc (cd : Jvm.ClassFile.Cond) (x y : Int32) (A B : Prop) : Prop := match cd with
  | .eq => (x = y → A) ∧ (¬ x = y → B)
  | .ne => (¬ x = y → A) ∧ (x = y → B)
  | .lt => (x < y → A) ∧ (¬ x < y → B)
  | .ge => (y ≤ x → A) ∧ (¬ y ≤ x → B)
  | .gt => (y < x → A) ∧ (¬ y < x → B)
  | .le => (x ≤ y → A) ∧ (¬ x ≤ y → B)
/-- getfield of a constant -/
def stgc (k : KT) (pc c : Nat) (ls : Lc) (st : List Value) (h : PH) (ci j so : Nat) : Prop := match st with
  | .ref a :: r => cOk a ci ∧ (match so with
    | 3 => k (pc + 3) c ls (.ref (cfr a) :: r) h
    | _ => k (pc + 3) c ls (.int (cfv a j) :: r) h)
  | _ => False
/-- an element of a constant array: t 0 ints, 1 bytes, 4, 5 references; 6: the script -/
def stac (k : KT) (t pc c : Nat) (ls : Lc) (st : List Value) (h : PH) : Prop := match st with
  | .int i :: .ref b :: r => match t with
    | 0 => cAr b 0 ∧ vp_in i (cln b) ∧ k (pc + 1) c ls (.int (csw b i.toNatClampNeg) :: r) h
    | 1 => cAr b 1 ∧ vp_in i (cln b) ∧ k (pc + 1) c ls (.int (cby b i.toNatClampNeg) :: r) h
    | 4 => cAr b 4 ∧ vp_in i (cln b) ∧ k (pc + 1) c ls (.ref (cel b i.toNatClampNeg) :: r) h
    | 5 => cAr b 5 ∧ vp_in i (cln b) ∧ k (pc + 1) c ls (.ref (cel b i.toNatClampNeg) :: r) h
    | 6 => False
    | _ => False
  | _ => False
def stln (k : KT) (t pc c : Nat) (ls : Lc) (st : List Value) (h : PH) : Prop := match st with
  | .ref b :: r => match t with
    | 6 => False
    | t => cAr b t ∧ k (pc + 1) c ls (.int (nI (cln b)) :: r) h
  | _ => False
def a2i (k : KT) (pc c : Nat) (ls : Lc) (st : List Value) (h : PH) (f : Int32 → Int32 → Int32) : Prop := match st with
  | .int y :: .int x :: r => k (pc + 1) c ls (.int (f x y) :: r) h
  | _ => False
def a2l (k : KT) (pc c : Nat) (ls : Lc) (st : List Value) (h : PH) (f : Int64 → Int64 → Int64) : Prop := match st with
  | .long y :: .long x :: r => k (pc + 1) c ls (.long (f x y) :: r) h
  | _ => False
/-- getfield: sort 0, 1: an int; 2 a long; 3 a reference of the world -/
def stg (k : KT) (pc c : Nat) (ls : Lc) (st : List Value) (h : PH) (ci j so : Nat) : Prop := match st with
  | .ref a :: r => match obC a ci with
    | true => match so with
      | 0 => k (pc + 3) c ls (.int (gi h a j) :: r) h
      | 1 => k (pc + 3) c ls (.int (gi h a j) :: r) h
      | 2 => k (pc + 3) c ls (.long (gl h a j) :: r) h
      | _ => match obR a j with
        | some b => k (pc + 3) c ls (.ref b :: r) h
        | none => False
    | false => False
  | _ => False
def stp0 (k : KT) (pc c : Nat) (ls : Lc) (st : List Value) (h : PH) (ci j so : Nat) : Prop := match so with
  | 0 => match st with
    | .int x :: .ref a :: r => match obC a ci with
      | true => k (pc + 3) c ls r (si h a j x)
      | false => False
    | _ => False
  | 1 => match st with
    | .int x :: .ref a :: r => match obC a ci with
      | true => isB x ∧ k (pc + 3) c ls r (si h a j x)
      | false => False
    | _ => False
  | 2 => match st with
    | .long x :: .ref a :: r => match obC a ci with
      | true => k (pc + 3) c ls r (sl h a j x)
      | false => False
    | _ => False
  | _ => False
/-- array loads: q 0 ints, 1 bytes, 2 longs, 3 doubles, 4 states, 5 commands -/
def sta (k : KT) (q pc c : Nat) (ls : Lc) (st : List Value) (h : PH) : Prop := match st with
  | .int i :: .ref a :: r => match arN a q with
    | some n => vp_in i n ∧ (match q with
      | 0 => k (pc + 1) c ls (.int (gi h a i.toNatClampNeg) :: r) h
      | 1 => k (pc + 1) c ls (.int (gi h a i.toNatClampNeg) :: r) h
      | 2 => k (pc + 1) c ls (.long (gl h a i.toNatClampNeg) :: r) h
      | 3 => False
      | _ => (∀ b, gr h a i.toNatClampNeg = some b → k (pc + 1) c ls (.ref b :: r) h) ∧ (gr h a i.toNatClampNeg = none → k (pc + 1) c ls (.null :: r) h))
    | none => False
  | _ => False
/-- array stores -/
def stq (k : KT) (q pc c : Nat) (ls : Lc) (st : List Value) (h : PH) : Prop := match q with
  | 0 => match st with
    | .int x :: .int i :: .ref a :: r => match arN a 0 with
      | some n => vp_in i n ∧ k (pc + 1) c ls r (si h a i.toNatClampNeg x)
      | none => False
    | _ => False
  | 1 => match st with
    | .int x :: .int i :: .ref a :: r => match arN a 1 with
      | some n => vp_in i n ∧ k (pc + 1) c ls r (si h a i.toNatClampNeg x.toInt8.toInt32)
      | none => False
    | _ => False
  | 2 => match st with
    | .long x :: .int i :: .ref a :: r => match arN a 2 with
      | some n => vp_in i n ∧ k (pc + 1) c ls r (sl h a i.toNatClampNeg x)
      | none => False
    | _ => False
  | _ => False
/-- the answer: rt as in conk; 6 a boolean -/
def str (Q : Res → PH → Prop) (rt : Nat) (st : List Value) (h : PH) : Prop := match rt with
  | 0 => match st with
    | [] => Q (.inl none) h
    | _ => False
  | 1 => match st with
    | [.int x] => Q (.inl (some (.int x))) h
    | _ => False
  | 2 => match st with
    | [.long x] => Q (.inl (some (.long x))) h
    | _ => False
  | 3 => match st with
    | [.float x] => Q (.inl (some (.float x))) h
    | _ => False
  | 4 => match st with
    | [.double x] => Q (.inl (some (.double x))) h
    | _ => False
  | 5 => match st with
    | [.ref x] => Q (.inl (some (.ref x))) h
    | [.null] => Q (.inl (some .null)) h
    | _ => False
  | 6 => match st with
    | [.int x] => isB x ∧ Q (.inl (some (.int x))) h
    | _ => False
  | 7 => match st with
    | [.int x] => narrow .byte (.int x) = .int x ∧ Q (.inl (some (.int x))) h
    | _ => False
  | _ => match st with
    | [.int x] => narrow .char (.int x) = .int x ∧ Q (.inl (some (.int x))) h
    | _ => False
def stp (mp : MI → List Value → PH → (Res → PH → Prop) → Prop) (M : MI) (Q : Res → PH → Prop) (a k : KT) (e : En) (c : Nat) (ls : Lc) (st : List Value) (h : PH) : Prop :=
  match e with
  | (pc, i, len, ax, ms) => match i with
    | .iconst n => k (pc + 1) c ls (.int (cI n) :: st) h
    | .bipush n => k (pc + 2) c ls (.int (cI n) :: st) h
    | .sipush n => k (pc + 3) c ls (.int (cI n) :: st) h
    | .lconst n => k (pc + 1) c ls (.long (lN n.val) :: st) h
    | .fconst _ => k (pc + 1) c ls (.float FP.fconst0 :: st) h
    | .dconst _ => k (pc + 1) c ls (.double FP.dconst0 :: st) h
    | .ldc_w _ => match ax with
      | [n, _] => k (pc + 3) c ls (.int (nI n) :: st) h
      | _ => False
    | .ldc _ => match ax with
      | [n, _] => k (pc + 2) c ls (.int (nI n) :: st) h
      | [_] => k (pc + 2) c ls (.ref 1084 :: st) h
      | _ => False
    | .ldc2_w _ => match ax with
      | [n, _] => k (pc + 3) c ls (.long (lN n) :: st) h
      | _ => False
    | .aconst_null => k (pc + 1) c ls (.null :: st) h
    | .iload n => stl k 0 (pc + 2) c ls st h n
    | .lload n => stl k 1 (pc + 2) c ls st h n
    | .fload n => stl k 2 (pc + 2) c ls st h n
    | .dload n => stl k 3 (pc + 2) c ls st h n
    | .aload n => stl k 4 (pc + 2) c ls st h n
    | .iload_n n => stl k 0 (pc + 1) c ls st h n.val
    | .lload_n n => stl k 1 (pc + 1) c ls st h n.val
    | .fload_n n => stl k 2 (pc + 1) c ls st h n.val
    | .dload_n n => stl k 3 (pc + 1) c ls st h n.val
    | .aload_n n => stl k 4 (pc + 1) c ls st h n.val
    | .istore n => sts M.nl k 0 (pc + 2) c ls st h n
    | .lstore n => sts M.nl k 1 (pc + 2) c ls st h n
    | .fstore n => sts M.nl k 2 (pc + 2) c ls st h n
    | .dstore n => sts M.nl k 3 (pc + 2) c ls st h n
    | .astore n => sts M.nl k 4 (pc + 2) c ls st h n
    | .istore_n n => sts M.nl k 0 (pc + 1) c ls st h n.val
    | .lstore_n n => sts M.nl k 1 (pc + 1) c ls st h n.val
    | .fstore_n n => sts M.nl k 2 (pc + 1) c ls st h n.val
    | .dstore_n n => sts M.nl k 3 (pc + 1) c ls st h n.val
    | .astore_n n => sts M.nl k 4 (pc + 1) c ls st h n.val
    | .iinc n v => match lget ls n, Nat.blt n M.nl with
      | some (.int x), true => k (pc + 3) c (lput1 ls n (.int (x + cI v))) st h
      | _, _ => False
    | .iadd => a2i k pc c ls st h (fun x y => x + y)
    | .isub => a2i k pc c ls st h (fun x y => x - y)
    | .imul => a2i k pc c ls st h (fun x y => x * y)
    | .iand => a2i k pc c ls st h (fun x y => x &&& y)
    | .ior => a2i k pc c ls st h (fun x y => x ||| y)
    | .ixor => a2i k pc c ls st h (fun x y => x ^^^ y)
    | .ishl => a2i k pc c ls st h (fun x y => x <<< (y &&& 31))
    | .ishr => a2i k pc c ls st h (fun x y => x >>> (y &&& 31))
    | .iushr => a2i k pc c ls st h (fun x y => (x.toUInt32 >>> (y.toUInt32 &&& Int32.toUInt32 31)).toInt32)
    | .idiv => match st with
      | .int y :: .int x :: r => (¬ y = 0) ∧ k (pc + 1) c ls (.int (x / y) :: r) h
      | _ => False
    | .irem => match st with
      | .int y :: .int x :: r => (¬ y = 0) ∧ k (pc + 1) c ls (.int (x - x / y * y) :: r) h
      | _ => False
    | .land => a2l k pc c ls st h (fun x y => x &&& y)
    | .lor => a2l k pc c ls st h (fun x y => x ||| y)
    | .lshl => match st with
      | .int y :: .long x :: r => k (pc + 1) c ls (.long (x <<< (y.toInt64 &&& 63)) :: r) h
      | _ => False
    | .lshr => match st with
      | .int y :: .long x :: r => k (pc + 1) c ls (.long (x >>> (y.toInt64 &&& 63)) :: r) h
      | _ => False
    | .lcmp => match st with
      | .long y :: .long x :: r => k (pc + 1) c ls (.int (lg_cmp x y) :: r) h
      | _ => False
    | .i2l => match st with
      | .int x :: r => k (pc + 1) c ls (.long x.toInt64 :: r) h
      | _ => False
    | .l2i => match st with
      | .long x :: r => k (pc + 1) c ls (.int x.toInt32 :: r) h
      | _ => False
    | .i2b => match st with
      | .int x :: r => k (pc + 1) c ls (.int x.toInt8.toInt32 :: r) h
      | _ => False
    | .i2f => match st with
      | .int x :: r => k (pc + 1) c ls (.float (FP.i2f x) :: r) h
      | _ => False
    | .i2d => match st with
      | .int x :: r => k (pc + 1) c ls (.double (FP.i2d x) :: r) h
      | _ => False
    | .fdiv => match st with
      | .float y :: .float x :: r => vf_n32 (FP.fdiv x y) ∧ k (pc + 1) c ls (.float (FP.fdiv x y) :: r) h
      | _ => False
    | .ddiv => match st with
      | .double y :: .double x :: r => vf_n64 (FP.ddiv x y) ∧ k (pc + 1) c ls (.double (FP.ddiv x y) :: r) h
      | _ => False
    | .f2d => match st with
      | .float x :: r => vf_n64 (FP.f2d x) ∧ k (pc + 1) c ls (.double (FP.f2d x) :: r) h
      | _ => False
    | .dup => match st with
      | v :: r => match v.category with
        | 1 => k (pc + 1) c ls (v :: v :: r) h
        | _ => False
      | _ => False
    | .dup2 => match st with
      | v :: w :: r => match v.category, w.category with
        | 1, 1 => k (pc + 1) c ls (v :: w :: v :: w :: r) h
        | _, _ => False
      | _ => False
    | .pop => match st with
      | v :: r => match v.category with
        | 1 => k (pc + 1) c ls r h
        | _ => False
      | _ => False
    | .goto _ => match ax with
      | [t] => k t c ls st h
      | _ => False
    | .ifCond cd _ => match ax with
      | [t] => match st with
        | .int x :: r => stcc cd x 0 (k t c ls r h) (k (pc + 3) c ls r h)
        | _ => False
      | _ => False
    | .if_icmp cd _ => match ax with
      | [t] => match st with
        | .int y :: .int x :: r => stcc cd x y (k t c ls r h) (k (pc + 3) c ls r h)
        | _ => False
      | _ => False
    | .ifnull _ => match ax with
      | [t] => match st with
        | .null :: r => k t c ls r h
        | .ref _ :: r => k (pc + 3) c ls r h
        | _ => False
      | _ => False
    | .ifnonnull _ => match ax with
      | [t] => match st with
        | .null :: r => k (pc + 3) c ls r h
        | .ref _ :: r => k t c ls r h
        | _ => False
      | _ => False
    | .tableswitch _ _ _ _ => match ax with
      | d :: lo :: ts => match st with
        | .int x :: r => ((∀ j : Nat, lo ≤ j → j < lo + ts.length → ¬ x = nI j) → k d c ls r h) ∧ swc k x c ls r h lo ts
        | _ => False
      | _ => False
    | .getfield _ => match ax with
      | [ci, j, so, _] => stg k pc c ls st h ci j so
      | [ci, j, so, _, _] => stgc k pc c ls st h ci j so
      | _ => False
    | .putfield _ => match ax with
      | [ci, j, so, _] => stp0 k pc c ls st h ci j so
      | _ => False
    | .iaload => match ax with
      | [] => sta k 0 pc c ls st h
      | t :: _ => stac k t pc c ls st h
    | .baload => match ax with
      | [] => sta k 1 pc c ls st h
      | t :: _ => stac k t pc c ls st h
    | .laload => sta k 2 pc c ls st h
    | .daload => sta k 3 pc c ls st h
    | .aaload => match ax with
      | [q] => sta k q pc c ls st h
      | [_, t] => stac k t pc c ls st h
      | _ => False
    | .aastore => match st with
      | .ref x :: .int i :: .ref b :: r => match arN b 5 with
        | some n => cOk x 21 ∧ vp_in i n ∧ k (pc + 1) c ls r (sr h b i.toNatClampNeg (some x))
        | none => False
      | _ => False
    | .iastore => stq k 0 pc c ls st h
    | .bastore => stq k 1 pc c ls st h
    | .lastore => stq k 2 pc c ls st h
    | .dastore => stq k 3 pc c ls st h
    | .arraylength => match ax with
      | [] => match st with
        | .ref b :: r => match arL b with
          | some n => k (pc + 1) c ls (.int (nI n) :: r) h
          | none => False
        | _ => False
      | t :: _ => stln k t pc c ls st h
    | .getstatic _ => match ax with
      | [kind, i, _] => match kind with
        | 0 => k (pc + 3) c ls (.ref i :: st) h
        | 1 => k (pc + 3) c ls (.int 1 :: st) h
        | 2 => k (pc + 3) c ls (.null :: st) h ∧ k (pc + 3) c ls (.ref 1090 :: st) h
        | _ => False
      | _ => False
    | .if_acmp cd _ => match ax with
      | [t] => match st with
        | .ref y :: .ref x :: r => (cOk x 21 ∧ cOk y 21) ∧ (match cd with
          | .eq => (x = y → k t c ls r h) ∧ (¬ x = y → k (pc + 3) c ls r h)
          | .ne => (¬ x = y → k t c ls r h) ∧ (x = y → k (pc + 3) c ls r h))
        | _ => False
      | _ => False
    | .fcmp op => match st with
      | .float y :: .float x :: r => k (pc + 1) c ls (.int (Op.cmpValue (FP.fcmp x y) op) :: r) h
      | _ => False
    | .dcmp op => match st with
      | .double y :: .double x :: r => k (pc + 1) c ls (.int (Op.cmpValue (FP.dcmp x y) op) :: r) h
      | _ => False
    | .i2c => match st with
      | .int x :: r => k (pc + 1) c ls (.int (x.toUInt32 % 65536).toInt32 :: r) h
      | _ => False
    | .return_ => str Q 0 st h
    | .ireturn => match ax with
      | [rt] => str Q rt st h
      | _ => False
    | .lreturn => str Q 2 st h
    | .freturn => str Q 3 st h
    | .dreturn => str Q 4 st h
    | .areturn => str Q 5 st h
    | .new _ => match ax with
      | x :: _ => cat8 st <| c + 1 ≤ M.cap ∧ Q (.inr x) h
      | _ => False
    | .invokevirtual _ => match ax, ms with
      | kind :: n :: rt :: rc :: mcv :: _ :: hs, [M'] => stc mp M Q a k pc M' kind n rt rc mcv hs c ls st h
      | kind :: _, [] => stb M k pc kind c ls st h
      | _, _ => False
    | .invokestatic _ => match ax, ms with
      | kind :: n :: rt :: rc :: mcv :: _ :: hs, [M'] => stc mp M Q a k pc M' kind n rt rc mcv hs c ls st h
      | kind :: _, [] => stb M k pc kind c ls st h
      | _, _ => False
    | _ => False
