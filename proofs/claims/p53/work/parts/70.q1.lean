/-! ===== THE LAW'S MACHINE: a number from 2000 on is the cell 2000 addresses lower; its kind and its length lie in the fourth map ===== -/
/-- 2000 more, 2000 less: by choice, so that nothing counts there -/
noncomputable def uq : Nat → Nat := Classical.choose (⟨fun a => a + 2000, fun _ => rfl⟩ : ∃ f : Nat → Nat, ∀ a, f a = a + 2000)
noncomputable def dq : Nat → Nat := Classical.choose (⟨fun a => a - 2000, fun _ => rfl⟩ : ∃ f : Nat → Nat, ∀ a, f a = a - 2000)
theorem uq_eq (a : Nat) : uq a = a + 2000 := Classical.choose_spec (⟨fun a => a + 2000, fun _ => rfl⟩ : ∃ f : Nat → Nat, ∀ a, f a = a + 2000) a
theorem dq_eq (a : Nat) : dq a = a - 2000 := Classical.choose_spec (⟨fun a => a - 2000, fun _ => rfl⟩ : ∃ f : Nat → Nat, ∀ a, f a = a - 2000) a
theorem uq_dq {n : Nat} (h : 2000 ≤ n) : uq (dq n) = n := by rw [uq_eq, dq_eq]; omega
theorem dq_uq (a : Nat) : dq (uq a) = a := by rw [uq_eq, dq_eq]; omega
theorem uq_ge (a : Nat) : 2000 ≤ uq a := by rw [uq_eq]; omega
theorem uq_inj {a b : Nat} (h : uq a = uq b) : a = b := by rw [← dq_uq a, h, dq_uq]
theorem dq_inj {a b : Nat} (ha : 2000 ≤ a) (hb : 2000 ≤ b) (h : dq a = dq b) : a = b := by rw [← uq_dq ha, h, uq_dq hb]
theorem uq_hi (a : Nat) : 1000 ≤ uq a := Nat.le_trans (by decide) (uq_ge a)
/-- the kind of a number: 1 to 6 an object of class 9 to 14, 16 + t an array of type t; 32 more: one of the start's, that nobody writes -/
def qkd (h : PH) (n : Nat) : Nat := match Nat.blt n 1000 with
  | true => 0
  | false => h.2.2.2 n 0
def qln (h : PH) (n : Nat) : Nat := h.2.2.2 n 1
/-- by class: the sort of each slot -/
def fsq : Nat → List Nat
  | 9 => [0, 0, 0, 0, 0, 0]
  | 10 => [0, 0, 0, 0, 0, 0, 0, 0, 0, 0, 0, 0, 0, 0, 0, 0, 0, 0, 2, 2, 2, 2, 2, 2, 2, 2, 2, 0]
  | 11 => [2, 0, 0, 0]
  | 12 => [2, 0, 0, 0]
  | 13 => [0, 2, 0]
  | 14 => [0, 0, 0, 2]
  | _ => []
def fvq (ad : Nat → Nat) (h : PH) (n so j : Nat) : Value := match so with
  | 0 => .int (gi h n j)
  | 1 => .long (gl h n j)
  | _ => va_rf ((gr h n j).map ad)
def fvqs (ad : Nat → Nat) (h : PH) (n ci : Nat) : List Value := (List.range (fsq ci).length).map (fun j => fvq ad h n ((fsq ci).getD j 0) j)
def aeq (ad : Nat → Nat) (h : PH) (n t : Nat) : (Nat → Int32) ⊕ (Nat → Int64) ⊕ (Nat → UInt32) ⊕ (Nat → UInt64) ⊕ (Nat → Option Nat) := match t with
  | 7 => .inr (.inr (.inr (.inr (fun j => (h.2.2.1 n j).map ad))))
  | 8 => .inr (.inr (.inr (.inr (fun j => (h.2.2.1 n j).map ad))))
  | _ => .inl (h.1 n)
def celQ (ad : Nat → Nat) (cA : Nat → ClassId) (h : PH) (n : Nat) : va_E := match Nat.blt (qkd h n) 16 with
  | true => .inr (qkd h n + 8, fvqs ad h n (qkd h n + 8))
  | false => .inl (cA (qkd h n - 16), qln h n, aeq ad h n (qkd h n - 16))
noncomputable def pq (ad : Nat → Nat) (cA : Nat → ClassId) (h : PH) (L : List Nat) : va_W := va_pl L (fun a => celQ ad cA h (uq a))
/-- the heaps are the same at the numbers ahead of 2000; between 1000 and 2000 -/
def Lw (x h : PH) : Prop := ∀ a, a < 2000 → h.1 a = x.1 a ∧ h.2.1 a = x.2.1 a ∧ h.2.2.1 a = x.2.2.1 a ∧ h.2.2.2 a = x.2.2.2 a
def Md (x h : PH) : Prop := ∀ a, 1000 ≤ a → a < 2000 → h.1 a = x.1 a ∧ h.2.1 a = x.2.1 a ∧ h.2.2.1 a = x.2.2.1 a ∧ h.2.2.2 a = x.2.2.2 a
theorem Lw.refl (h : PH) : Lw h h := fun _ _ => ⟨rfl, rfl, rfl, rfl⟩
theorem Lw.trans {x y z : PH} (a : Lw x y) (b : Lw y z) : Lw x z := fun n hn => ⟨(b n hn).1.trans (a n hn).1, (b n hn).2.1.trans (a n hn).2.1, (b n hn).2.2.1.trans (a n hn).2.2.1, (b n hn).2.2.2.trans (a n hn).2.2.2⟩
theorem Md.refl (h : PH) : Md h h := fun _ _ _ => ⟨rfl, rfl, rfl, rfl⟩
theorem Md.trans {x y z : PH} (a : Md x y) (b : Md y z) : Md x z := fun n hn hm => ⟨(b n hn hm).1.trans (a n hn hm).1, (b n hn hm).2.1.trans (a n hn hm).2.1, (b n hn hm).2.2.1.trans (a n hn hm).2.2.1, (b n hn hm).2.2.2.trans (a n hn hm).2.2.2⟩
theorem Lw.md {x y : PH} (a : Lw x y) : Md x y := fun n _ hn => a n hn
theorem Hi.md {x y : PH} (a : Hi x y) : Md x y := fun n hn _ => a n hn
theorem Md.kd {x y : PH} (a : Md x y) {n : Nat} (hn : n < 2000) : qkd y n = qkd x n := by
  unfold qkd
  split
  · rfl
  · rename_i hb
    rw [(a n (by
      rcases Nat.lt_or_ge n 1000 with q | q
      · rw [Nat.blt_eq.mpr q] at hb; cases hb
      · exact q) hn).2.2.2]
/-- a constant of the start, in the heap -/
def kqF (ad : Nat → Nat) (A : Nat → Prop) (U : State) (H : Heap) (h : PH) (n : Nat) : Prop := match qkd h n with
  | 35 => n < 2000 ∧ va_O "java/lang/String" (ad n) A U H ∧ va_OF "java/lang/String" "value" "[B" (va_rf ((gr h n 0).map ad)) (ad n) A U H ∧ va_OF "java/lang/String" "coder" "B" (.int (gi h n 1)) (ad n) A U H
  | 48 => n < 2000 ∧ va_T .int (ad n) (qln h n) (fun j => .int (gi h n j)) A U H
  | 49 => n < 2000 ∧ va_T .byte (ad n) (qln h n) (fun j => .int (gi h n j)) A U H
  | 55 => n < 2000 ∧ va_T (.object "java/lang/Object") (ad n) (qln h n) (fun j => va_rf ((gr h n j).map ad)) A U H
  | _ => qkd h n < 32
def KQ (ad : Nat → Nat) (A : Nat → Prop) (U : State) (H : Heap) (h : PH) : Prop := ∀ n, kqF ad A U H h n
theorem kqF.map {ad : Nat → Nat} {A B : Nat → Prop} {u U : State} {H H1 : Heap} {h : PH} {n : Nat} (f : ∀ E t, va_O E t A u H → va_O E t B U H1) (g : ∀ o n d v t, va_OF o n d v t A u H → va_OF o n d v t B U H1) (k : ∀ ty t N e, va_T ty t N e A u H → va_T ty t N e B U H1) (q : kqF ad A u H h n) : kqF ad B U H1 h n := by
  unfold kqF at q ⊢
  split at q
  · exact ⟨q.1, f _ _ q.2.1, g _ _ _ _ _ q.2.2.1, g _ _ _ _ _ q.2.2.2⟩
  · exact ⟨q.1, k _ _ _ _ q.2⟩
  · exact ⟨q.1, k _ _ _ _ q.2⟩
  · exact ⟨q.1, k _ _ _ _ q.2⟩
  · exact q
theorem KQ.moved {ad : Nat → Nat} {A : Nat → Prop} {u U : State} {H : Heap} {h : PH} (hvm : u.vm.Alike U.vm) (q : KQ ad A u H h) : KQ ad A U H h := fun n => (q n).map (fun _ _ z => z.moved hvm) (fun _ _ _ _ _ z => z.moved hvm) (fun _ _ _ _ z => z.moved hvm)
theorem KQ.kept {ad : Nat → Nat} {A : Nat → Prop} {U : State} {H H1 : Heap} {h : PH} (q : KQ ad A U H h) (hq : ∀ a : Nat, a < H.size → ¬ A a → H1[a]? = H[a]?) : KQ ad A U H1 h := fun n => (q n).map (fun _ _ z => z.kept hq) (fun _ _ _ _ _ z => z.kept hq) (fun _ _ _ _ z => z.kept hq)
theorem KQ.narrow {ad : Nat → Nat} {A B : Nat → Prop} {U : State} {H : Heap} {h : PH} (q : KQ ad A U H h) (hAB : ∀ q, B q → A q) : KQ ad B U H h := fun n => (q n).map (fun _ _ z => z.narrow hAB) (fun _ _ _ _ _ z => z.narrow hAB) (fun _ _ _ _ z => z.narrow hAB)
/-- kinds of numbers from 2000 on are those of cells that are the law's own -/
def KdOk (h : PH) (L : List Nat) : Prop := ∀ n, ¬ qkd h n = 0 → (2000 ≤ n ∧ dq n ∈ L ∧ qkd h n < 32) ∨ (n < 2000 ∧ 32 ≤ qkd h n)
theorem KQ.of {ad : Nat → Nat} {A : Nat → Prop} {U : State} {H : Heap} {x h : PH} {L : List Nat} (q : KQ ad A U H x) (m : Md x h) (k : KdOk h L) : KQ ad A U H h := by
  intro n
  by_cases z : qkd h n = 0
  · unfold kqF; rw [z]; exact Nat.zero_lt_succ _
  · rcases k n z with ⟨a, -, c⟩ | ⟨a, c⟩
    · unfold kqF
      split
      · rename_i e; omega
      · rename_i e; omega
      · rename_i e; omega
      · rename_i e; omega
      · exact c
    · have hn : 1000 ≤ n := by
        rcases Nat.lt_or_ge n 1000 with w | w
        · exfalso; apply z; unfold qkd; rw [Nat.blt_eq.mpr w]
        · exact w
      obtain ⟨e1, -, e3, e4⟩ := m n hn a
      have e0 := m.kd a
      have q := q n
      unfold kqF at q ⊢
      unfold gi gr qln at q ⊢
      rw [e0, e1, e3, e4]
      exact q
/-- the texts of the law's own constants, by place: index in the pool, text -/
def sQi : List (Nat × String) := [(56, ""), (93, "format "), (98, ";"), (100, "skew "), (111, "version "), (113, "v"), (119, " "), (121, " ;\n"), (153, "talks "), (130, "place "), (132, "p"), (192, "member "), (194, "m"), (200, " held;"), (213, "link "), (218, "wave "), (145, "down "), (147, "takes "), (149, "soak "), (151, "limit ")]
/-- their bytes -/
def sQb : List (List Nat) := [[], [102, 111, 114, 109, 97, 116, 32], [59], [115, 107, 101, 119, 32], [118, 101, 114, 115, 105, 111, 110, 32], [118], [32], [32, 59, 10], [116, 97, 108, 107, 115, 32], [112, 108, 97, 99, 101, 32], [112], [109, 101, 109, 98, 101, 114, 32], [109], [32, 104, 101, 108, 100, 59], [108, 105, 110, 107, 32], [119, 97, 118, 101, 32], [100, 111, 119, 110, 32], [116, 97, 107, 101, 115, 32], [115, 111, 97, 107, 32], [108, 105, 109, 105, 116, 32]]
/-- words that a list of words can't carry over a call -/
def XQ : List Jvm.Cond := [
  .methodLinkNest RX13 68 yL_pick RL, .methodLinkNest RX13 157 yX12_init RL, .fieldLinkNest RJx35411 28 RJx4a65c "size" "I" RJx4a65c,
  .castable RX12 "java/lang/Object", .castable RX12 RX12, .castable "[I" "java/lang/Object", .castable "[B" "java/lang/Cloneable", .declares ⟨"java/lang/Object", "getClass", "()Ljava/lang/Class;"⟩,
  .selects "java/lang/StringBuilder" yJ5_ensureCapacityInternal_d00df yJ5_ensureCapacityInternal_d00df, .selects "java/lang/StringBuilder" yJ5_newCapacity_0f7a4 yJ5_newCapacity_0f7a4, .selects "java/lang/StringBuilder" yJ5_inflateIfNeededFor_a7421 yJ5_inflateIfNeededFor_a7421, .selects "java/lang/StringBuilder" yJ5_putStringAt_47b60 yJ5_putStringAt_47b60]
def XQk (w : Jvm.Cond) : Bool := match w with
  | .methodLinkNest .. => true
  | .fieldLinkNest .. => true
  | .castable .. => true
  | .declares .. => true
  | .selects .. => true
  | _ => false
theorem XQ_k : XQ.all XQk = true := by decide +kernel
theorem XQ_on : XQ.all (fun w => w.onTables) = true := by decide +kernel
/-- the calls by an interface: the receiver's class, the name, the method -/
def FQ : List (String × MethodName × MethodName) := [
  (RJx4a65c, ⟨"java/util/List", "iterator", "()Ljava/util/Iterator;"⟩, yJx4a65c_iterator_32c93), (RJx35411, ⟨"java/util/Iterator", "hasNext", "()Z"⟩, yJx35411_hasNext_aae02), (RJx35411, ⟨"java/util/Iterator", "next", "()Ljava/lang/Object;"⟩, yJx35411_next_0502b),
  (RJx4a65c, ⟨"java/util/List", "size", "()I"⟩, yJx4a65c_size_8abf5), (RJx4a65c, ⟨"java/util/List", "add", "(Ljava/lang/Object;)Z"⟩, yJx4a65c_add_9ea2d), (RJx4a65c, ⟨"java/util/List", "get", "(I)Ljava/lang/Object;"⟩, yJx4a65c_get_915e3), (RJx4a65c, ⟨"java/util/List", "isEmpty", "()Z"⟩, yJx4a65c_isEmpty_aae02)]
theorem FQ_mh : ∀ q ∈ FQ, q.2.1.cls ≠ "java/lang/invoke/MethodHandle" ∧ q.2.1.cls ≠ "java/lang/invoke/VarHandle" := by decide +kernel
/-- static references: class, name, descriptor, number -/
def gQ : List (String × String × String × Nat) := [("java/util/ArrayList", "DEFAULTCAPACITY_EMPTY_ELEMENTDATA", "[Ljava/lang/Object;", 1402), ("java/lang/Integer", "DigitOnes", "[B", 1400), ("java/lang/Integer", "DigitTens", "[B", 1401)]
/-- new boolean[n][m] finds its class -/
def aoaQ (U : State) : Prop := (Cond.arrayOver (.array .boolean)).before #[] U = true
theorem aoaQ.moved {u U : State} (hvm : u.vm.Alike U.vm) (h : aoaQ u) : aoaQ U := mg_over hvm h
/-- what a walk of the law knows of its start beside the world -/
def CQ (ad : Nat → Nat) (A : Nat → Prop) (U : State) (H : Heap) : Prop :=
  (∀ a, 2000 ≤ a → ad a = dq a) ∧ (∀ w ∈ XQ, va_Nw w U) ∧ (∀ (i : Nat) (q : Nat × String), sQi[i]? = some q → vk_R RX13 q.1 q.2 (ad (1200 + i)) U) ∧ (∀ q ∈ FQ, va_Fw q.1 q.2.1 q.2.2 U) ∧
  (∀ q ∈ gQ, va_Z q.1 q.2.1 q.2.2.1 (.ref (ad q.2.2.2)) A U H) ∧ va_Z "java/lang/String" "COMPACT_STRINGS" "Z" (.int 1) A U H ∧ va_Mi "[Ljava/lang/Object;" (ad 1410) U ∧ va_AO "java/lang/Object" U ∧ aoaQ U ∧ (va_Z cPre cFmt cBiF .null A U H ∨ va_Z cPre cFmt cBiF (.ref (ad 1090)) A U H)
