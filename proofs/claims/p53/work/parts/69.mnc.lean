/-! ===== new T[n][m]: the walk stands behind it, and the step ===== -/
section MG2
variable {p : Program} {l : Launch} {e : Env} {R : Room} {s : State} {m : MethodId} {args : Array Value} {below : List Frame} {meth : Method} {cd : Code} {T : State} {locs : List Loc} {cells slots : Nat}
theorem mg_stand (X : Stand p l e R s m args below meth cd T locs cells slots) {c : ClassId} {N K : Nat} {row : Cell} (hK : row.slots.size = K) : ∀ i : Nat, Stand p l e R s m args below meth cd (mg_st T c N K row i) locs (cells + 1 + i) (slots + N + i * K)
  | 0 => by
    have h := X.pushed (mg_out c N T.heap.size 0)
    rw [mg_out_size, mg_st_0 (K := K) (row := row)] at h
    rw [Nat.zero_mul]
    exact h
  | i + 1 => by
    have h1 := (mg_stand X (c := c) (N := N) hK i).pushed row
    have h2 : ((mg_st T c N K row i).pushCell row).heap[T.heap.size]? = some (mg_out c N T.heap.size i) := by
      have h0 := mg_st_size (U := T) (c := c) (N := N) (K := K) (row := row) i
      have h00 : T.heap.size < (mg_st T c N K row i).heap.size := Nat.lt_of_lt_of_eq (by omega) h0.symm
      exact (State.heap_pushCell_of_lt _ _ h00).trans (mg_st_out i)
    have h3 := (h1.stored h2 i (.ref (T.heap.size + 1 + i))).dropFresh (fun x hx => by
      rw [List.mem_singleton.mp hx]
      exact X.heapGrown)
    rw [mg_out_s, mg_st_s hK, hK] at h3
    rw [show slots + N + (i + 1) * K = slots + N + i * K + K by rw [Nat.succ_mul]; omega]
    exact h3
end MG2
section MG3
variable {E : CtlPost} {e : Env} {d : Bool} {acts : List Action} {s : State}
/-- an array whose places all hold one of the machine's own starting values -/
theorem mg_new {c k : ClassId} {r : Class} {ty : FieldType} {n : Nat} {v : Value} (hr : s.vm.classes[c]? = some r) (hkd : r.kind = .array k ty) (h1 : n ≤ e.platform.arrayLengthLimit) (h2 : n * componentBytes ty ≤ e.platform.maxHeapBytes) (hfit : fits ty v = true) (hdef : v.isDefault = true) (h3 : s.heap.size < e.platform.maxCells) (h4 : s.slotsUsed + n ≤ e.platform.maxSlots)
    {Q : Addr → Pre} (hq : Q s.heap.size d acts (s.pushCell { cls := c, slots := Array.replicate n v, vm := .none })) : wp (Jvm.newArray c n v) Q E e d acts s := by
  have g1 : ∀ i x, (Array.replicate n v)[i]? = some x → s.fitsSlot c .none i x = true := fun i x hx => by
    rw [Array.getElem?_replicate] at hx
    by_cases hi : i < n
    · rw [if_pos hi] at hx
      cases hx
      simp [State.fitsSlot, State.slotType?, hr, hkd, hfit]
    · rw [if_neg hi] at hx
      cases hx
  have g2 : allocActs (Array.replicate n v) s.heap.size acts = acts := if_pos (by rw [Array.all_replicate]; split <;> first | rfl | exact hdef)
  unfold Jvm.newArray Jvm.arrayFits
  simp only [wp_bind', W.ask, W.ite, if_neg (Nat.not_lt.mpr h1), wp_pure', W.theClass, hr, Option.some.injEq, exists_eq_left', hkd, if_neg (Nat.not_lt.mpr h2), W.alloc, Array.size_replicate, g2]
  rw [if_neg (by omega)]
  exact ⟨h3, h4, g1, hq⟩
/-- the innermost dimension -/
theorem mg_in {k kk : ClassId} {rk : Class} {ty : FieldType} {n : Int32} (hr : s.vm.classes[k]? = some rk) (hkd : rk.kind = .array kk ty) (hn : ¬ n < 0) (h1 : n.toNatClampNeg ≤ e.platform.arrayLengthLimit) (h2 : n.toNatClampNeg * componentBytes ty ≤ e.platform.maxHeapBytes) (hfit : fits ty (defaultValue ty) = true) (hdef : (defaultValue ty).isDefault = true) (h3 : s.heap.size < e.platform.maxCells) (h4 : s.slotsUsed + n.toNatClampNeg ≤ e.platform.maxSlots)
    {Q : Addr → Pre} (hq : Q s.heap.size d acts (s.pushCell { cls := k, slots := Array.replicate n.toNatClampNeg (defaultValue ty), vm := .none })) : wp (Op.multianewarray.make k [n]) Q E e d acts s := by
  rw [Op.multianewarray.make]
  simp only [wp_bind', W.ite, if_neg hn, wp_pure', W.theClass, hr, Option.some.injEq, exists_eq_left', hkd]
  exact mg_new hr hkd h1 h2 hfit hdef h3 h4 hq
/-- a loop over i, i + 1 .. N - 1 that goes from the state I i to the state I (i + 1) -/
theorem mg_loop {f : Nat → PUnit → Sem (ForInStep PUnit)} {I : Nat → State} {N : Nat} (hf : ∀ i, i < N → ∀ (d : Bool) (acts : List Action) (Q : ForInStep PUnit → Pre), (∀ d2 acts2, Q (.yield .unit) d2 acts2 (I (i + 1))) → wp (f i .unit) Q E e d acts (I i)) {Q : PUnit → Pre} (hq : ∀ d acts, Q .unit d acts (I N)) : ∀ (a i : Nat), i + a = N → ∀ (d : Bool) (acts : List Action), wp (forIn (List.range' i a) PUnit.unit f) Q E e d acts (I i)
  | 0, i, h, d, acts => by
    rw [List.range'_zero, List.forIn_nil, wp_pure']
    have h : i = N := h
    subst h
    exact hq d acts
  | a + 1, i, h, d, acts => by
    rw [List.range'_succ, List.forIn_cons, wp_bind']
    exact hf i (by omega) d acts _ (fun d2 acts2 => mg_loop hf hq a (i + 1) (by omega) d2 acts2)
/-- both dimensions -/
theorem mg_make {c k kk : ClassId} {r rk : Class} {ty : FieldType} {n m : Int32} (hr : s.vm.classes[c]? = some r) (hkd : r.kind = .array k (.array ty)) (hrk : s.vm.classes[k]? = some rk) (hkk : rk.kind = .array kk ty) (hn : ¬ n < 0) (hm : ¬ m < 0)
    (h1 : n.toNatClampNeg ≤ e.platform.arrayLengthLimit) (h2 : n.toNatClampNeg * 4 ≤ e.platform.maxHeapBytes) (h3 : m.toNatClampNeg ≤ e.platform.arrayLengthLimit) (h4 : m.toNatClampNeg * componentBytes ty ≤ e.platform.maxHeapBytes) (hfit : fits ty (defaultValue ty) = true) (hdef : (defaultValue ty).isDefault = true)
    (h5 : s.heap.size + (1 + n.toNatClampNeg) ≤ e.platform.maxCells) (h6 : s.slotsUsed + (n.toNatClampNeg + n.toNatClampNeg * m.toNatClampNeg) ≤ e.platform.maxSlots) {row : Cell} (hrow : row = { cls := k, slots := Array.replicate m.toNatClampNeg (defaultValue ty), vm := .none })
    {Q : Addr → Pre} (hq : ∀ d2 acts2, Q s.heap.size d2 acts2 (mg_st s c n.toNatClampNeg m.toNatClampNeg row n.toNatClampNeg)) : wp (Op.multianewarray.make c [n, m]) Q E e d acts s := by
  have hsz : row.slots.size = m.toNatClampNeg := by rw [hrow]; exact Array.size_replicate
  have hf0 : ([m].find? (· < 0)) = none := by simp [hm]
  rw [Op.multianewarray.make]
  simp only [wp_bind', W.ite, if_neg hn, wp_pure', W.theClass, hr, Option.some.injEq, exists_eq_left', hkd]
  refine mg_new hr hkd h1 h2 rfl rfl (by omega) (by omega) ?_
  rw [mg_out_0 c n.toNatClampNeg s.heap.size, mg_st_0 (K := m.toNatClampNeg) (row := row)]
  simp only [hf0, ite_self, wp_bind', wp_pure', Std.Legacy.Range.forIn_eq_forIn_range']
  have hs : ([:n.toNatClampNeg] : Std.Legacy.Range).size = n.toNatClampNeg := by simp [Std.Legacy.Range.size]
  rw [hs]
  refine mg_loop (I := mg_st s c n.toNatClampNeg m.toNatClampNeg row) (fun i hi d acts Q2 hq2 => ?_) (fun d2 acts2 => hq d2 acts2) n.toNatClampNeg 0 (Nat.zero_add _) _ _
  have z1 := mg_st_size (U := s) (c := c) (N := n.toNatClampNeg) (K := m.toNatClampNeg) (row := row) i
  have z2 : i * m.toNatClampNeg + m.toNatClampNeg ≤ n.toNatClampNeg * m.toNatClampNeg := Nat.succ_mul i _ ▸ Nat.mul_le_mul_right m.toNatClampNeg hi
  have z3 : (mg_st s c n.toNatClampNeg m.toNatClampNeg row i).slotsUsed = s.slotsUsed + n.toNatClampNeg + i * m.toNatClampNeg := rfl
  have z4 : s.heap.size < (mg_st s c n.toNatClampNeg m.toNatClampNeg row i).heap.size := Nat.lt_of_lt_of_eq (by omega) z1.symm
  simp only [wp_bind']
  refine mg_in (s := mg_st s c n.toNatClampNeg m.toNatClampNeg row i) hrk hkk hm h3 h4 hfit hdef (Nat.lt_of_le_of_lt (Nat.le_of_eq z1) (by omega)) (by rw [z3]; omega) ?_
  rw [← hrow]
  simp only [wp_bind', W.writeLoc, wp_pure']
  refine ⟨mg_out c n.toNatClampNeg s.heap.size i, (State.heap_pushCell_of_lt _ _ z4).trans (mg_st_out i), (fun h => by cases h), Nat.lt_of_lt_of_eq hi (mg_out_size ..).symm, ?_, ?_⟩
  · show (mg_st s c n.toNatClampNeg m.toNatClampNeg row i).fitsSlot c .none i _ = true
    have hc : (mg_st s c n.toNatClampNeg m.toNatClampNeg row i).vm.classes[c]? = some r := hr
    simp [State.fitsSlot, State.slotType?, hc, hkd, fits]
  · rw [z1, mg_out_s, mg_st_s hsz]
    exact hq2 _ _
end MG3
section MG4
variable {p : Program} {l : Launch} {e : Env} {R : Room} {s : State} {m : MethodId} {args : Array Value} {below : List Frame} {meth : Method} {cd : Code} {T : State} {locs : List Loc} {cells slots : Nat}
theorem mg_st_top (f : JFrame) {c : ClassId} {N K : Nat} {row : Cell} (i : Nat) : mg_st (T.setTop f) c N K row i = (mg_st T c N K row i).setTop f := by
  unfold mg_st
  rfl
/-- the step: new T[n][k], where the array's own type has been made before -/
theorem mg_step (X : Stand p l e R s m args below meth cd T locs cells slots) (hexec : p.tables.exec = Jvm.exec) {own : String} {index : Nat} {ty : FieldType} (hown : s.vm.findClass own = some m.cls) (hclink : (Cond.classLink own index ("[" ++ (FieldType.array ty).toString)).before args s = true) (hover : (Cond.arrayOver (.array ty)).before args s = true) (harr : (Cond.arrayClass ty).before args s = true)
    {g : JFrame} (hg : g.method = m) (hdg : decode cd.code g.pc = .ok (.multianewarray index 2, 4)) {n k : Int32} {rest : List Value} (hstack : g.stack = .int k :: .int n :: rest) (hn : ¬ n < 0) (hk : ¬ k < 0) (h1 : n.toNatClampNeg * 4 ≤ 536870912) (h2 : k.toNatClampNeg * componentBytes ty ≤ 536870912) (h3 : k.toNatClampNeg ≤ 536870912)
    (hfit : fits ty (defaultValue ty) = true) (hdef : (defaultValue ty).isDefault = true) (hcells : cells + (1 + n.toNatClampNeg) ≤ R.cells) (hslots : slots + (n.toNatClampNeg + n.toNatClampNeg * k.toNatClampNeg) ≤ R.slots) :
    ∃ (vm1 : Vm) (cA comp : ClassId) (rA : Class) (row : Cell), s.vm.findClass ("[" ++ (FieldType.array ty).toString) = some cA ∧ s.vm.findClass (FieldType.array ty).toString = some comp ∧ s.vm.classes[cA]? = some rA ∧ rA.kind = .array comp (.array ty) ∧ row = { cls := comp, slots := Array.replicate k.toNatClampNeg (defaultValue ty), vm := .none } ∧
      Stand p l e R s m args below meth cd (mg_st (T.setVm vm1) cA n.toNatClampNeg k.toNatClampNeg row n.toNatClampNeg) locs (cells + 1 + n.toNatClampNeg) (slots + n.toNatClampNeg + n.toNatClampNeg * k.toNatClampNeg) ∧
      ∀ target, Steps p.tables e below ((mg_st (T.setVm vm1) cA n.toNatClampNeg k.toNatClampNeg row n.toNatClampNeg).setTop { g with pc := g.pc + 4, stack := .ref T.heap.size :: rest }) target → Steps p.tables e below (T.setTop g) target := by
  subst hg
  obtain ⟨comp, cA, rA, o1, -, o3, o4, o5⟩ := mg_ov_of hover
  obtain ⟨comp2, rC, kk, a1, a2, a3⟩ := Cond.arrayClass_spec harr
  obtain rfl : comp2 = comp := Option.some.inj (a1.symm.trans o1)
  obtain ⟨c2, l1, l2⟩ := Cond.classLink_spec hown hclink e.platform (by rw [X.admits.platform])
  obtain rfl : cA = c2 := Option.some.inj (o5.symm.trans l1)
  obtain ⟨w1, w2, -⟩ := State.classEntry (e := e) X.warmed l2
  generalize T.vm.noted g.method.cls index (.cls cA) = vm1 at w1 w2
  obtain ⟨rA1, b1, b2⟩ := w2.alike.2.2 _ _ o3
  obtain ⟨rC1, b3, b4⟩ := w2.alike.2.2 _ _ a2
  have X1 := X.noted w2
  have hsz : ({ cls := comp2, slots := Array.replicate k.toNatClampNeg (defaultValue ty), vm := .none } : Cell).slots.size = k.toNatClampNeg := Array.size_replicate
  have X2 := mg_stand X1 (c := cA) (N := n.toNatClampNeg) hsz n.toNatClampNeg
  obtain ⟨r1, r2⟩ := X.roomAbove hcells hslots
  have p1 := Launch.admits_arrayLengthLimit X.admits
  have p2 := Launch.admits_maxHeapBytes X.admits
  refine ⟨vm1, cA, comp2, rA, _, o5, o1, o3, o4, rfl, X2, fun target hrest => ?_⟩
  jvm_step X.here [hexec, hdg]
  simp only [Op.multianewarray.sem, wp_bind', W.resolveClassAt_links (State.method?_setTop g X.here.top) w1]
  refine (Op.popN_top (s := T.setVm vm1) (f := g) X.here.top (args := [.int n, .int k]) (rest := rest) hstack).mpr ?_
  simp only [List.mapM_cons, List.mapM_nil, wp_bind', wp_pure']
  refine mg_make (s := (T.setVm vm1).setTop { g with stack := rest }) b1 (by rw [b2]; exact o4) b3 (by rw [b4]; exact a3) hn hk (by rw [p1]; omega) (by rw [p2]; omega) (by rw [p1]; omega) (by rw [p2]; exact h2) hfit hdef r1 r2 rfl (fun d2 acts2 => ?_)
  rw [mg_st_top]
  simp only [wp_bind', W.mark, W.pushRef, State.topJava?_setTop' _ X2.here.top, Option.some.injEq, exists_eq_left', State.setTop_setTop, State.heap_setTop]
  intro acts3
  simp [jvm, X2.here.top]
  exact hrest
end MG4
