theorem CQ.lo {ad : Nat → Nat} {A : Nat → Prop} {U : State} {H : Heap} (q : CQ ad A U H) : ∀ a, 2000 ≤ a → ad a = dq a := q.1
theorem CQ.kept {ad : Nat → Nat} {A : Nat → Prop} {U : State} {H H1 : Heap} (q : CQ ad A U H) (hq : ∀ a : Nat, a < H.size → ¬ A a → H1[a]? = H[a]?) : CQ ad A U H1 := ⟨q.1, q.2.1, q.2.2.1, q.2.2.2.1, fun x hx => (q.2.2.2.2.1 x hx).kept hq, q.2.2.2.2.2.1.kept hq, q.2.2.2.2.2.2.1, q.2.2.2.2.2.2.2.1, q.2.2.2.2.2.2.2.2.1, q.2.2.2.2.2.2.2.2.2.imp (fun z => z.kept hq) (fun z => z.kept hq)⟩
theorem CQ.narrow {ad : Nat → Nat} {A B : Nat → Prop} {U : State} {H : Heap} (q : CQ ad A U H) (hAB : ∀ q, B q → A q) : CQ ad B U H := ⟨q.1, q.2.1, q.2.2.1, q.2.2.2.1, fun x hx => (q.2.2.2.2.1 x hx).narrow hAB, q.2.2.2.2.2.1.narrow hAB, q.2.2.2.2.2.2.1, q.2.2.2.2.2.2.2.1, q.2.2.2.2.2.2.2.2.1, q.2.2.2.2.2.2.2.2.2.imp (fun z => z.narrow hAB) (fun z => z.narrow hAB)⟩
theorem CQ.moved {ad : Nat → Nat} {A : Nat → Prop} {s U : State} {H : Heap} (hW : s.WarmedH U.vm) (q : CQ ad A s H) : CQ ad A U H := by
  have hvm := hW.alike
  refine ⟨q.1, fun w hw => ?_, fun i x hx => (q.2.2.1 i x hx).warm hW, fun x hx => (q.2.2.2.1 x hx).moved (FQ_mh x hx) hvm, fun x hx => (q.2.2.2.2.1 x hx).moved hvm, q.2.2.2.2.2.1.moved hvm, q.2.2.2.2.2.2.1.moved hvm, q.2.2.2.2.2.2.2.1.moved hvm, q.2.2.2.2.2.2.2.2.1.moved hvm, q.2.2.2.2.2.2.2.2.2.imp (fun z => z.moved hvm) (fun z => z.moved hvm)⟩
  have h1 := List.all_eq_true.mp XQ_k w hw
  have h2 := q.2.1 w hw
  cases w <;> first | exact va_Nw.warmM hW h2 | exact va_Nw.warmF hW h2 | exact va_Nw.warmC hW h2 | exact va_Nw.warmD hW h2 | exact word_at hW (Or.inl rfl) h2 | cases h1
theorem CQ.same {ad : Nat → Nat} {A : Nat → Prop} {u U : State} {H : Heap} (hv : u.vm = U.vm) (q : CQ ad A u H) : CQ ad A U H := by
  have hvm : u.vm.Alike U.vm := hv ▸ Vm.Alike.refl u.vm
  refine ⟨q.1, fun w hw => ?_, fun i x hx => (q.2.2.1 i x hx).same hv.symm, fun x hx => (q.2.2.2.1 x hx).moved (FQ_mh x hx) hvm, fun x hx => (q.2.2.2.2.1 x hx).moved hvm, q.2.2.2.2.2.1.moved hvm, q.2.2.2.2.2.2.1.moved hvm, q.2.2.2.2.2.2.2.1.moved hvm, q.2.2.2.2.2.2.2.2.1.moved hvm, q.2.2.2.2.2.2.2.2.2.imp (fun z => z.moved hvm) (fun z => z.moved hvm)⟩
  exact va_Nw.same (List.all_eq_true.mp XQ_on w hw) hv (q.2.1 w hw)
