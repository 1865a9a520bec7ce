/-! ===== undo, save, restore ===== -/
section
variable {q : Nat → PH → Prop} {kk : Int32 → PH → Prop} {kv : PH → Prop} {h h' : PH} {s t s' : RW} {C E D F : Nat} {a b0 u w : Nat} {f g z : FI}
theorem gl_sl (h : PH) (a k : Nat) (x : Int64) (b j : Nat) : gl (sl h a k x) b j = if b = a then (if j = k then x else gl h b j) else gl h b j := rfl
theorem gl_same {a k : Nat} {x : Int64} : gl (sl h a k x) a k = x := by rw [gl_sl, if_pos rfl, if_pos rfl]
theorem gl_ob {a k b j : Nat} {x : Int64} (e : b ≠ a) : gl (sl h a k x) b j = gl h b j := by rw [gl_sl, if_neg e]
theorem gl_ok {a k j : Nat} {x : Int64} (e : j ≠ k) : gl (sl h a k x) a j = gl h a j := by rw [gl_sl, if_pos rfl, if_neg e]
/-- longs of one cell are changed -/
def Lc1 (a : Nat) (h h' : PH) : Prop := h'.1 = h.1 ∧ (∀ c, c ≠ a → h'.2.1 c = h.2.1 c) ∧ h'.2.2 = h.2.2
theorem Lc1.refl (a : Nat) (h : PH) : Lc1 a h h := ⟨rfl, fun _ _ => rfl, rfl⟩
theorem Lc1.and {a k : Nat} {h1 : PH} (x : Int64) (L : Lc1 a h h1) : Lc1 a h (sl h1 a k x) := ⟨L.1, fun c hc => by
  rw [← L.2.1 c hc]
  funext j
  exact if_neg hc, L.2.2⟩
/-! undo -/
/-- the class has gone back -/
def UdC (u w : Nat) (h h' : PH) : Prop := (∀ c, (c < 60 ∨ 66 < c) → c ≠ 13 → h'.1 c = h.1 c) ∧ (∀ k, k ≠ 1 → k ≠ 2 → h'.1 13 k = h.1 13 k) ∧ gi h' 13 1 = nI (u - 1) ∧ gi h' 13 2 = nI ((w + 5) % 6) ∧ h'.2 = h.2 ∧ StC 60 (88 + 7 * w) h.1 h'.1
theorem fm6 : ∀ w, w < 6 → fmV (nI w - nI 1) (nI 6) = nI ((w + 5) % 6) := by decide +kernel
/-! save -/
def W133 (b k : Nat) : Bool := Nat.beq b 133
def SvC (h h' : PH) : Prop := (∀ c, c ≠ 0 → (c < 45 ∨ 59 < c) → (c < 81 ∨ 87 < c) → h'.1 c = h.1 c) ∧ (∀ k, k ≠ 5 → h'.1 0 k = h.1 0 k) ∧ gi h' 0 5 = nI 1 ∧ (∀ c, (c < 45 ∨ 59 < c) → h'.2.1 c = h.2.1 c) ∧ h'.2.2 = h.2.2 ∧ LyC 45 15 h h' ∧ StC 81 60 h.1 h'.1
/-- what isn't touched by what is saved -/
theorem Inv.keep {W : Nat → Nat → Prop} {V : Nat → Prop} (x : Fz W V h h') (w1 : ∀ b k, W b k → (45 ≤ b ∧ b ≤ 59) ∨ (81 ≤ b ∧ b ≤ 87) ∨ (b = 0 ∧ k = 5) ∨ b = 133 ∨ (b = 130 ∧ (k = 0 ∨ k = 22))) (w2 : ∀ b, V b → (45 ≤ b ∧ b ≤ 59) ∨ b = 138) (I : Inv z C E h) (S : IS C E h') : Inv z C E h' := by
  have nw : ∀ b k, ¬ ((45 ≤ b ∧ b ≤ 59) ∨ (81 ≤ b ∧ b ≤ 87) ∨ (b = 0 ∧ k = 5) ∨ b = 133 ∨ (b = 130 ∧ (k = 0 ∨ k = 22))) → ¬ W b k := fun b k y z => y (w1 b k z)
  have nv : ∀ b, ¬ ((45 ≤ b ∧ b ≤ 59) ∨ b = 138) → ¬ V b := fun b y z => y (w2 b z)
  have e132 : h'.1 132 = h.1 132 := x.cell fun k => nw _ _ (by omega)
  refine ⟨⟨?_, ?_⟩, I.it.fz x (fun k _ _ => nw _ _ (by omega)) (fun k => nw _ _ (by omega)) (fun k => nw _ _ (by omega)) (fun k _ => nw _ _ (by omega)), ?_, S, I.ih.fz x (fun k => nw _ _ (by omega)) (nw _ _ (by omega)) (fun k => nw _ _ (by omega)) (fun b k _ => nw _ _ (by omega)), I.ip.fz x (nw _ _ (by omega)) (nw _ _ (by omega)) (nw _ _ (by omega)) (fun k => nw _ _ (by omega)) (fun k => nw _ _ (by omega)), I.iz.fz x (fun k => nw _ _ (by omega)) (fun k => nw _ _ (by omega)) (nw _ _ (by omega))⟩
  · rw [e132]; exact I.ic.1
  · rw [e132]; exact I.ic.2.heap fun b hb => x.cell fun k => nw _ _ (by omega)
  · exact NmR.fz x (nv _ (by omega)) (nv _ (by omega)) (nv _ (by omega)) (nv _ (by omega)) (by rw [e132]) (by rw [e132]) (by rw [e132]) I.inn
end

