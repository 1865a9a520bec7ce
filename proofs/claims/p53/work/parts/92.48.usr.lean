/-! ===== undo, save, restore ===== -/
section
variable {q : Nat → PH → Prop} {kk : Int32 → PH → Prop} {kv : PH → Prop} {h h' : PH} {s t s' : RW} {C E D F : Nat} {a b0 u w : Nat} {f g z : FI}
theorem gl_sl (h : PH) (a k : Nat) (x : Int64) (b j : Nat) : gl (sl h a k x) b j = if b = a then (if j = k then x else gl h b j) else gl h b j := rfl
theorem gl_same {a k : Nat} {x : Int64} : gl (sl h a k x) a k = x := by rw [gl_sl, if_pos rfl, if_pos rfl]
theorem gl_ob {a k b j : Nat} {x : Int64} (e : b ≠ a) : gl (sl h a k x) b j = gl h b j := by rw [gl_sl, if_neg e]
theorem gl_ok {a k j : Nat} {x : Int64} (e : j ≠ k) : gl (sl h a k x) a j = gl h a j := by rw [gl_sl, if_pos rfl, if_neg e]
/-- longs of one cell are changed -/
def Lc1 (a : Nat) (h h' : PH) : Prop := h'.1 = h.1 ∧ (∀ c, c ≠ a → h'.2.1 c = h.2.1 c) ∧ h'.2.2 = h.2.2
theorem Lc1.refl (a : Nat) (h : PH) : Lc1 a h h := ⟨rfl, fun _ _ => rfl, rfl⟩
theorem Lc1.and {a k : Nat} {h1 : PH} (x : Int64) (L : Lc1 a h h1) : Lc1 a h (sl h1 a k x) := ⟨L.1, fun c hc => by
  rw [← L.2.1 c hc]
  funext j
  exact if_neg hc, L.2.2⟩
/-! undo -/
/-- the class has gone back -/
def UdC (u w : Nat) (h h' : PH) : Prop := (∀ c, (c < 60 ∨ 66 < c) → c ≠ 13 → h'.1 c = h.1 c) ∧ (∀ k, k ≠ 1 → k ≠ 2 → h'.1 13 k = h.1 13 k) ∧ gi h' 13 1 = nI (u - 1) ∧ gi h' 13 2 = nI ((w + 5) % 6) ∧ h'.2 = h.2 ∧ StC 60 (88 + 7 * w) h.1 h'.1
theorem fm6 : ∀ w, w < 6 → fmV (nI w - nI 1) (nI 6) = nI ((w + 5) % 6) := by decide +kernel
theorem c_undo (I : Inv z C E h) (K : ∀ u w, IHb C E u w h → (u = 0 → kk (-(nI 1)) h) ∧ (¬ u = 0 → ∀ h2, UdC u w h h2 → kk (nI (u - 1)) h2)) : MetPM m_X11_undo [.ref 0] h (rI q kk) := by
  obtain ⟨u, w, b⟩ := I.ih
  have K := K u w b
  obtain ⟨b1, b2, b3, b4, b5, b6, b7⟩ := b
  refine t_X11_undo ?_
  rw [b3, ← nI_0, nI_eq (by omega) (by omega)]
  refine ⟨fun c => ?_, fun c => K.1 c⟩
  have K := K.2 c
  refine t_X4_takeBack ?_
  rw [b4, b3, cl (by omega)]
  refine ⟨vp_in_nI b2 (by omega), fun b1' hb => br_f (nI_nle (by omega) (by omega)) ?_, fun hb => ?_⟩
  · have e9 : b1' = 88 + 7 * w := by
      rw [b6 w b2] at hb
      exact (Option.some.inj hb).symm
    subst e9
    have hx : hix u w (u - 1) = w := by unfold hix; omega
    have S := (b7 (u - 1) (by omega)).2.2
    rw [hx] at S
    refine c_copySt (HB_k b2).2 S.ib (fun h2 f2 c2 => ⟨by decide, ?_⟩)
    have o2 : ∀ c, (c < 60 ∨ 66 < c) → h2.1 c = h.1 c := fun c hc => f2.cell fun k => WS_f (by omega)
    have e132 : gi h2 13 2 = nI w := by
      show h2.1 13 2 = _
      rw [o2 13 (by omega)]; exact b4
    have e131 : gi h2 13 1 = nI u := by
      show h2.1 13 1 = _
      rw [o2 13 (by omega)]; exact b3
    rw [e132, fm6 w b2, gi_ok (by omega), e131, pk_sub (by omega)]
    intro h3
    have o3 : ∀ c, c ≠ 13 → h3.1 c = h2.1 c := fun c hc => by
      show (si (si h2 13 2 (nI ((w + 5) % 6))) 13 1 (nI (u - 1))).1 c = _
      rw [si_b hc, si_b hc]
    have g1 : gi h3 13 1 = nI (u - 1) := gi_same
    have g2 : gi h3 13 2 = nI ((w + 5) % 6) := by
      show gi (si (si h2 13 2 (nI ((w + 5) % 6))) 13 1 (nI (u - 1))) 13 2 = _
      rw [gi_ok (by omega), gi_same]
    have g3 : ∀ k, k ≠ 1 → k ≠ 2 → h3.1 13 k = h.1 13 k := fun k k1 k2 => by
      show (si (si h2 13 2 (nI ((w + 5) % 6))) 13 1 (nI (u - 1))).1 13 k = _
      rw [si_a, ups_n k1, si_a, ups_n k2, o2 13 (by omega)]
    have g4 : h3.2 = h.2 := f2.2
    clear_value h3
    obtain ⟨x1, x2, x3, x4⟩ := c2
    show rI q kk (.inl (some (.int (gi h3 13 1)))) h3
    rw [g1]
    refine K h3 ⟨fun c hc hc2 => (o3 c hc2).trans (o2 c hc), g3, g1, g2, g4, fun k hk => ?_, fun i h1 h2' j hj => ?_, ⟨?_, ?_⟩, fun j hj => ?_⟩
    · rw [o3 60 (by omega)]; exact x1 k hk
    · rw [o3 (60 + i) (by omega)]; exact x2 i h1 h2' j hj
    · rw [o3 (60 + 5) (by omega)]; exact x3.1
    · rw [o3 (60 + 5) (by omega)]; exact x3.2
    · rw [o3 (60 + 6) (by omega)]; exact x4 j hj
  · rw [b6 w b2] at hb
    cases hb
/-! save -/
def W133 (b k : Nat) : Bool := Nat.beq b 133
def SvC (h h' : PH) : Prop := (∀ c, c ≠ 0 → (c < 45 ∨ 59 < c) → (c < 81 ∨ 87 < c) → h'.1 c = h.1 c) ∧ (∀ k, k ≠ 5 → h'.1 0 k = h.1 0 k) ∧ gi h' 0 5 = nI 1 ∧ (∀ c, (c < 45 ∨ 59 < c) → h'.2.1 c = h.2.1 c) ∧ h'.2.2 = h.2.2 ∧ LyC 45 15 h h' ∧ StC 81 60 h.1 h'.1
/-- what isn't touched by what is saved -/
theorem Inv.keep {W : Nat → Nat → Prop} {V : Nat → Prop} (x : Fz W V h h') (w1 : ∀ b k, W b k → (45 ≤ b ∧ b ≤ 59) ∨ (81 ≤ b ∧ b ≤ 87) ∨ (b = 0 ∧ k = 5) ∨ b = 133 ∨ (b = 130 ∧ (k = 0 ∨ k = 22))) (w2 : ∀ b, V b → (45 ≤ b ∧ b ≤ 59) ∨ b = 138) (I : Inv z C E h) (S : IS C E h') : Inv z C E h' := by
  have nw : ∀ b k, ¬ ((45 ≤ b ∧ b ≤ 59) ∨ (81 ≤ b ∧ b ≤ 87) ∨ (b = 0 ∧ k = 5) ∨ b = 133 ∨ (b = 130 ∧ (k = 0 ∨ k = 22))) → ¬ W b k := fun b k y z => y (w1 b k z)
  have nv : ∀ b, ¬ ((45 ≤ b ∧ b ≤ 59) ∨ b = 138) → ¬ V b := fun b y z => y (w2 b z)
  have e132 : h'.1 132 = h.1 132 := x.cell fun k => nw _ _ (by omega)
  refine ⟨⟨?_, ?_⟩, I.it.fz x (fun k _ _ => nw _ _ (by omega)) (fun k => nw _ _ (by omega)) (fun k => nw _ _ (by omega)) (fun k _ => nw _ _ (by omega)), ?_, S, I.ih.fz x (fun k => nw _ _ (by omega)) (nw _ _ (by omega)) (fun k => nw _ _ (by omega)) (fun b k _ => nw _ _ (by omega)), I.ip.fz x (nw _ _ (by omega)) (nw _ _ (by omega)) (nw _ _ (by omega)) (fun k => nw _ _ (by omega)) (fun k => nw _ _ (by omega)), I.iz.fz x (fun k => nw _ _ (by omega)) (fun k => nw _ _ (by omega)) (nw _ _ (by omega))⟩
  · rw [e132]; exact I.ic.1
  · rw [e132]; exact I.ic.2.heap fun b hb => x.cell fun k => nw _ _ (by omega)
  · exact NmR.fz x (nv _ (by omega)) (nv _ (by omega)) (nv _ (by omega)) (nv _ (by omega)) (by rw [e132]) (by rw [e132]) (by rw [e132]) I.inn
end

