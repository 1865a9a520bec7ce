/-! ===== undo, save, restore ===== -/
section
variable {q : Nat → PH → Prop} {kk : Int32 → PH → Prop} {kv : PH → Prop} {h h' : PH} {s t s' : RW} {C E D F : Nat} {a b0 u w : Nat} {f g z : FI}
theorem gl_sl (h : PH) (a k : Nat) (x : Int64) (b j : Nat) : gl (sl h a k x) b j = if b = a then (if j = k then x else gl h b j) else gl h b j := rfl
theorem gl_same {a k : Nat} {x : Int64} : gl (sl h a k x) a k = x := by rw [gl_sl, if_pos rfl, if_pos rfl]
theorem gl_ob {a k b j : Nat} {x : Int64} (e : b ≠ a) : gl (sl h a k x) b j = gl h b j := by rw [gl_sl, if_neg e]
theorem gl_ok {a k j : Nat} {x : Int64} (e : j ≠ k) : gl (sl h a k x) a j = gl h a j := by rw [gl_sl, if_pos rfl, if_neg e]
/-- longs of one cell are changed -/
def Lc1 (a : Nat) (h h' : PH) : Prop := h'.1 = h.1 ∧ (∀ c, c ≠ a → h'.2.1 c = h.2.1 c) ∧ h'.2.2 = h.2.2
theorem Lc1.refl (a : Nat) (h : PH) : Lc1 a h h := ⟨rfl, fun _ _ => rfl, rfl⟩
theorem Lc1.and {a k : Nat} {h1 : PH} (x : Int64) (L : Lc1 a h h1) : Lc1 a h (sl h1 a k x) := ⟨L.1, fun c hc => by
  rw [← L.2.1 c hc]
  funext j
  exact if_neg hc, L.2.2⟩
/-! undo -/
/-- the class has gone back -/
def UdC (u w : Nat) (h h' : PH) : Prop := (∀ c, (c < 60 ∨ 66 < c) → c ≠ 13 → h'.1 c = h.1 c) ∧ (∀ k, k ≠ 1 → k ≠ 2 → h'.1 13 k = h.1 13 k) ∧ gi h' 13 1 = nI (u - 1) ∧ gi h' 13 2 = nI ((w + 5) % 6) ∧ h'.2 = h.2 ∧ StC 60 (88 + 7 * w) h.1 h'.1
theorem fm6 : ∀ w, w < 6 → fmV (nI w - nI 1) (nI 6) = nI ((w + 5) % 6) := by decide +kernel
theorem c_undo (I : Inv z C E h) (K : ∀ u w, IHb C E u w h → (u = 0 → kk (-(nI 1)) h) ∧ (¬ u = 0 → ∀ h2, UdC u w h h2 → kk (nI (u - 1)) h2)) : MetPM m_X11_undo [.ref 0] h (rI q kk) := by
  obtain ⟨u, w, b⟩ := I.ih
  have K := K u w b
  obtain ⟨b1, b2, b3, b4, b5, b6, b7⟩ := b
  refine t_X11_undo ?_
  rw [b3, ← nI_0, nI_eq (by omega) (by omega)]
  refine ⟨fun c => ?_, fun c => K.1 c⟩
  have K := K.2 c
  refine t_X4_takeBack ?_
  rw [b4, b3, cl (by omega)]
  refine ⟨vp_in_nI b2 (by omega), fun b1' hb => br_f (nI_nle (by omega) (by omega)) ?_, fun hb => ?_⟩
  · have e9 : b1' = 88 + 7 * w := by
      rw [b6 w b2] at hb
      exact (Option.some.inj hb).symm
    subst e9
    have hx : hix u w (u - 1) = w := by unfold hix; omega
    have S := (b7 (u - 1) (by omega)).2.2
    rw [hx] at S
    refine c_copySt (HB_k b2).2 S.ib (fun h2 f2 c2 => ⟨by decide, ?_⟩)
    have o2 : ∀ c, (c < 60 ∨ 66 < c) → h2.1 c = h.1 c := fun c hc => f2.cell fun k => WS_f (by omega)
    have e132 : gi h2 13 2 = nI w := by
      show h2.1 13 2 = _
      rw [o2 13 (by omega)]; exact b4
    have e131 : gi h2 13 1 = nI u := by
      show h2.1 13 1 = _
      rw [o2 13 (by omega)]; exact b3
    rw [e132, fm6 w b2, gi_ok (by omega), e131, pk_sub (by omega)]
    intro h3
    have o3 : ∀ c, c ≠ 13 → h3.1 c = h2.1 c := fun c hc => by
      show (si (si h2 13 2 (nI ((w + 5) % 6))) 13 1 (nI (u - 1))).1 c = _
      rw [si_b hc, si_b hc]
    have g1 : gi h3 13 1 = nI (u - 1) := gi_same
    have g2 : gi h3 13 2 = nI ((w + 5) % 6) := by
      show gi (si (si h2 13 2 (nI ((w + 5) % 6))) 13 1 (nI (u - 1))) 13 2 = _
      rw [gi_ok (by omega), gi_same]
    have g3 : ∀ k, k ≠ 1 → k ≠ 2 → h3.1 13 k = h.1 13 k := fun k k1 k2 => by
      show (si (si h2 13 2 (nI ((w + 5) % 6))) 13 1 (nI (u - 1))).1 13 k = _
      rw [si_a, ups_n k1, si_a, ups_n k2, o2 13 (by omega)]
    have g4 : h3.2 = h.2 := f2.2
    clear_value h3
    obtain ⟨x1, x2, x3, x4⟩ := c2
    show rI q kk (.inl (some (.int (gi h3 13 1)))) h3
    rw [g1]
    refine K h3 ⟨fun c hc hc2 => (o3 c hc2).trans (o2 c hc), g3, g1, g2, g4, fun k hk => ?_, fun i h1 h2' j hj => ?_, ⟨?_, ?_⟩, fun j hj => ?_⟩
    · rw [o3 60 (by omega)]; exact x1 k hk
    · rw [o3 (60 + i) (by omega)]; exact x2 i h1 h2' j hj
    · rw [o3 (60 + 5) (by omega)]; exact x3.1
    · rw [o3 (60 + 5) (by omega)]; exact x3.2
    · rw [o3 (60 + 6) (by omega)]; exact x4 j hj
  · rw [b6 w b2] at hb
    cases hb
theorem l_undo {h0 : PH} {v : Nat} (hv : v < 6) (K : ∀ h', Fr WR h0 h' → (∀ j, j < 253 → gi h' 132 j = gi h0 134 (253 * v + j)) → kk (nI v) h') (e0 : gi h0 130 21 = nI v) : ∀ k i h, i + k = 253 → Fr WR h0 h → (∀ j, j < i → gi h 132 j = gi h0 134 (253 * v + j)) → At m_X12_undo (rI q kk) 26 0 [some (.ref 130), some (.int (nI i))] [] h := by
  intro k
  induction k with
  | zero =>
    intro i h hi F A
    have e : gi h 130 21 = nI v := (F.1 130 21 rfl).trans e0
    refine u_X12_undo_26 (pk_le 253 i (fun _ => ?_) (fun z => absurd z (by omega)))
    rw [e]
    exact K h F (fun j hj => A j (by omega))
  | succ k ih =>
    intro i h hi F A
    have e : gi h 130 21 = nI v := (F.1 130 21 rfl).trans e0
    refine u_X12_undo_26 (pk_le 253 i (fun z => absurd z (by omega)) (fun _ => ?_))
    rw [e, pk_mul, nI_add, nI_add, cl (by omega), cl (by omega)]
    refine ⟨vp_in_nI (by omega) (by omega), rv (by omega), ih (i + 1) _ (by omega) (F.and _ (WR_t (by omega))) (fun j hj => ?_)⟩
    by_cases c : j = i
    · subst c; rw [gi_same, F.1 134 _ rfl]
    · rw [gi_ok c]; exact A j (by omega)
theorem s_undo0 (e : gi h 130 21 = nI 0) (K : kk (-(nI 1)) (si h 130 0 (nI 0))) : MetPM m_X12_undo [.ref 130] h (rI q kk) := by
  refine t_X12_undo ?_
  rw [gi_ok (by omega), e]
  exact g0 K
theorem s_undo {h0 : PH} (I : Inv z C E h0) (B : IHb C E u w h0) (hu : ¬ u = 0) (U : UdC u w h0 h) (K : ∀ h', Inv z C E h' → gi h' 130 0 = nI 0 → kk (nI (u - 1)) h') : MetPM m_X12_undo [.ref 130] h (rI q kk) := by
  obtain ⟨b1, b2, b3, b4, b5, b6, b7⟩ := B
  obtain ⟨u1, u2, u3, u4, u5, u6⟩ := U
  have e21 : gi h 130 21 = nI u := by
    show h.1 130 21 = _
    rw [u1 130 (by omega) (by omega)]; exact b5
  refine t_X12_undo ?_
  rw [gi_ok (by omega), e21, pk_sub (by omega), ← nI_0, nI_eq (by omega) (by omega)]
  refine ⟨fun _ => ?_, fun c => absurd c hu⟩
  refine l_undo (h0 := si (si h 130 0 (nI 0)) 130 21 (nI (u - 1))) (v := u - 1) (by omega) (fun h1 f1 a1 => ?_) gi_same _ 0 _ (Nat.zero_add _) (Fr.refl _ _) (fun j hj => absurd hj (Nat.not_lt_zero j))
  have cell : ∀ c, c ≠ 130 → c ≠ 132 → h1.1 c = h.1 c := fun c x1 x2 => by
    rw [f1.cell (b := c) (fun k => by
      unfold WR
      rw [nbq x2]; rfl), si_b x1, si_b x1]
  have c130 : ∀ k, k ≠ 0 → k ≠ 21 → h1.1 130 k = h.1 130 k := fun k x1 x2 => by
    rw [f1.cell (b := 130) (fun k => rfl), si_a, ups_n x2, si_a, ups_n x1]
  have e12 : h1.2 = h0.2 := f1.2.trans u5
  have ep : eqR (pst h0 (u - 1)) (h1.1 132) := fun j hj => by
    show gi h1 132 j = gi h0 134 _
    rw [a1 j hj, gi_ob (by omega), gi_ob (by omega)]
    show h.1 134 _ = _
    rw [u1 134 (by omega) (by omega)]; rfl
  obtain ⟨p1, p2, p3⟩ := b7 (u - 1) (by omega)
  have hx : hix u w (u - 1) = w := by unfold hix; omega
  rw [hx] at p3
  have all : ∀ c, (c < 60 ∨ 66 < c) → c ≠ 13 → c ≠ 130 → c ≠ 132 → h1.1 c = h0.1 c := fun c x1 x2 x3 x4 => (cell c x3 x4).trans (u1 c x1 x2)
  have fz : Fz WX VZ h0 h1 := ⟨fun b k e => by
    by_cases c : b = 130
    · subst c
      unfold WX WZ at e
      show h1.1 130 k = h0.1 130 k
      rw [c130 k (by omega) (by omega), u1 130 (by omega) (by omega)]
    · unfold WX WZ at e
      show h1.1 b k = h0.1 b k
      rw [all b (by omega) (by omega) c (by omega)], fun b _ => by rw [e12], fun b _ => by rw [e12]⟩
  have X : CR 60 (h1.1 132) h1 := by
    refine ⟨(p2.heap fun b x1 x2 => all b (by omega) (by omega) (by omega) (by omega)).congr ep.ag p1.1, ?_⟩
    exact (((p3.cp p1.m.2 u6).heap (g := h1.1) fun b x1 x2 => cell b (by omega) (by omega)).eqR p1.m.2 ep)
  have cnt3 : ∀ i, i < 3 → h1.1 132 i = h0.1 132 i := fun i hi => by
    have Y := I.ic.2.1
    rw [ep i (by omega)]
    rcases (by omega : i = 0 ∨ i = 1 ∨ i = 2) with rfl | rfl | rfl
    · exact p2.nv.symm.trans Y.nv
    · exact p2.np.symm.trans Y.np
    · exact p2.nm.symm.trans Y.nm
  have M := MidB.fz fz (fun _ _ y => y) cnt3 ⟨I.it, I.inn, I.is, I.ip, I.iz⟩
  refine K h1 ⟨⟨p1.eqR ep, X⟩, M.1, M.2.1, M.2.2.1, ⟨u - 1, (w + 5) % 6, by omega, Nat.mod_lt _ (by omega), ?_, ?_, ?_, fun j hj => ?_, fun i hi => ?_⟩, M.2.2.2.1, M.2.2.2.2⟩ ?_
  · show h1.1 13 1 = _
    rw [cell 13 (by omega) (by omega)]; exact u3
  · show h1.1 13 2 = _
    rw [cell 13 (by omega) (by omega)]; exact u4
  · show h1.1 130 21 = _
    rw [f1.cell (b := 130) (fun k => rfl), si_a, ups_s]
  · show h1.2.2.1 14 j = _
    rw [e12]; exact b6 j hj
  · obtain ⟨d1, d2, d3⟩ := b7 i (by omega)
    have eh : hix (u - 1) ((w + 5) % 6) i = hix u w i := by unfold hix; omega
    have := hix_lt (u := u) (w := w) (i := i)
    rw [pst_eq (all 134 (by omega) (by omega) (by omega) (by omega)), eh]
    exact ⟨d1, d2.heap fun b x1 x2 => all b (by omega) (by omega) (by omega) (by omega), d3.heap fun b x1 x2 => all b (by omega) (by omega) (by omega) (by omega)⟩
  · show h1.1 130 0 = _
    rw [f1.cell (b := 130) (fun k => rfl), si_a, ups_n (by omega), si_a, ups_s]
/-! save -/
def W133 (b k : Nat) : Bool := Nat.beq b 133
theorem l_save7 {h0 : PH} (K : ∀ h', Fr W133 h0 h' → (∀ j, j < 253 → gi h' 133 j = gi h0 132 j) → At m_X12_save (rI q kk) 34 0 [some (.ref 130), some (.int (nI 0))] [] h') : ∀ k i h, i + k = 253 → Fr W133 h0 h → (∀ j, j < i → gi h 133 j = gi h0 132 j) → At m_X12_save (rI q kk) 7 0 [some (.ref 130), some (.int (nI i))] [] h := by
  intro k
  induction k with
  | zero =>
    intro i h hi F A
    refine u_X12_save_7 (pk_le 253 i (fun _ => ?_) (fun z => absurd z (by omega)))
    exact K h F (fun j hj => A j (by omega))
  | succ k ih =>
    intro i h hi F A
    refine u_X12_save_7 (pk_le 253 i (fun z => absurd z (by omega)) (fun _ => ⟨rv (by omega), rv (by omega), ?_⟩))
    rw [cl (by omega), nI_add]
    refine ih (i + 1) _ (by omega) (F.and _ rfl) (fun j hj => ?_)
    by_cases c : j = i
    · subst c; rw [gi_same, F.1 132 j rfl]
    · rw [gi_ok c]; exact A j (by omega)
theorem l_save34 {h0 : PH} (K : ∀ h', Lc1 138 h0 h' → (∀ j, j < 25 → gl h' 138 j = gl h0 137 j) → kk (gi h0 132 11) (si h' 130 22 (nI 1))) : ∀ k i h, i + k = 25 → Lc1 138 h0 h → (∀ j, j < i → gl h 138 j = gl h0 137 j) → At m_X12_save (rI q kk) 34 0 [some (.ref 130), some (.int (nI i))] [] h := by
  intro k
  induction k with
  | zero =>
    intro i h hi F A
    refine u_X12_save_34 (pk_le 25 i (fun _ => ⟨isB_1, rv (by omega), ?_⟩) (fun z => absurd z (by omega)))
    have e : gi (si h 130 22 (nI 1)) 132 (nI 11).toNatClampNeg = gi h0 132 11 := by
      rw [cl (by omega), gi_ob (by omega)]
      show h.1 132 11 = _
      rw [F.1]; rfl
    rw [e]
    exact K h F (fun j hj => A j (by omega))
  | succ k ih =>
    intro i h hi F A
    refine u_X12_save_34 (pk_le 25 i (fun z => absurd z (by omega)) (fun _ => ⟨vp_in_nI (by omega) (by omega), vp_in_nI (by omega) (by omega), ?_⟩))
    rw [cl (by omega), nI_add]
    refine ih (i + 1) _ (by omega) (F.and _) (fun j hj => ?_)
    by_cases c : j = i
    · subst c
      rw [gl_same]
      show h.2.1 137 j = _
      rw [F.2.1 137 (by omega)]; rfl
    · rw [gl_ok c]; exact A j (by omega)
def SvC (h h' : PH) : Prop := (∀ c, c ≠ 0 → (c < 45 ∨ 59 < c) → (c < 81 ∨ 87 < c) → h'.1 c = h.1 c) ∧ (∀ k, k ≠ 5 → h'.1 0 k = h.1 0 k) ∧ gi h' 0 5 = nI 1 ∧ (∀ c, (c < 45 ∨ 59 < c) → h'.2.1 c = h.2.1 c) ∧ h'.2.2 = h.2.2 ∧ LyC 45 15 h h' ∧ StC 81 60 h.1 h'.1
theorem c_save (I : Inv z C E h) (K : ∀ h2, SvC h h2 → kk (h.1 132 11) h2) : MetPM m_X11_save [.ref 0] h (rI q kk) := by
  refine t_X11_save (t_X8_replaceBy_2 (c_copyLy (Or.inr (Or.inl ⟨rfl, rfl⟩)) (fun h1 o1 e1 y1 => c_copySt (Or.inr (Or.inr (Or.inl ⟨rfl, rfl⟩))) ?_ (fun h2 f2 c2 => ⟨isB_1, ?_⟩))))
  · rw [(o1 60 (by omega)).1]; exact I.ic.2.2.ib
  · have o2 : ∀ c, (c < 81 ∨ 87 < c) → h2.1 c = h1.1 c := fun c hc => f2.cell fun k => WS_f (by omega)
    have e60 : gi (si h2 0 5 (nI 1)) 60 1 = h.1 132 11 := by
      rw [gi_ob (by omega)]
      show h2.1 60 1 = _
      rw [o2 60 (by omega), (o1 60 (by omega)).1]; exact I.ic.2.2.ck
    rw [e60]
    have sb : ∀ c, c ≠ 0 → (si h2 0 5 (nI 1)).1 c = h2.1 c := fun c hc => si_b hc
    obtain ⟨⟨⟨l1, l2, l3⟩, l4, l5, l6, l7⟩, l8⟩ := y1
    obtain ⟨x1, x2, x3, x4⟩ := c2
    have l8' : (∀ j, j < 8 → gl (si h2 0 5 (nI 1)) (45 + 2) j = gl h (15 + 2) j) ∧ (∀ j, j < 5 → gl (si h2 0 5 (nI 1)) (45 + 7) j = gl h (15 + 7) j) ∧ (∀ j, j < 12 → gl (si h2 0 5 (nI 1)) (45 + 12) j = gl h (15 + 12) j) := by
      have : ∀ b j, gl (si h2 0 5 (nI 1)) b j = gl h1 b j := fun b j => by
        show h2.2.1 b j = h1.2.1 b j
        rw [f2.2]
      simp only [this]
      exact l8
    refine K _ ⟨fun c hc h1' h2' => by rw [sb c hc, o2 c h2', (o1 c (by omega)).1], fun k hk => ?_, gi_same, fun c hc => ?_, ?_, ⟨⟨⟨?_, ?_, ?_⟩, fun k k1 k2 => ?_, fun i hi j hj => ?_, fun i hi j hj => ?_, fun i hi j hj => ?_⟩, l8'⟩, ⟨fun k hk => ?_, fun i i1 i2 j hj => ?_, ⟨?_, ?_⟩, fun j hj => ?_⟩⟩
    · rw [si_a, ups_n hk, o2 0 (by omega), (o1 0 (by omega)).1]
    · show h2.2.1 c = _
      rw [f2.2, (o1 c (by omega)).2]
    · show h2.2.2 = _
      rw [f2.2]; exact e1
    · rw [sb _ (by omega), o2 _ (by omega)]; exact l1
    · rw [sb _ (by omega), o2 _ (by omega)]; exact l2
    · rw [sb _ (by omega), o2 _ (by omega)]; exact l3
    · rw [sb _ (by omega), o2 _ (by omega)]; exact l4 k k1 k2
    · rw [sb _ (by omega), o2 _ (by omega)]; exact l5 i hi j hj
    · rw [sb _ (by omega), o2 _ (by omega)]; exact l6 i hi j hj
    · rw [sb _ (by omega), o2 _ (by omega)]; exact l7 i hi j hj
    · rw [sb _ (by omega), x1 k hk, (o1 60 (by omega)).1]
    · rw [sb _ (by omega), x2 i i1 i2 j hj, (o1 (60 + i) (by omega)).1]
    · rw [sb _ (by omega), x3.1, (o1 (60 + 5) (by omega)).1]
    · rw [sb _ (by omega), x3.2, (o1 (60 + 5) (by omega)).1]
    · rw [sb _ (by omega), x4 j hj, (o1 (60 + 6) (by omega)).1]
/-- what isn't touched by what is saved -/
theorem Inv.keep {W : Nat → Nat → Prop} {V : Nat → Prop} (x : Fz W V h h') (w1 : ∀ b k, W b k → (45 ≤ b ∧ b ≤ 59) ∨ (81 ≤ b ∧ b ≤ 87) ∨ (b = 0 ∧ k = 5) ∨ b = 133 ∨ (b = 130 ∧ (k = 0 ∨ k = 22))) (w2 : ∀ b, V b → (45 ≤ b ∧ b ≤ 59) ∨ b = 138) (I : Inv z C E h) (S : IS C E h') : Inv z C E h' := by
  have nw : ∀ b k, ¬ ((45 ≤ b ∧ b ≤ 59) ∨ (81 ≤ b ∧ b ≤ 87) ∨ (b = 0 ∧ k = 5) ∨ b = 133 ∨ (b = 130 ∧ (k = 0 ∨ k = 22))) → ¬ W b k := fun b k y z => y (w1 b k z)
  have nv : ∀ b, ¬ ((45 ≤ b ∧ b ≤ 59) ∨ b = 138) → ¬ V b := fun b y z => y (w2 b z)
  have e132 : h'.1 132 = h.1 132 := x.cell fun k => nw _ _ (by omega)
  refine ⟨⟨?_, ?_⟩, I.it.fz x (fun k _ _ => nw _ _ (by omega)) (fun k => nw _ _ (by omega)) (fun k => nw _ _ (by omega)) (fun k _ => nw _ _ (by omega)), ?_, S, I.ih.fz x (fun k => nw _ _ (by omega)) (nw _ _ (by omega)) (fun k => nw _ _ (by omega)) (fun b k _ => nw _ _ (by omega)), I.ip.fz x (nw _ _ (by omega)) (nw _ _ (by omega)) (nw _ _ (by omega)) (fun k => nw _ _ (by omega)) (fun k => nw _ _ (by omega)), I.iz.fz x (fun k => nw _ _ (by omega)) (fun k => nw _ _ (by omega)) (nw _ _ (by omega))⟩
  · rw [e132]; exact I.ic.1
  · rw [e132]; exact I.ic.2.heap fun b hb => x.cell fun k => nw _ _ (by omega)
  · exact NmR.fz x (nv _ (by omega)) (nv _ (by omega)) (nv _ (by omega)) (nv _ (by omega)) (by rw [e132]) (by rw [e132]) (by rw [e132]) I.inn
theorem s_save {h0 : PH} (I : Inv z C E h0) (U : SvC h0 h) (K : ∀ h', Inv z C E h' → gi h' 130 0 = nI 0 → kk (h0.1 132 11) h') : MetPM m_X12_save [.ref 130] h (rI q kk) := by
  obtain ⟨u1, u2, u3, u4, u5, u6, u7⟩ := U
  refine t_X12_save (l_save7 (h0 := si h 130 0 (nI 0)) (fun h1 f1 a1 => l_save34 (h0 := h1) (fun h2 f2 a2 => ?_) _ 0 h1 (Nat.zero_add _) (Lc1.refl _ _) (fun j hj => absurd hj (Nat.not_lt_zero j))) _ 0 _ (Nat.zero_add _) (Fr.refl _ _) (fun j hj => absurd hj (Nat.not_lt_zero j)))
  have c1 : ∀ c, c ≠ 133 → c ≠ 130 → h1.1 c = h.1 c := fun c x1 x2 => by
    rw [f1.cell (b := c) (fun k => nbq x1), si_b x2]
  have c2 : ∀ c, c ≠ 133 → c ≠ 130 → (si h2 130 22 (nI 1)).1 c = h.1 c := fun c x1 x2 => by rw [si_b x2, f2.1, c1 c x1 x2]
  have c130 : ∀ k, k ≠ 22 → k ≠ 0 → (si h2 130 22 (nI 1)).1 130 k = h.1 130 k := fun k x1 x2 => by
    rw [si_a, ups_n x1, f2.1, f1.cell (b := 130) (fun k => rfl), si_a, ups_n x2]
  have l2 : ∀ c, c ≠ 138 → (si h2 130 22 (nI 1)).2.1 c = h.2.1 c := fun c x1 => by
    show h2.2.1 c = _
    rw [f2.2.1 c x1, f1.2]; rfl
  have r2 : (si h2 130 22 (nI 1)).2.2 = h.2.2 := by
    show h2.2.2 = _
    rw [f2.2.2, f1.2]; rfl
  have e11 : gi h1 132 11 = h0.1 132 11 := by
    show h1.1 132 11 = _
    rw [c1 132 (by omega) (by omega), u1 132 (by omega) (by omega) (by omega)]
  rw [e11]
  have e133 : eqR (h0.1 132) ((si h2 130 22 (nI 1)).1 133) := fun j hj => by
    rw [si_b (by omega), f2.1]
    show gi h1 133 j = _
    rw [a1 j hj]
    show (si h 130 0 (nI 0)).1 132 j = _
    rw [si_b (by omega), u1 132 (by omega) (by omega) (by omega)]
  have R := I.ic.1
  have Y45 : LyR 45 (h0.1 132) h.1 := I.ic.2.1.cp R.1 u6
  have S81 : StR 81 (h0.1 132) h.1 := I.ic.2.2.cp R.m.2 u7
  have gl9 : ∀ b j, (45 ≤ b ∧ b ≤ 59) → gl (si h2 130 22 (nI 1)) b j = gl h b j := fun b j hb => by
    show (si h2 130 22 (nI 1)).2.1 b j = _
    rw [l2 b (by omega)]; rfl
  have N : NmR 45 138 ((si h2 130 22 (nI 1)).1 133) (si h2 130 22 (nI 1)) := by
    refine NmR.cp (h := h0) (b0 := 15) (n := 137) R.1 e133.ag ⟨fun j hj => ?_, fun j hj => ?_, fun j hj => ?_⟩ (fun j hj => ?_) I.inn
    · rw [gl9 _ _ (by omega)]; exact u6.2.1 j hj
    · rw [gl9 _ _ (by omega)]; exact u6.2.2.1 j hj
    · rw [gl9 _ _ (by omega)]; exact u6.2.2.2 j hj
    · show gl h2 138 j = _
      rw [a2 j hj]
      show h1.2.1 137 j = h0.2.1 137 j
      rw [f1.2]
      show h.2.1 137 j = _
      rw [u4 137 (by omega)]
  refine K _ (Inv.keep (h := h0) (W := fun b k => (45 ≤ b ∧ b ≤ 59) ∨ (81 ≤ b ∧ b ≤ 87) ∨ (b = 0 ∧ k = 5) ∨ b = 133 ∨ (b = 130 ∧ (k = 0 ∨ k = 22))) (V := fun b => (45 ≤ b ∧ b ≤ 59) ∨ b = 138) ⟨fun b k e => ?_, fun b e => ?_, fun b _ => ?_⟩ (fun _ _ y => y) (fun _ y => y) I ⟨?_, ?_, fun _ => ⟨R.eqR e133, (Y45.heap fun b x1 x2 => c2 b (by omega) (by omega)).congr e133.ag R.1, (S81.heap fun b x1 x2 => c2 b (by omega) (by omega)).eqR R.m.2 e133, N⟩⟩) ?_
  · by_cases c : b = 130
    · subst c
      show (si h2 130 22 (nI 1)).1 130 k = h0.1 130 k
      rw [c130 k (by omega) (by omega), u1 130 (by omega) (by omega) (by omega)]
    · by_cases d : b = 0
      · subst d
        show (si h2 130 22 (nI 1)).1 0 k = h0.1 0 k
        rw [c2 0 (by omega) (by omega), u2 k (by omega)]
      · show (si h2 130 22 (nI 1)).1 b k = h0.1 b k
        rw [c2 b (by omega) c, u1 b d (by omega) (by omega)]
  · rw [l2 b (by omega), u4 b (by omega)]
  · rw [r2, u5]
  · rw [gi_same]; exact isB_1
  · rw [gi_same]
    show (si h2 130 22 (nI 1)).1 0 5 = _
    rw [c2 0 (by omega) (by omega)]; exact u3
  · rw [gi_ok (by omega)]
    show h2.1 130 0 = _
    rw [f2.1, f1.cell (b := 130) (fun k => rfl), si_a, ups_s]
end
