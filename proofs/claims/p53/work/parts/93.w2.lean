/-! ===== the law's World: its questions ===== -/
section
variable {h h' : PH} {w k q9 a b v : Nat} {W : WN} {s : RW} {C E : Nat} {Q : Res → PH → Prop} {x : Int32}
theorem WO.f0 (X : WO h w W s) (f : FmQ [] h h') (m : Md h h') : WO h' w W s := by
  have nz : ∀ {n g : Nat}, qkd h n = g → g ≠ 0 → ¬ qkd h n = 0 := fun e1 e2 => by rw [e1]; exact e2
  have I : ∀ {n j : Nat}, ¬ qkd h n = 0 → gi h' n j = gi h n j := fun hz => f.i hz (by simp)
  have Rr : ∀ {n j : Nat}, ¬ qkd h n = 0 → gr h' n j = gr h n j := fun hz => f.r hz (by simp)
  have hw := nz X.kw (by decide)
  obtain ⟨⟨i1, i2⟩, ⟨j0, j1, j2, j3, j4, j5, j6, j8, j15, j16, j17⟩, ip, iw, ie⟩ := X.i
  obtain ⟨r1, r2, r3, r4, r5, r6, r7⟩ := X.r
  obtain ⟨⟨a1, a2, a3⟩, ⟨b1, b2, b3⟩, ⟨c1, c2, c3⟩, ⟨d1, d2, d3⟩, ⟨e1, e2, e3⟩⟩ := X.a
  obtain ⟨m1, m2, m3, m4⟩ := X.m
  obtain ⟨n1, n2⟩ := X.e
  refine ⟨⟨⟨by rw [f.kd hw]; exact i1, i2⟩, ⟨by rw [I hw]; exact j0, by rw [I hw]; exact j1, by rw [I hw]; exact j2, by rw [I hw]; exact j3, by rw [I hw]; exact j4, by rw [I hw]; exact j5, by rw [I hw]; exact j6, by rw [I hw]; exact j8, by rw [I hw]; exact j15, by rw [I hw]; exact j16, by rw [I hw]; exact j17⟩, fun z => ?_, fun z => by rw [I hw]; exact iw z, fun z => by rw [I hw]; exact ie z⟩, ⟨by rw [Rr hw]; exact r1, by rw [Rr hw]; exact r2, by rw [Rr hw]; exact r3, by rw [Rr hw]; exact r4, by rw [Rr hw]; exact r5, by rw [Rr hw]; exact r6, by rw [Rr hw]; exact r7⟩, ⟨⟨?_, ?_, fun y hy => ?_⟩, ⟨?_, ?_, fun y hy => ?_⟩, ⟨?_, ?_, fun y hy => ?_⟩, ⟨?_, ?_, fun y hy => ?_⟩, ⟨?_, ?_, fun y hy => ?_⟩⟩, ⟨m1.fm (by decide) f m (by simp) (by simp), m2, m3, fun y hy => ⟨(m4 y hy).1, fun j hj => ?_⟩⟩, ⟨n1.fm (by decide) f m (by simp) (by simp), n2⟩⟩
  · obtain ⟨z1, z2, z3, z4⟩ := ip z
    exact ⟨by rw [I hw]; exact z1, by rw [I hw]; exact z2, by rw [I hw]; exact z3, by rw [I hw]; exact z4⟩
  · rw [f.kd (nz a1 (by decide))]; exact a1
  · rw [f.ln (nz a1 (by decide))]; exact a2
  · rw [I (nz a1 (by decide))]; exact a3 y hy
  · rw [f.kd (nz b1 (by decide))]; exact b1
  · rw [f.ln (nz b1 (by decide))]; exact b2
  · rw [I (nz b1 (by decide))]; exact b3 y hy
  · rw [f.kd (nz c1 (by decide))]; exact c1
  · rw [f.ln (nz c1 (by decide))]; exact c2
  · rw [I (nz c1 (by decide))]; exact c3 y hy
  · rw [f.kd (nz d1 (by decide))]; exact d1
  · rw [f.ln (nz d1 (by decide))]; exact d2
  · obtain ⟨z1, z2, z3, z4⟩ := d3 y hy
    exact ⟨by rw [Rr (nz d1 (by decide))]; exact z1, by rw [f.kd (nz z2 (by decide))]; exact z2, by rw [f.ln (nz z2 (by decide))]; exact z3, fun b hb ha => by rw [I (nz z2 (by decide))]; exact z4 b hb ha⟩
  · rw [f.kd (nz e1 (by decide))]; exact e1
  · rw [f.ln (nz e1 (by decide))]; exact e2
  · obtain ⟨z1, z2, z3, z4⟩ := e3 y hy
    exact ⟨by rw [Rr (nz e1 (by decide))]; exact z1, by rw [f.kd (nz z2 (by decide))]; exact z2, by rw [f.ln (nz z2 (by decide))]; exact z3, fun b hb ha => by rw [I (nz z2 (by decide))]; exact z4 b hb ha⟩
  · rw [I (nz (X.km hy) (by decide))]; exact (m4 y hy).2 j hj
theorem c_wReads (X : WO h w W s) (hv : v < nn (s 0)) (h8 : nn (s 0) ≤ 8) (K : Q (.inl (some (.int (b2i (rds s v x))))) h) : MetQ mq_X13_reads [.ref w, .int (nI v), .int x] h Q := by
  obtain ⟨⟨a1, a2, a3⟩, ⟨b1, b2, b3⟩, -⟩ := X.a
  obtain ⟨r1, r2, -⟩ := X.r
  have eV : (nI v).toNatClampNeg = v := nI_clamp (by omega)
  unfold rds at K
  refine tq_X13_reads ⟨X.kw, g3 r1 ⟨Or.inl a1, by rw [a2]; exact vp_in_nI (by omega) (by decide), ?_⟩⟩
  rw [eV, a3 v hv]
  refine ⟨fun z => ⟨Or.inl rfl, ?_⟩, fun z => ⟨X.kw, g3 r2 ⟨Or.inl b1, by rw [b2]; exact vp_in_nI (by omega) (by decide), ?_⟩⟩⟩
  · rw [decide_eq_false (Int32.not_le.mpr z)] at K; exact K
  · rw [b3 v hv]
    rw [decide_eq_true (Int32.not_lt.mp z)] at K
    refine ⟨fun z2 => ⟨Or.inl rfl, ?_⟩, fun z2 => ⟨Or.inr rfl, ?_⟩⟩
    · rw [decide_eq_false (Int32.not_le.mpr z2)] at K; exact K
    · rw [decide_eq_true (Int32.not_lt.mp z2)] at K; exact K
theorem c_wTalk (X : WO h w W s) (ha : a < nn (s 0)) (hb : b < nn (s 0)) (h8 : nn (s 0) ≤ 8) (K : Q (.inl (some (.int (b2i (tlk s a b))))) h) : MetQ mq_X13_talk_ [.ref w, .int (nI a), .int (nI b)] h Q := by
  obtain ⟨-, -, -, ⟨d1, d2, d3⟩, -⟩ := X.a
  obtain ⟨-, -, -, r4, -⟩ := X.r
  obtain ⟨z1, z2, z3, z4⟩ := d3 a (by omega)
  have eA : (nI a).toNatClampNeg = a := nI_clamp (by omega)
  have eB : (nI b).toNatClampNeg = b := nI_clamp (by omega)
  unfold tlk at K
  refine tq_X13_talk_ ⟨fun z => ⟨Or.inr rfl, ?_⟩, fun z => ⟨X.kw, g3 r4 ⟨d1, by rw [d2]; exact vp_in_nI (by omega) (by decide), g3 (b := W.tr a) (by rw [eA]; exact z1) ⟨z2, by rw [z3]; exact vp_in_nI (by omega) (by decide), ?_⟩⟩⟩⟩
  · rw [decide_eq_true ((nI_eq (a := a) (b := b) (by omega) (by omega)).mp z), Bool.true_or] at K; exact K
  · rw [decide_eq_false (fun y => z (congrArg nI y)), Bool.false_or] at K
    rw [eB, z4 b hb ha]
    cases hbt : bt (s (36 + a)) b
    · rw [hbt] at K; exact ⟨fun _ => ⟨Or.inl rfl, K⟩, fun y => absurd rfl y⟩
    · rw [hbt] at K; exact ⟨fun y => absurd y (by decide), fun _ => ⟨Or.inr rfl, K⟩⟩
theorem c_wPart (X : WO h w W s) (ha : a < W.ms.length) (hb : b < W.ms.length) (h12 : nn (s 2) ≤ 12) (K : Q (.inl (some (.int (b2i (par s a b))))) h) : MetQ mq_X13_partners [.ref w, .int (nI a), .int (nI b)] h Q := by
  obtain ⟨-, -, -, -, ⟨d1, d2, d3⟩⟩ := X.a
  obtain ⟨-, -, -, -, r5, r6, -⟩ := X.r
  have hl := X.m.2.1
  obtain ⟨z1, z2, z3, z4⟩ := d3 a (by omega)
  have eA : (nI a).toNatClampNeg = a := nI_clamp (by omega)
  have eB : (nI b).toNatClampNeg = b := nI_clamp (by omega)
  have fa : gi h (W.ms.getD a 0) 0 = mf s a 0 := X.f ha (by decide)
  have fb : gi h (W.ms.getD b 0) 0 = mf s b 0 := X.f hb (by decide)
  unfold par at K
  refine tq_X13_partners ⟨fun z => ⟨Or.inl rfl, ?_⟩, fun z => ⟨X.kw, g3 r6 ⟨X.al.rc, c_get X.al ha (fun _ => ⟨X.km ha, X.km ha, X.kw, g3 r6 ⟨X.al.rc, c_get X.al hb (fun _ => ⟨X.km hb, X.km hb, ?_⟩)⟩⟩)⟩⟩⟩
  · rw [decide_eq_true ((nI_eq (a := a) (b := b) (by omega) (by omega)).mp z)] at K; exact K
  · rw [decide_eq_false (fun y => z (congrArg nI y))] at K
    rw [fa, fb]
    refine ⟨fun z9 => ⟨Or.inr rfl, ?_⟩, fun z9 => ⟨X.kw, g3 r5 ⟨d1, by rw [d2]; exact vp_in_nI (by omega) (by decide), g3 (b := W.lr a) (by rw [eA]; exact z1) ⟨z2, by rw [z3]; exact vp_in_nI (by omega) (by decide), ?_⟩⟩⟩⟩
    · rw [decide_eq_true z9] at K; exact K
    · rw [decide_eq_false z9] at K
      rw [eB, z4 b (by omega) (by omega)]
      cases hbt : bt (mf s a 6) b
      · rw [hbt] at K; exact ⟨fun _ => ⟨Or.inl rfl, K⟩, fun y => absurd rfl y⟩
      · rw [hbt] at K; exact ⟨fun y => absurd y (by decide), fun _ => ⟨Or.inr rfl, K⟩⟩
end
