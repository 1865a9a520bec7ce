/-! ===== the public changes: both sides ===== -/
section
variable {q : Nat → PH → Prop} {kk : Int32 → PH → Prop} {kv : PH → Prop} {h h' : PH} {s t s' : RW} {C E D F : Nat} {a u w : Nat} {f g z : FI}
theorem nbq {a b : Nat} (h : a ≠ b) : Nat.beq a b = false := by
  cases e : Nat.beq a b
  · rfl
  · exact absurd (Nat.eq_of_beq_eq_true e) h
theorem stop_ag : agL s (stopS s) := (agL_up (by omega)).trans ((agL_up (by omega)).trans agL_ev)
theorem done_ag : agL s (doneS s) := (agL_up (by omega)).trans agL_ev
theorem soak_ag : agL s (soakS s) := (agL_up (by omega)).trans ((agL_up (by omega)).trans agL_ev)
theorem nextU_ag : agL s (nextU s) := (agL_up (by omega)).trans (agL_up (by omega))
theorem next_ag : agL s (nextS s) := by
  unfold nextS
  split
  · exact nextU_ag
  · split
    · exact (nextU_ag.trans (agL_up (by omega))).trans done_ag
    · exact (nextU_ag.trans (agL_up (by omega))).trans (agL_up (by omega))
theorem rolS_ag : agL s (rolS s) := by
  unfold rolS
  split
  · exact (rolA_agL _).trans soak_ag
  · exact rolA_agL _
theorem min_ag : agL s (minS s) := by
  have h1 : agL s (min1 s) := (agL_up (by omega)).trans (endA_agL _)
  have h2 : agL s (min2 s) := by
    unfold min2
    split
    · exact h1.trans stop_ag
    · exact h1
  have h3 : agL s (min3 s) := by
    unfold min3
    split
    · exact h2.trans next_ag
    · exact h2
  unfold minS
  split
  · exact h3.trans rolS_ag
  · exact h3
theorem it_ag : ∀ n, agL s (itS n s)
  | 0 => agL.refl s
  | n + 1 => (it_ag n).trans min_ag
theorem staU_ag {x : Int32} : agL s (staU s x) := agL_ev.trans ((agL_up (by omega)).trans (agL_up (by omega)))
theorem sta_ag {j : Nat} : agL s (staS s j) := by
  unfold staS
  split
  · exact staU_ag.trans done_ag
  · exact ((staU_ag.trans (agL_up (by omega))).trans (agL_up (by omega))).trans (agL_up (by omega))
theorem hld_ag {m : Nat} {b : Bool} : agL s (hldS s m b) := (agL_ly (by omega) (by omega)).trans agL_ev
theorem fmt_ag {x : Int32} : agL s (fmtS s x) := (agL_up (by omega)).trans agL_ev
theorem gon_ag : agL s (gonS s) := (agL_up (by omega)).trans agL_ev
/-! ahead of the reference's half: the class has made its change -/
abbrev IHb (C E u w : Nat) (h : PH) : Prop := u ≤ 6 ∧ w < 6 ∧ gi h 13 1 = nI u ∧ gi h 13 2 = nI w ∧ gi h 130 21 = nI u ∧ (∀ j, j < 6 → gr h 14 j = some (88 + 7 * j)) ∧
  ∀ i, i < u → Rk C E (pst h i) ∧ LyR 15 (pst h i) h.1 ∧ StR (88 + 7 * hix u w i) (pst h i) h.1
def MidA (C E D F : Nat) (s s' : RW) (h : PH) : Prop := h.1 132 = s ∧ Rk C E s ∧ Rk D F s' ∧ agL s s' ∧ CR 60 s' h ∧ C ≤ D ∧ E ≤ F
def MidB (z : FI) (C E : Nat) (h : PH) : Prop := IT h ∧ IN h ∧ IS C E h ∧ IP h ∧ IZ z h
def MidC (C E : Nat) (s : RW) (u w : Nat) (h : PH) : Prop := u ≤ 6 ∧ w < 6 ∧ gi h 13 1 = nI (kpu u) ∧ gi h 13 2 = nI ((w + 1) % 6) ∧ gi h 130 21 = nI u ∧ (∀ j, j < 6 → gr h 14 j = some (88 + 7 * j)) ∧
  (LyR 15 s h.1 ∧ StR (88 + 7 * ((w + 1) % 6)) s h.1) ∧ ∀ i, i < u → Rk C E (pst h i) ∧ LyR 15 (pst h i) h.1 ∧ (hix u w i ≠ (w + 1) % 6 → StR (88 + 7 * hix u w i) (pst h i) h.1)
def Mid (z : FI) (C E D F : Nat) (s s' : RW) (u w : Nat) (h : PH) : Prop := MidA C E D F s s' h ∧ MidB z C E h ∧ MidC C E s u w h
theorem pst_eq (e : h'.1 134 = h.1 134) (i : Nat) : pst h' i = pst h i := by
  funext k
  show h'.1 134 _ = h.1 134 _
  rw [e]
theorem MidB.fz {W : Nat → Nat → Prop} (x : Fz W VZ h h') (m : ∀ b k, W b k → WX b k) (e0 : ∀ i, i < 3 → h'.1 132 i = h.1 132 i) (M : MidB z C E h) : MidB z C E h' := by
  have nv : ∀ b, ¬ (b = 1 ∨ b = 130 ∨ b = 139 ∨ b = 32 ∨ b = 37 ∨ b = 42 ∨ b = 147) → ¬ VZ b := fun b z => z
  have nw : ∀ b k, ¬ WX b k → ¬ W b k := fun b k z y => z (m b k y)
  obtain ⟨m1, m2, m3, m4, m5⟩ := M
  refine ⟨m1.fz x (fun k _ _ => nw _ _ ?_) (fun k => nw _ _ ?_) (fun k => nw _ _ ?_) (fun k _ => nw _ _ ?_), NmR.fz x (nv _ (by omega)) (nv _ (by omega)) (nv _ (by omega)) (nv _ (by omega)) (e0 0 (by omega)) (e0 1 (by omega)) (e0 2 (by omega)) m2,
    m3.fz x (nw _ _ ?_) (nw _ _ ?_) (fun k => nw _ _ ?_) (fun b k _ => nw _ _ ?_) (nv _ (by omega)) (nv _ (by omega)) (nv _ (by omega)) (nv _ (by omega)), m4.fz x (nw _ _ ?_) (nw _ _ ?_) (nw _ _ ?_) (fun k => nw _ _ ?_) (fun k => nw _ _ ?_), m5.fz x (fun k => nw _ _ ?_) (fun k => nw _ _ ?_) (nw _ _ ?_)⟩
  all_goals (unfold WX WZ; omega)
theorem Mid.fz (x : Fz WZ VZ h h') (M : Mid z C E D F s s' u w h) : Mid z C E D F s s' u w h' := by
  obtain ⟨⟨a1, a2, a3, a4, a5, a6⟩, b, ⟨c1, c2, c3, c4, c5, c6, ⟨c7, c8⟩, c9⟩⟩ := M
  have e132 : h'.1 132 = h.1 132 := x.cell fun k => by unfold WZ; omega
  have e134 : h'.1 134 = h.1 134 := x.cell fun k => by unfold WZ; omega
  have ec : ∀ b, (15 ≤ b ∧ b ≤ 29) ∨ (60 ≤ b ∧ b ≤ 66) ∨ (88 ≤ b ∧ b ≤ 129) → h'.1 b = h.1 b := fun b hb => x.cell fun k => by unfold WZ; omega
  have ew : (w + 1) % 6 < 6 := Nat.mod_lt _ (by omega)
  refine ⟨⟨e132.trans a1, a2, a3, a4, a5.heap fun b hb => ec b (by omega), a6⟩, b.fz x (fun b k y => Or.inl y) (fun i _ => by rw [e132]), ⟨c1, c2, ?_, ?_, ?_, fun j hj => ?_, ⟨c7.heap fun b h1 h2 => ec b (by omega), c8.heap fun b h1 h2 => ec b (by omega)⟩, fun i hi => ?_⟩⟩
  · rw [x.1 13 1 (by unfold WZ; omega)]; exact c3
  · rw [x.1 13 2 (by unfold WZ; omega)]; exact c4
  · rw [x.1 130 21 (by unfold WZ; omega)]; exact c5
  · show h'.2.2.1 14 j = _
    rw [x.2.2 14 (by omega)]; exact c6 j hj
  · rw [pst_eq e134]
    obtain ⟨d1, d2, d3⟩ := c9 i hi
    have := hix_lt (u := u) (w := w) (i := i)
    exact ⟨d1, d2.heap fun b h1 h2 => ec b (by omega), fun y => (d3 y).heap fun b h1 h2 => ec b (by omega)⟩
theorem Mid.of {h1 h2 : PH} (I : Inv z C E h) (B : IHb C E u w h) (k : KpC u w h h1) (f : Fr (WS 60) h1 h2) (X : CR 60 s' h2) (R : Rk D F s') (hC : C ≤ D) (hE : E ≤ F) (ag : agL (h.1 132) s') : Mid z C E D F (h.1 132) s' u w h2 := by
  obtain ⟨b1, b2, b3, b4, b5, b6, b7⟩ := B
  obtain ⟨k1, k2, k3, k4, k5⟩ := k
  have ew : (w + 1) % 6 < 6 := Nat.mod_lt _ (by omega)
  have fz1 : Fz WX VZ h h1 := Fz.fr k1 (fun b k e => by
    cases c : (decide (b = 13 ∨ (88 ≤ b ∧ b ≤ 129)))
    · exfalso
      have c' := of_decide_eq_false c
      rw [WHi_f (by omega) (by omega)] at e
      cases e
    · have c' := of_decide_eq_true c
      unfold WX; omega)
  have fz2 : Fz WX VZ h1 h2 := Fz.fr f (fun b k e => by
    unfold WX
    have : ¬ (b < 60 ∨ 60 + 6 < b) := fun y => by
      rw [WS_f y] at e
      cases e
    omega)
  have fz := fz1.trans fz2
  have o2 : ∀ b, b < 60 ∨ 66 < b → h2.1 b = h1.1 b := fun b hb => f.cell fun k => WS_f (by omega)
  have oc : ∀ b, b ≠ 13 → (b < 60 ∨ 66 < b) → (b < 88 + 7 * ((w + 1) % 6) ∨ 88 + 7 * ((w + 1) % 6) + 6 < b) → h2.1 b = h.1 b := fun b x1 x2 x3 => (o2 b x2).trans (k5 b x1 x3)
  have e132 : h2.1 132 = h.1 132 := oc 132 (by omega) (by omega) (by omega)
  have e134 : h2.1 134 = h.1 134 := oc 134 (by omega) (by omega) (by omega)
  have e130 : h2.1 130 = h.1 130 := oc 130 (by omega) (by omega) (by omega)
  have e13 : h2.1 13 = h1.1 13 := o2 13 (by omega)
  refine ⟨⟨e132, I.ic.1, R, ag, X, hC, hE⟩, MidB.fz fz (fun _ _ y => y) (fun i _ => by rw [e132]) ⟨I.it, I.inn, I.is, I.ip, I.iz⟩, ⟨b1, b2, ?_, ?_, ?_, fun j hj => ?_, ⟨I.ic.2.1.heap fun b x1 x2 => oc b (by omega) (by omega) (by omega), ?_⟩, fun i hi => ?_⟩⟩
  · show h2.1 13 1 = _
    rw [e13]; exact k2
  · show h2.1 13 2 = _
    rw [e13]; exact k3
  · show h2.1 130 21 = _
    rw [e130]; exact b5
  · show h2.2.2.1 14 j = _
    rw [fz.2.2 14 (by omega)]; exact b6 j hj
  · exact (I.ic.2.2.cp I.ic.1.m.2 k4).heap fun b x1 x2 => o2 b (by omega)
  · rw [pst_eq e134]
    obtain ⟨d1, d2, d3⟩ := b7 i hi
    have := hix_lt (u := u) (w := w) (i := i)
    exact ⟨d1, d2.heap fun b x1 x2 => oc b (by omega) (by omega) (by omega), fun y => d3.heap fun b x1 x2 => oc b (by omega) (by omega) (by omega)⟩
theorem Mid.run {h1 h2 h3 : PH} (M : Mid z C E D F s s' u w h) (f1 : Fr W135 (si h 130 0 (nI 0)) h1) (a1 : ∀ j, j < 253 → gi h1 135 j = gi (si h 130 0 (nI 0)) 132 j) (f2 : Fr WM h1 h2) (r2 : h2.1 132 = s') (k3 : KpM u h2 h3) : Inv z D F h3 ∧ gi h3 130 0 = nI 0 ∧ h3.2.1 147 = h.2.1 147 := by
  obtain ⟨⟨a1', a2, a3, a4, a5, a6, a7⟩, b, ⟨c1, c2, c3, c4, c5, c6, ⟨c7, c8⟩, c9⟩⟩ := M
  obtain ⟨k1, k2, kp1, kp2⟩ := k3
  have g0 : Fz WX VZ h (si h 130 0 (nI 0)) := Fz.si h _ (by unfold WX WZ; omega)
  have g1 : Fz WX VZ (si h 130 0 (nI 0)) h1 := Fz.fr f1 (fun b k e => by
    have := Nat.eq_of_beq_eq_true e
    unfold WX WZ; omega)
  have g2 : Fz WX VZ h1 h2 := Fz.fr f2 (fun b k e => by
    unfold WM at e
    simp only [Bool.or_eq_true, Bool.and_eq_true] at e
    rcases e with ⟨e, -⟩ | ⟨e, e2⟩
    · have := Nat.eq_of_beq_eq_true e
      unfold WX WZ; omega
    · have := Nat.eq_of_beq_eq_true e
      rcases e2 with e2 | e2 | e2
      all_goals
        have := Nat.eq_of_beq_eq_true e2
        unfold WX WZ; omega)
  have g3 : Fz WX VZ h2 h3 := Fz.fr k1 (fun b k e => by
    unfold W134 at e
    simp only [Bool.or_eq_true, Bool.and_eq_true] at e
    rcases e with e | ⟨e, e2⟩
    · have := Nat.eq_of_beq_eq_true e
      unfold WX WZ; omega
    · have := Nat.eq_of_beq_eq_true e
      have := Nat.eq_of_beq_eq_true e2
      unfold WX WZ; omega)
  have fz := ((g0.trans g1).trans g2).trans g3
  have cell : ∀ b, b ≠ 130 → b ≠ 132 → b ≠ 134 → b ≠ 135 → h3.1 b = h.1 b := fun b x1 x2 x3 x4 => by
    rw [k1.cell (b := b) (fun k => by
      unfold W134
      rw [show Nat.beq b 134 = false from nbq x3, show Nat.beq b 130 = false from nbq x1]; rfl), f2.cell (b := b) (fun k => by
      unfold WM
      rw [show Nat.beq b 132 = false from nbq x2, show Nat.beq b 130 = false from nbq x1]; rfl), f1.cell (b := b) (fun k => nbq x4), si_b x1]
  have e132 : h3.1 132 = s' := (k1.cell fun k => rfl).trans r2
  have e134 : h2.1 134 = h.1 134 := by
    rw [f2.cell (b := 134) (fun k => rfl), f1.cell (b := 134) (fun k => rfl), si_b (by omega)]
  have e135 : ∀ j, j < 253 → h2.1 135 j = s j := fun j hj => by
    rw [f2.cell (b := 135) (fun k => rfl)]
    show gi h1 135 j = _
    rw [a1 j hj]
    show (si h 130 0 (nI 0)).1 132 j = _
    rw [si_b (by omega), a1']
  have ew : (w + 1) % 6 < 6 := Nat.mod_lt _ (by omega)
  have hk : kpu u ≤ 6 ∧ 1 ≤ kpu u := by unfold kpu; split <;> omega
  have p2 : eqR s (pst h3 (kpu u - 1)) := fun j hj => (kp2 j hj).trans (e135 j hj)
  have B := b.fz fz (fun _ _ y => y) (fun i hi => by rw [e132, a1']; exact a4 i (by omega))
  refine ⟨⟨⟨by rw [e132]; exact a3, by rw [e132]; exact a5.heap fun b hb => cell b (by omega) (by omega) (by omega) (by omega)⟩, B.1, B.2.1, ⟨B.2.2.1.1, B.2.2.1.2.1, fun y => ?_⟩, ⟨kpu u, (w + 1) % 6, hk.1, ew, ?_, ?_, k2, fun j hj => ?_, fun i hi => ?_⟩, B.2.2.2.1, B.2.2.2.2⟩, ?_, ?_⟩
  · have := B.2.2.1.2.2 y
    exact ⟨this.1.mono a6 a7, this.2⟩
  · show h3.1 13 1 = _
    rw [cell 13 (by omega) (by omega) (by omega) (by omega)]; exact c3
  · show h3.1 13 2 = _
    rw [cell 13 (by omega) (by omega) (by omega) (by omega)]; exact c4
  · show h3.2.2.1 14 j = _
    rw [fz.2.2 14 (by omega)]; exact c6 j hj
  · by_cases c : i + 1 < kpu u
    · have hj : i + kpd u < u := by
        unfold kpu at c
        unfold kpd
        split at c
        · rename_i y; rw [if_pos y]; omega
        · rename_i y; rw [if_neg y]; omega
      obtain ⟨b1, b2, b3⟩ := c9 _ hj
      have ep : eqR (pst h (i + kpd u)) (pst h3 i) := by
        have := kp1 i c
        rw [pst_eq e134] at this; exact this
      have eh : hix (kpu u) ((w + 1) % 6) i = hix u w (i + kpd u) := by
        unfold hix kpu kpd
        split <;> omega
      have nh : hix u w (i + kpd u) ≠ (w + 1) % 6 := by
        unfold hix kpd
        unfold kpu at c
        split
        · rename_i y; rw [if_pos y] at c; omega
        · rename_i y; rw [if_neg y] at c; omega
      have := hix_lt (u := u) (w := w) (i := i + kpd u)
      have hm := b1.m.2
      rw [eh]
      exact ⟨(b1.eqR ep).mono a6 a7, (b2.heap fun b h1 h2 => cell b (by omega) (by omega) (by omega) (by omega)).congr ep.ag b1.1, ((b3 nh).heap fun b h1 h2 => cell b (by omega) (by omega) (by omega) (by omega)).eqR hm ep⟩
    · have ei : i = kpu u - 1 := by omega
      subst ei
      have eh : hix (kpu u) ((w + 1) % 6) (kpu u - 1) = (w + 1) % 6 := by unfold hix; omega
      rw [eh]
      exact ⟨(a2.eqR p2).mono a6 a7, (c7.heap fun b h1 h2 => cell b (by omega) (by omega) (by omega) (by omega)).congr p2.ag a2.1, (c8.heap fun b h1 h2 => cell b (by omega) (by omega) (by omega) (by omega)).eqR a2.m.2 p2⟩
  · rw [k1.1 130 0 rfl, f2.1 130 0 rfl, f1.1 130 0 rfl, gi_same]
  · have e : h3.2 = h.2 := k1.2.trans (f2.2.trans f1.2)
    rw [e]
end

