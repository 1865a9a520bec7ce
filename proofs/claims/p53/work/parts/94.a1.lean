/-! ===== the class behind the law: what holds of it between calls, whatever the ghosts ===== -/
section
variable {q : Nat → PH → Prop} {kk : Int32 → PH → Prop} {kv : PH → Prop} {h h' h2 g g2 : PH} {s t s' : RW} {C E D F u w : Nat} {z : FI} {ps : List RW}
def gset (h : PH) (a : Nat) (f : Nat → Int32) : PH := (fun c => if c = a then f else h.1 c, h.2)
theorem gset_a {a : Nat} {f : Nat → Int32} : (gset h a f).1 a = f := if_pos rfl
theorem gset_o {a c : Nat} {f : Nat → Int32} (e : c ≠ a) : (gset h a f).1 c = h.1 c := if_neg e
/-- the newest of the past -/
def PsG (ps : List RW) (g : PH) : Prop := ∃ u, u ≤ 6 ∧ gi g 130 21 = nI u ∧ ps.length ≤ u ∧ ∀ i, i < ps.length → eqR (ps.getD i (fun _ => 0)) (pst g (u - 1 - i))
def CI (C E : Nat) (s : RW) (ps : List RW) (h : PH) : Prop := ∃ (z : FI) (g : PH), Gh h g ∧ Inv z C E g ∧ g.1 132 = s ∧ PsG ps g
theorem CI.R (c : CI C E s ps h) : Rk C E s := by
  obtain ⟨z, g, -, I, e, -⟩ := c
  rw [← e]; exact I.ic.1
theorem CI.X (c : CI C E s ps h) : CR 60 s h := by
  obtain ⟨z, g, x, I, e, -⟩ := c
  rw [← e]
  exact I.ic.2.heap fun b hb => ((x b (by omega)).1).symm
theorem PsG.le (x : h'.1 134 = h.1 134) (y : gi h' 130 21 = gi h 130 21) (P : PsG ps h) : PsG ps h' := by
  obtain ⟨u, a, b, c, d⟩ := P
  exact ⟨u, a, y.trans b, c, fun i hi => by rw [pst_eq x]; exact d i hi⟩
theorem PsG.nil (P : PsG ps h) : PsG [] h := by
  obtain ⟨u, a, b, c, d⟩ := P
  exact ⟨u, a, b, Nat.zero_le _, fun i hi => absurd hi (Nat.not_lt_zero i)⟩
theorem CI.nil (c : CI C E s ps h) : CI C E s [] h := by
  obtain ⟨z, g, x, I, e, P⟩ := c
  exact ⟨z, g, x, I, e, P.nil⟩
/-- nothing ahead of 1000 is touched -/
theorem Inv.lo (x : ∀ a, a < 1000 → g2.1 a = g.1 a ∧ g2.2.1 a = g.2.1 a ∧ g2.2.2.1 a = g.2.2.1 a) (I : Inv z C E g) : Inv z C E g2 := by
  have fz : Fz (fun b _ => 1000 ≤ b) (fun b => 1000 ≤ b) g ((g2.1, g2.2.1, g.2.2.1, g2.2.2.2) : PH) := ⟨fun b k e => congrFun (x b (by omega)).1 k, fun b e => (x b (by omega)).2.1, fun _ _ => rfl⟩
  have e132 : g2.1 132 = g.1 132 := (x 132 (by omega)).1
  have i2 := I.it.fz fz (fun _ _ _ => by omega) (fun _ => by omega) (fun _ => by omega) (fun _ _ => by omega)
  have i3 : NmR 15 137 (g2.1 132) ((g2.1, g2.2.1, g.2.2.1, g2.2.2.2) : PH) := NmR.fz fz (by omega) (by omega) (by omega) (by omega) (by rw [e132]) (by rw [e132]) (by rw [e132]) I.inn
  have i4 := I.is.fz fz (by omega) (by omega) (fun _ => by omega) (fun b _ _ => by omega) (by omega) (by omega) (by omega) (by omega)
  have i5 := I.ih.fz fz (fun _ => by omega) (by omega) (fun _ => by omega) (fun b _ _ => by omega)
  have i6 := I.ip.fz fz (by omega) (by omega) (by omega) (fun _ => by omega) (fun _ => by omega)
  have i7 := I.iz.fz fz (fun _ => by omega) (fun _ => by omega) (by omega)
  refine ⟨⟨by rw [e132]; exact I.ic.1, by rw [e132]; exact I.ic.2.heap fun b hb => (x b (by omega)).1⟩, i2, i3, i4, ?_, i6, i7⟩
  obtain ⟨u, w, a1, a2, a3, a4, a5, a6, a7⟩ := i5
  refine ⟨u, w, a1, a2, a3, a4, a5, fun j hj => ?_, a7⟩
  show g2.2.2.1 14 j = _
  rw [(x 14 (by omega)).2.2]
  exact a6 j hj
def mixH (g h' : PH) : PH := (fun n => if n < 1000 then g.1 n else h'.1 n, fun n => if n < 1000 then g.2.1 n else h'.2.1 n, fun n => if n < 1000 then g.2.2.1 n else h'.2.2.1 n, fun n => if n < 1000 then g.2.2.2 n else h'.2.2.2 n)
theorem mixH_lo {a : Nat} (ha : a < 1000) : (mixH g h').1 a = g.1 a ∧ (mixH g h').2.1 a = g.2.1 a ∧ (mixH g h').2.2.1 a = g.2.2.1 a ∧ (mixH g h').2.2.2 a = g.2.2.2 a := ⟨if_pos ha, if_pos ha, if_pos ha, if_pos ha⟩
theorem mixH_hi {a : Nat} (ha : ¬ a < 1000) : (mixH g h').1 a = h'.1 a ∧ (mixH g h').2.1 a = h'.2.1 a ∧ (mixH g h').2.2.1 a = h'.2.2.1 a ∧ (mixH g h').2.2.2 a = h'.2.2.2 a := ⟨if_neg ha, if_neg ha, if_neg ha, if_neg ha⟩
theorem CI.lw (c : CI C E s ps h) (l : Lw h h') : CI C E s ps h' := by
  obtain ⟨z, g, x, I, e, P⟩ := c
  refine ⟨z, mixH g h', fun a ha => ?_, I.lo fun a ha => ⟨(mixH_lo ha).1, (mixH_lo ha).2.1, (mixH_lo ha).2.2.1⟩, (mixH_lo (show 132 < 1000 by decide)).1.trans e, P.le (mixH_lo (show 134 < 1000 by decide)).1 (congrFun (mixH_lo (show 130 < 1000 by decide)).1 21)⟩
  rcases ha with q | q
  · have y := x a (Or.inl q)
    have y2 := l a (by omega)
    have m := mixH_lo (g := g) (h' := h') (show a < 1000 by omega)
    exact ⟨m.1.trans (y.1.trans y2.1.symm), m.2.1.trans (y.2.1.trans y2.2.1.symm), m.2.2.1.trans (y.2.2.1.trans y2.2.2.1.symm), m.2.2.2.trans (y.2.2.2.trans y2.2.2.2.symm)⟩
  · exact mixH_hi (show ¬ a < 1000 by omega)
theorem Gh.refl (h : PH) : Gh h h := fun _ _ => ⟨rfl, rfl, rfl, rfl⟩
/-- the class has made its change: the ghosts follow -/
theorem CI.upd (M : Mid z C E D F s s' u w h) (P : PsG ps g) (e134 : h.1 134 = g.1 134) (e21 : gi h 130 21 = gi g 130 21) (hl : ps.length ≤ 5) : ∃ s2, eqR s' s2 ∧ CI D F s2 (s :: ps) h := by
  obtain ⟨⟨a1, a2, a3, a4, a5, a6, a7⟩, mb, mc⟩ := M
  have e : eqR s' (fun k => if k < 253 then s' k else s k) := fun i hi => if_pos hi
  have M2 : Mid z C E D F s (fun k => if k < 253 then s' k else s k) u w h := ⟨⟨a1, a2, a3.eqR e, a4.trans e.ag, a5.eqR a3 e, a6, a7⟩, mb, mc⟩
  obtain ⟨c1, c2, c3, c4, c5, c6, c7, c8⟩ := mc
  refine ⟨_, e, ?_⟩
  generalize hs2 : (fun k => if k < 253 then s' k else s k) = s2 at e M2
  have hs2k : ∀ k, 253 ≤ k → s2 k = s k := fun k hk => by rw [← hs2]; exact if_neg (by omega)
  have hk : kpu u ≤ 6 ∧ 1 ≤ kpu u := by unfold kpu; split <;> omega
  have f1 : Fr W135 (si h 130 0 (nI 0)) (gset (si h 130 0 (nI 0)) 135 s) := ⟨fun b k y => congrFun (gset_o (fun z => by rw [z] at y; exact Bool.noConfusion (show true = false from y))) k, rfl⟩
  have p1 : ∀ j, j < 253 → gi (gset (si h 130 0 (nI 0)) 135 s) 135 j = gi (si h 130 0 (nI 0)) 132 j := fun j _ => by
    show (gset (si h 130 0 (nI 0)) 135 s).1 135 j = (si h 130 0 (nI 0)).1 132 j
    rw [gset_a, si_b (by omega), a1]
  have f2 : Fr WM (gset (si h 130 0 (nI 0)) 135 s) (gset (gset (si h 130 0 (nI 0)) 135 s) 132 s2) := ⟨fun b k y => by
    by_cases c : b = 132
    · subst c
      show (gset (gset (si h 130 0 (nI 0)) 135 s) 132 s2).1 132 k = (gset (si h 130 0 (nI 0)) 135 s).1 132 k
      rw [gset_a, gset_o (by omega), si_b (by omega), a1]
      refine hs2k k ?_
      rcases Nat.lt_or_ge k 253 with q | q
      · rw [WM_t q] at y; cases y
      · exact q
    · exact congrFun (gset_o c) k, rfl⟩
  have r2 : (gset (gset (si h 130 0 (nI 0)) 135 s) 132 s2).1 132 = s2 := gset_a
  generalize hg2 : gset (gset (si h 130 0 (nI 0)) 135 s) 132 s2 = g2 at f2 r2
  have o2 : ∀ b, b ≠ 130 → b ≠ 132 → b ≠ 135 → g2.1 b = h.1 b := fun b b1 b2 b3 => by
    rw [← hg2, gset_o b2, gset_o b3, si_b b1]
  have o135 : g2.1 135 = s := by rw [← hg2, gset_o (by omega), gset_a]
  have o22 : g2.2 = h.2 := by rw [← hg2]; rfl
  let Pf : Nat → Int32 := fun j => if j / 253 + 1 < kpu u then h.1 134 (253 * (j / 253 + kpd u) + j % 253) else s (j % 253)
  have dv : ∀ i k, k < 253 → (253 * i + k) / 253 = i ∧ (253 * i + k) % 253 = k := fun i k hk => by omega
  have k3 : KpM u g2 (si (gset g2 134 Pf) 130 21 (nI (kpu u))) := by
    have c134 : (si (gset g2 134 Pf) 130 21 (nI (kpu u))).1 134 = Pf := by rw [si_b (by omega), gset_a]
    refine ⟨⟨fun b k y => ?_, rfl⟩, gi_same, fun i hi j hj => ?_, fun j hj => ?_⟩
    · have n1 : b ≠ 134 := fun c => by rw [c] at y; exact Bool.noConfusion (show true = false from y)
      rw [gi_si]
      by_cases c : b = 130
      · subst c
        have n2 : k ≠ 21 := fun c => by rw [c] at y; exact absurd y (by decide)
        rw [if_pos rfl, if_neg n2]; exact congrFun (gset_o (by omega)) k
      · rw [if_neg c]; exact congrFun (gset_o n1) k
    · show (si (gset g2 134 Pf) 130 21 (nI (kpu u))).1 134 (253 * i + j) = g2.1 134 (253 * (i + kpd u) + j)
      rw [c134, o2 134 (by omega) (by omega) (by omega)]
      obtain ⟨d1, d2⟩ := dv i j hj
      show (if (253 * i + j) / 253 + 1 < kpu u then _ else _) = _
      rw [d1, d2, if_pos hi]
    · show (si (gset g2 134 Pf) 130 21 (nI (kpu u))).1 134 (253 * (kpu u - 1) + j) = g2.1 135 j
      rw [c134, o135]
      obtain ⟨d1, d2⟩ := dv (kpu u - 1) j hj
      show (if (253 * (kpu u - 1) + j) / 253 + 1 < kpu u then _ else _) = _
      rw [d1, d2, if_neg (by omega)]
  have T := M2.run f1 p1 f2 r2 k3
  generalize hg3 : si (gset g2 134 Pf) 130 21 (nI (kpu u)) = g3 at k3 T
  refine ⟨z, g3, fun a ha => ?_, T.1, ?_, ?_⟩
  · have : g3.2 = h.2 := by rw [← hg3]; exact o22
    refine ⟨?_, by rw [this], by rw [this], by rw [this]⟩
    rw [← hg3, si_b (by omega), gset_o (by omega), o2 a (by omega) (by omega) (by omega)]
  · rw [← hg3, si_b (by omega), gset_o (by omega)]; exact r2
  · obtain ⟨v, v1, v2, v3, v4⟩ := P
    have huv : u = v := by
      have := c5.symm.trans (e21.trans v2)
      exact (nI_eq (by omega) (by omega)).mp this
    subst huv
    refine ⟨kpu u, hk.1, k3.2.1, ?_, fun i hi => ?_⟩
    · show ps.length + 1 ≤ kpu u
      unfold kpu; split <;> omega
    · rw [List.length_cons] at hi
      cases i with
      | zero =>
        intro j hj
        show pst g3 (kpu u - 1 - 0) j = s j
        rw [Nat.sub_zero, k3.2.2.2 j hj, o135]
      | succ i =>
        have hi : i < ps.length := by omega
        have v4 := v4 i hi
        have hx : kpu u - 1 - (i + 1) + 1 < kpu u ∧ kpu u - 1 - (i + 1) + kpd u = u - 1 - i := by
          unfold kpu kpd; split <;> omega
        intro j hj
        show pst g3 (kpu u - 1 - (i + 1)) j = ps.getD i (fun _ => 0) j
        rw [k3.2.2.1 _ hx.1 j hj, hx.2, ← v4 j hj]
        show g2.1 134 _ = g.1 134 _
        rw [o2 134 (by omega) (by omega) (by omega), e134]
theorem CI.upd0 (M : Mid z C E D F s s' u w h) : ∃ s2, eqR s' s2 ∧ CI D F s2 [] h := by
  obtain ⟨-, -, c1, c2, c3, c4, c5, -⟩ := id M
  obtain ⟨s2, e, c⟩ := CI.upd (ps := []) (g := h) M ⟨u, c1, c5, Nat.zero_le _, fun i hi => absurd hi (Nat.not_lt_zero i)⟩ rfl rfl (Nat.zero_le _)
  exact ⟨s2, e, c.nil⟩
end
