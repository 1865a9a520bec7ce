/-! ===== runScript, the reference ===== -/
section
variable {q : Nat → PH → Prop} {kk : Int32 → PH → Prop} {kv : PH → Prop} {h h' h0 : PH} {s t g s' : RW} {C E D F : Nat} {a b n m p u v w i j k o x y d e pl N : Nat} {B L : Nat → Nat} {nm : Nat → Int64} {c : Nat → Nat} {td : Nat → Bool} {z : FI}
def WSe (b k : Nat) : Prop := (b = 130 ∧ ((2 ≤ k ∧ k ≤ 9) ∨ (33 ≤ k ∧ k ≤ 35))) ∨ (141 ≤ b ∧ b ≤ 143)
theorem FEs (x : Fz WSc VSc h h') : Fz WSe VSc h h' := x.mono (fun b k y => by unfold WSc at y; unfold WSe; omega) (fun b y => y)
theorem FEi {k : Nat} {x : Int32} (hk : (2 ≤ k ∧ k ≤ 9) ∨ (33 ≤ k ∧ k ≤ 35)) : Fz WSe VSc h (si h 130 k x) := Fz.si h x (Or.inl ⟨rfl, hk⟩)
/-- the script read, up to the end -/
theorem s_scrR (hn : n ≤ 900) (hc : ∀ j, c j < 256) (P : CNT (h.1 132)) (N : ND (fun i => gl h 137 i) (h.1 132)) (e2 : gi h 130 2 = nI n) (eb : ∀ j, j < n → gi h 131 j = nI (c j))
    (K0 : ∀ e pl, scR c n h = .inl (e, pl) → ∀ h' o1, Fz WSe VSc h h' → ME e pl h' → gi h' 130 2 = nI 0 → At m_X12_runScript (rI q kk) 82 0 [some (.ref 130), o1] [] h')
    (K1 : ∀ g nm td p, scR c n h = .inr (g, nm, td, p) → ∀ h' o1, Fz WSe VSc h h' → WFg g → PGm g h' → gi h' 130 8 = nI 0 → gi h' 130 9 = -(nI 1) → gi h' 130 2 = nI 0 → At m_X12_runScript (rI q kk) 82 0 [some (.ref 130), o1] [] h') : MetPM m_X12_runScript [.ref 130] h (rI q kk) := by
  refine t_X12_runScript (t_X12_beginsText ?_)
  intro h1
  have x1 : Fz WSe VSc h h1 := ((((FEi (by omega)).trans (FEi (by omega))).trans (FEi (by omega))).trans (FEi (by omega))).trans (FEi (by omega))
  have g2 : gi h1 130 2 = nI 0 := by
    show gi (si (si (si (si (si h 130 3 (gi h 130 2)) 130 2 (nI 0)) 130 4 (nI 0)) 130 8 (nI 0)) 130 9 (-(nI 1))) 130 2 = _
    rw [gi_ok (by omega), gi_ok (by omega), gi_ok (by omega), gi_same]
  have g3 : gi h1 130 3 = nI n := by
    show gi (si (si (si (si (si h 130 3 (gi h 130 2)) 130 2 (nI 0)) 130 4 (nI 0)) 130 8 (nI 0)) 130 9 (-(nI 1))) 130 3 = _
    rw [gi_ok (by omega), gi_ok (by omega), gi_ok (by omega), gi_ok (by omega), gi_same]; exact e2
  have g4 : gi h1 130 4 = nI 0 := by
    show gi (si (si (si (si (si h 130 3 (gi h 130 2)) 130 2 (nI 0)) 130 4 (nI 0)) 130 8 (nI 0)) 130 9 (-(nI 1))) 130 4 = _
    rw [gi_ok (by omega), gi_ok (by omega), gi_same]
  have g8 : gi h1 130 8 = nI 0 := by
    show gi (si (si (si (si (si h 130 3 (gi h 130 2)) 130 2 (nI 0)) 130 4 (nI 0)) 130 8 (nI 0)) 130 9 (-(nI 1))) 130 8 = _
    rw [gi_ok (by omega), gi_same]
  have g9 : gi h1 130 9 = -(nI 1) := gi_same
  have gb : ∀ b, b ≠ 130 → h1.1 b = h.1 b := fun b hb => by
    show (si (si (si (si (si h 130 3 (gi h 130 2)) 130 2 (nI 0)) 130 4 (nI 0)) 130 8 (nI 0)) 130 9 (-(nI 1))).1 b = _
    rw [si_b hb, si_b hb, si_b hb, si_b hb, si_b hb]
  have gl1 : h1.2 = h.2 := rfl
  clear_value h1
  have B1 : MB c n h1 := ⟨hn, hc, g3, fun j hj => by
    show h1.1 131 j = _
    rw [gb 131 (by omega)]; exact eb j hj⟩
  refine s_goOn (Nat.zero_le n) B1 g4 (fun h2 x2 T2 => ?_)
  have F3 : Fz WSe VSc h2 (si (si (si h2 130 33 (nI 0)) 130 34 (nI 0)) 130 35 (nI 0)) := ((FEi (by omega)).trans (FEi (by omega))).trans (FEi (by omega))
  have N3 : Fz WN (fun _ => False) h2 (si (si (si h2 130 33 (nI 0)) 130 34 (nI 0)) 130 35 (nI 0)) := ((FNi (by omega)).trans (FNi (by omega))).trans (FNi (by omega))
  have S2 : MX c n (h.1 132) (fun i => gl h 137 i) (fun w => bt (gi h 130 23) w) 0 h2 := by
    refine ⟨?_, fun i => ?_, B1.ft x2, T2, Nat.zero_le _, (x2.1 130 8 (by unfold WT; omega)).trans g8, (x2.1 130 9 (by unfold WT; omega)).trans g9, fun w _ _ => ?_⟩
    · rw [x2.cell (fun k => by unfold WT; omega), gb 132 (by omega)]
    · show h2.2.1 137 i = _
      rw [x2.2.1 137 (by unfold VT; omega), gl1]; rfl
    · rw [x2.1 130 23 (by unfold WT; omega), x1.1 130 23 (by unfold WSe; omega)]
  have S3 := S2.zz N3
  have G3 : PGm pg0 (si (si (si h2 130 33 (nI 0)) 130 34 (nI 0)) 130 35 (nI 0)) := PGm.z (by rw [gi_ok (by omega), gi_ok (by omega), gi_same]) (by rw [gi_ok (by omega), gi_same]) gi_same
  have X3 := (x1.trans (FEs (FSt x2))).trans F3
  have m2 : gi (si (si (si h2 130 33 (nI 0)) 130 34 (nI 0)) 130 35 (nI 0)) 130 2 = nI 0 := by rw [gi_ok (by omega), gi_ok (by omega), gi_ok (by omega), x2.1 130 2 (by unfold WT; omega)]; exact g2
  show At m_X12_runScript (rI q kk) 19 0 [some (.ref 130), none] [] (si (si (si h2 130 33 (nI 0)) 130 34 (nI 0)) 130 35 (nI 0))
  generalize si (si (si h2 130 33 (nI 0)) 130 34 (nI 0)) 130 35 (nI 0) = h3 at S3 G3 X3 m2
  have d0 : pD pg0 = 0 := by decide
  refine (l_mscr P N hn 900 pg0 0 h3 (Nat.zero_le _) (Or.inr ⟨rfl, rfl, d0⟩) WFg.z AVg.z G3 S3 ⟨fun e pl er h4 x4 M4 o1 => ?_, fun g nm td p er h4 x4 J4 o1 => ?_⟩).1 (fun y => by rw [d0] at y; omega) _
  · exact K0 e pl er h4 o1 (X3.trans (FEs x4)) M4 ((x4.1 130 2 (by unfold WSc; omega)).trans m2)
  · exact K1 g nm td p er h4 o1 (X3.trans (FEs x4)) J4.1 J4.2.1 J4.2.2.e8 J4.2.2.e9 ((x4.1 130 2 (by unfold WSc; omega)).trans m2)
def WRn (b k : Nat) : Prop := WRs b k ∨ (b = 130 ∧ (k = 0 ∨ (2 ≤ k ∧ k ≤ 11) ∨ (33 ≤ k ∧ k ≤ 35))) ∨ (141 ≤ b ∧ b ≤ 143)
def WRm (b k : Nat) : Prop := WRo b k ∨ (b = 130 ∧ (k = 0 ∨ (2 ≤ k ∧ k ≤ 11) ∨ (33 ≤ k ∧ k ≤ 35))) ∨ (141 ≤ b ∧ b ≤ 143)
def VRm (b : Nat) : Prop := VRs b ∨ b = 130
theorem scR_eq {W : Nat → Nat → Prop} {V : Nat → Prop} {h0 h1 : PH} (x : Fz W V (r6 h0 h1) h) (w1 : ∀ k, ¬ W 132 k) (w2 : ¬ W 130 23) (v : ¬ V 137) : scR c n h = scR c n h0 := by
  have c132 : h.1 132 = h0.1 132 := x.cell w1
  have l137 : (fun i => gl h 137 i) = (fun i => gl h0 137 i) := funext fun i => by
    show h.2.1 137 i = h0.2.1 137 i
    rw [x.2.1 137 v]; rfl
  have i23 : gi h 130 23 = gi h0 130 23 := x.1 130 23 w2
  unfold scR
  rw [c132, l137, i23]
theorem ND_eq (e : h.1 132 = h0.1 132) (l : ∀ i, gl h 137 i = gl h0 137 i) (N : NmR 15 137 (h0.1 132) h0) : ND (fun i => gl h 137 i) (h.1 132) := by
  have l2 : (fun i => gl h 137 i) = (fun i => gl h0 137 i) := funext l
  rw [l2, e]
  exact N.2.2.2
theorem s_run0 {h0 : PH} (I : Inv z C E h0) (B : CB c n h0) (e2 : gi h0 130 2 = nI n) (eb : ∀ j, j < n → gi h0 131 j = nI (c j)) (er : scR c n h0 = .inl (e, pl)) (U : RsE e pl h0 h) (K : ∀ h', Inv z C E h' → gi h' 130 0 = nI 1 → kk (nI 0) h') : MetPM m_X12_runScript [.ref 130] h (rI q kk) := by
  obtain ⟨x, u1, u2⟩ := U
  have c132 : h.1 132 = h0.1 132 := x.cell fun k => by unfold WRs; omega
  have l137 : ∀ i, gl h 137 i = gl h0 137 i := fun i => by
    show h.2.1 137 i = _
    rw [x.2.1 137 (by unfold VRs; omega)]; rfl
  have rr : scR c n h = scR c n h0 := scR_eq x (fun k => by unfold WRs; omega) (by unfold WRs; omega) (by unfold VRs; omega)
  refine s_scrR B.1 B.2.1 (by rw [c132]; exact I.ic.1.cnt) (ND_eq c132 l137 I.inn) ((x.1 130 2 (by unfold WRs; omega)).trans e2) (fun j hj => (x.1 131 j (by unfold WRs; omega)).trans (eb j hj)) (fun e' pl' er' h6 o1 x6 M g2 => ?_) (fun g' nm' td' p' er' => by
    rw [rr, er] at er'
    cases er')
  rw [rr, er] at er'
  cases er'
  refine u_X12_runScript_82 (t_X12_endsText ?_)
  have m8 : gi (si (si h6 130 10 (gi h6 130 8)) 130 11 (gi (si h6 130 10 (gi h6 130 8)) 130 9)) 130 8 = gi h6 130 8 := by rw [gi_ok (by omega), gi_ok (by omega)]
  have m10 : gi (si (si h6 130 10 (gi h6 130 8)) 130 11 (gi (si h6 130 10 (gi h6 130 8)) 130 9)) 130 10 = nI e := by rw [gi_ok (by omega), gi_same]; exact M.2.2.1
  have m11 : gi (si (si h6 130 10 (gi h6 130 8)) 130 11 (gi (si h6 130 10 (gi h6 130 8)) 130 9)) 130 11 = nI pl := by rw [gi_same, gi_ok (by omega)]; exact M.2.2.2.1
  have m2 : gi (si (si h6 130 10 (gi h6 130 8)) 130 11 (gi (si h6 130 10 (gi h6 130 8)) 130 9)) 130 2 = nI 0 := by rw [gi_ok (by omega), gi_ok (by omega)]; exact g2
  have X7 : Fz WRn VRm (r6 h0 h) (si (si h6 130 10 (gi h6 130 8)) 130 11 (gi (si h6 130 10 (gi h6 130 8)) 130 9)) := by
    have X6 : Fz WRn VRm (r6 h0 h) h6 := (x.mono (fun b k y => Or.inl y) (fun b y => Or.inl y)).trans (x6.mono (W2 := WRn) (V2 := VRm) (fun b k y => by unfold WSe at y; unfold WRn; omega) (fun b y => Or.inr y))
    exact (X6.trans (Fz.si _ _ (Or.inr (Or.inl ⟨rfl, by omega⟩)))).trans (Fz.si _ _ (Or.inr (Or.inl ⟨rfl, by omega⟩)))
  have n7 : ∀ k, 1 ≤ k → k ≤ 3 → gi (si (si h6 130 10 (gi h6 130 8)) 130 11 (gi (si h6 130 10 (gi h6 130 8)) 130 9)) 1 k = gi h 1 k := fun k _ _ => by rw [gi_ob (by omega), gi_ob (by omega), x6.1 1 k (by unfold WSe; omega)]
  generalize si (si h6 130 10 (gi h6 130 8)) 130 11 (gi (si h6 130 10 (gi h6 130 8)) 130 9) = h7 at m8 m10 m11 m2 X7 n7
  rw [m8]
  refine ⟨fun _ => s_goes (b := false) ⟨isB_0, fun y => absurd rfl y, fun _ => ?_⟩, fun y => absurd y M.ne⟩
  have fz : Fz WRn VRm (r6 h0 h) (si h7 130 0 (nI 1)) := X7.trans (Fz.si _ _ (Or.inr (Or.inl ⟨rfl, by omega⟩)))
  have I6 : Inv z C E (r6 h0 h) := I.r6
  have k0 : ∀ b k, ¬ (b = 130 ∧ k = 0) → gi (si h7 130 0 (nI 1)) b k = gi h7 b k := fun b k hb => by
    by_cases d : b = 130
    · subst d; rw [gi_ok (by omega)]
    · rw [gi_ob d]
  have e132 : (si h7 130 0 (nI 1)).1 132 = (r6 h0 h).1 132 := fz.cell fun k => by unfold WRn WRs; omega
  refine K (si h7 130 0 (nI 1)) ⟨⟨by rw [e132]; exact I6.ic.1, by
      rw [e132]
      exact I6.ic.2.heap fun b hb => fz.cell fun k => by unfold WRn WRs; omega⟩, ⟨0, by omega, ?_, ?_, fun j hj => absurd hj (by omega), ?_, ?_⟩, NmR.fz fz (by unfold VRm VRs; omega) (by unfold VRm VRs; omega) (by unfold VRm VRs; omega) (by unfold VRm VRs; omega) (by rw [e132]) (by rw [e132]) (by rw [e132]) I6.inn, I6.is.fz fz (by unfold WRn WRs; omega) (by unfold WRn WRs; omega) (fun k => by unfold WRn WRs; omega) (fun b k hb => by unfold WRn WRs; omega) (by unfold VRm VRs; omega) (by unfold VRm VRs; omega) (by unfold VRm VRs; omega) (by unfold VRm VRs; omega), I6.ih.fz fz (fun k => by unfold WRn WRs; omega) (by unfold WRn WRs; omega) (fun k => by unfold WRn WRs; omega) (fun b k hb => by unfold WRn WRs; omega), I6.ip.fz fz (by unfold WRn WRs; omega) (by unfold WRn WRs; omega) (by unfold WRn WRs; omega) (fun k => by unfold WRn WRs; omega) (fun k => by unfold WRn WRs; omega), I6.iz.fz fz (fun k => by unfold WRn WRs; omega) (fun k => by unfold WRn WRs; omega) (by unfold WRn WRs; omega)⟩ gi_same
  · rw [k0 1 1 (by omega), n7 1 (by omega) (by omega)]; exact u1
  · rw [k0 130 2 (by omega)]; exact m2
  · rw [k0 1 2 (by omega), k0 130 10 (by omega), n7 2 (by omega) (by omega), m10]; exact u2.1
  · rw [k0 1 3 (by omega), k0 130 11 (by omega), n7 3 (by omega) (by omega), m11]; exact u2.2
/-- behind both: the bookkeeping -/
theorem Mid.run2 {h1 h2 h3 : PH} (M : Mid z C E D F s s' u w h) (f1 : Fr W135 (si h 130 0 (nI 0)) h1) (a1 : ∀ j, j < 253 → gi h1 135 j = gi (si h 130 0 (nI 0)) 132 j) (f2 : Fz WMr (fun _ => False) h1 h2) (r2 : h2.1 132 = s') (k3 : KpM u h2 h3) : Inv z D F h3 ∧ gi h3 130 0 = nI 0 ∧ h3.2.1 147 = h.2.1 147 := by
  obtain ⟨⟨a1', a2, a3, a4, a5, a6, a7⟩, b, ⟨c1, c2, c3, c4, c5, c6, ⟨c7, c8⟩, c9⟩⟩ := M
  obtain ⟨k1, k2, kp1, kp2⟩ := k3
  have g0 : Fz WX VZ h (si h 130 0 (nI 0)) := Fz.si h _ (by unfold WX WZ; omega)
  have g1 : Fz WX VZ (si h 130 0 (nI 0)) h1 := Fz.fr f1 (fun b k e => by
    have := Nat.eq_of_beq_eq_true e
    unfold WX WZ; omega)
  have g2 : Fz WX VZ h1 h2 := f2.mono (fun b k y => by unfold WMr WDo at y; unfold WX WZ; omega) (fun b y => y.elim)
  have g3 : Fz WX VZ h2 h3 := Fz.fr k1 (fun b k e => by
    unfold W134 at e
    simp only [Bool.or_eq_true, Bool.and_eq_true] at e
    rcases e with e | ⟨e, e2⟩
    · have := Nat.eq_of_beq_eq_true e
      unfold WX WZ; omega
    · have := Nat.eq_of_beq_eq_true e
      have := Nat.eq_of_beq_eq_true e2
      unfold WX WZ; omega)
  have fz := ((g0.trans g1).trans g2).trans g3
  have c2' : ∀ b, b ≠ 130 → b ≠ 132 → b < 140 → h2.1 b = h1.1 b := fun b x1 x2 x3 => f2.cell (fun k => by unfold WMr WDo; omega)
  have cell : ∀ b, b ≠ 130 → b ≠ 132 → b ≠ 134 → b ≠ 135 → b < 140 → h3.1 b = h.1 b := fun b x1 x2 x3 x4 x5 => by
    rw [k1.cell (b := b) (fun k => by
      unfold W134
      rw [show Nat.beq b 134 = false from nbq x3, show Nat.beq b 130 = false from nbq x1]; rfl), c2' b x1 x2 x5, f1.cell (b := b) (fun k => nbq x4), si_b x1]
  have e132 : h3.1 132 = s' := (k1.cell fun k => rfl).trans r2
  have e134 : h2.1 134 = h.1 134 := by
    rw [c2' 134 (by omega) (by omega) (by omega), f1.cell (b := 134) (fun k => rfl), si_b (by omega)]
  have e135 : ∀ j, j < 253 → h2.1 135 j = s j := fun j hj => by
    rw [c2' 135 (by omega) (by omega) (by omega)]
    show gi h1 135 j = _
    rw [a1 j hj]
    show (si h 130 0 (nI 0)).1 132 j = _
    rw [si_b (by omega), a1']
  have ew : (w + 1) % 6 < 6 := Nat.mod_lt _ (by omega)
  have hk : kpu u ≤ 6 ∧ 1 ≤ kpu u := by unfold kpu; split <;> omega
  have p2 : eqR s (pst h3 (kpu u - 1)) := fun j hj => (kp2 j hj).trans (e135 j hj)
  have B := b.fz fz (fun _ _ y => y) (fun i hi => by rw [e132, a1']; exact a4 i (by omega))
  refine ⟨⟨⟨by rw [e132]; exact a3, by rw [e132]; exact a5.heap fun b hb => cell b (by omega) (by omega) (by omega) (by omega) (by omega)⟩, B.1, B.2.1, ⟨B.2.2.1.1, B.2.2.1.2.1, fun y => ?_⟩, ⟨kpu u, (w + 1) % 6, hk.1, ew, ?_, ?_, k2, fun j hj => ?_, fun i hi => ?_⟩, B.2.2.2.1, B.2.2.2.2⟩, ?_, ?_⟩
  · have := B.2.2.1.2.2 y
    exact ⟨this.1.mono a6 a7, this.2⟩
  · show h3.1 13 1 = _
    rw [cell 13 (by omega) (by omega) (by omega) (by omega) (by omega)]; exact c3
  · show h3.1 13 2 = _
    rw [cell 13 (by omega) (by omega) (by omega) (by omega) (by omega)]; exact c4
  · show h3.2.2.1 14 j = _
    rw [fz.2.2 14 (by omega)]; exact c6 j hj
  · by_cases c : i + 1 < kpu u
    · have hj : i + kpd u < u := by
        unfold kpu at c
        unfold kpd
        split at c
        · rename_i y; rw [if_pos y]; omega
        · rename_i y; rw [if_neg y]; omega
      obtain ⟨b1, b2, b3⟩ := c9 _ hj
      have ep : eqR (pst h (i + kpd u)) (pst h3 i) := by
        have := kp1 i c
        rw [pst_eq e134] at this; exact this
      have eh : hix (kpu u) ((w + 1) % 6) i = hix u w (i + kpd u) := by
        unfold hix kpu kpd
        split <;> omega
      have nh : hix u w (i + kpd u) ≠ (w + 1) % 6 := by
        unfold hix kpd
        unfold kpu at c
        split
        · rename_i y; rw [if_pos y] at c; omega
        · rename_i y; rw [if_neg y] at c; omega
      have := hix_lt (u := u) (w := w) (i := i + kpd u)
      have hm := b1.m.2
      rw [eh]
      exact ⟨(b1.eqR ep).mono a6 a7, (b2.heap fun b h1 h2 => cell b (by omega) (by omega) (by omega) (by omega) (by omega)).congr ep.ag b1.1, ((b3 nh).heap fun b h1 h2 => cell b (by omega) (by omega) (by omega) (by omega) (by omega)).eqR hm ep⟩
    · have ei : i = kpu u - 1 := by omega
      subst ei
      have eh : hix (kpu u) ((w + 1) % 6) (kpu u - 1) = (w + 1) % 6 := by unfold hix; omega
      rw [eh]
      exact ⟨(a2.eqR p2).mono a6 a7, (c7.heap fun b h1 h2 => cell b (by omega) (by omega) (by omega) (by omega) (by omega)).congr p2.ag a2.1, (c8.heap fun b h1 h2 => cell b (by omega) (by omega) (by omega) (by omega) (by omega)).eqR a2.m.2 p2⟩
  · rw [k1.1 130 0 rfl, f2.1 130 0 (by unfold WMr WDo; omega), f1.1 130 0 rfl, gi_same]
  · rw [k1.2, f2.2.1 147 (fun y => y)]
    exact congrArg (fun p => p.1 147) f1.2
theorem s_run1 {h0 : PH} (I : Inv z C E h0) (B : CB c n h0) (hC : C + 39960 < 2 ^ 29) (hE : E + 1198800 < 2 ^ 31) (e2 : gi h0 130 2 = nI n) (eb : ∀ j, j < n → gi h0 131 j = nI (c j)) (er : scR c n h0 = .inr (g, nm, td, p)) (U : RsO C E (RunF g (h0.1 132)).2 u w h0 h) (K : ∀ h', Inv z (C + 39960) (E + 1198800) h' → gi h' 130 0 = nI 0 → h'.2.1 147 = h.2.1 147 → kk (nI (RunF g (h0.1 132)).1) h') : MetPM m_X12_runScript [.ref 130] h (rI q kk) := by
  obtain ⟨x, uX, uM, u1, u2, u3⟩ := U
  have R := I.ic.1
  have c132 : h.1 132 = h0.1 132 := x.cell fun k => by unfold WRo WRs; omega
  have l137 : ∀ i, gl h 137 i = gl h0 137 i := fun i => by
    show h.2.1 137 i = _
    rw [x.2.1 137 (by unfold VRs; omega)]; rfl
  have rr : scR c n h = scR c n h0 := scR_eq x (fun k => by unfold WRo WRs; omega) (by unfold WRo WRs; omega) (by unfold VRs; omega)
  refine s_scrR B.1 B.2.1 (by rw [c132]; exact R.cnt) (ND_eq c132 l137 I.inn) ((x.1 130 2 (by unfold WRo WRs; omega)).trans e2) (fun j hj => (x.1 131 j (by unfold WRo WRs; omega)).trans (eb j hj)) (fun e' pl' er' => by
    rw [rr, er] at er'
    cases er') (fun g' nm' td' p' er' h6 o1 x6 W6 G6 f8 f9 g2 => ?_)
  rw [rr, er] at er'
  cases er'
  obtain ⟨W, A, D⟩ := scR_ok R B.1 er
  refine u_X12_runScript_82 (t_X12_endsText ?_)
  have m8 : gi (si (si h6 130 10 (gi h6 130 8)) 130 11 (gi (si h6 130 10 (gi h6 130 8)) 130 9)) 130 8 = nI 0 := by rw [gi_ok (by omega), gi_ok (by omega)]; exact f8
  have m10 : gi (si (si h6 130 10 (gi h6 130 8)) 130 11 (gi (si h6 130 10 (gi h6 130 8)) 130 9)) 130 10 = nI 0 := by rw [gi_ok (by omega), gi_same]; exact f8
  have m11 : gi (si (si h6 130 10 (gi h6 130 8)) 130 11 (gi (si h6 130 10 (gi h6 130 8)) 130 9)) 130 11 = -(nI 1) := by rw [gi_same, gi_ok (by omega)]; exact f9
  have m2 : gi (si (si h6 130 10 (gi h6 130 8)) 130 11 (gi (si h6 130 10 (gi h6 130 8)) 130 9)) 130 2 = nI 0 := by rw [gi_ok (by omega), gi_ok (by omega)]; exact g2
  have F67 : Fz WRn VRm h6 (si (si h6 130 10 (gi h6 130 8)) 130 11 (gi (si h6 130 10 (gi h6 130 8)) 130 9)) := (Fz.si _ _ (Or.inr (Or.inl ⟨rfl, by omega⟩))).trans (Fz.si _ _ (Or.inr (Or.inl ⟨rfl, by omega⟩)))
  have F7 : Fz (fun b k => (b = 130 ∧ ((2 ≤ k ∧ k ≤ 11) ∨ (33 ≤ k ∧ k ≤ 35))) ∨ (141 ≤ b ∧ b ≤ 143)) VSc h (si (si h6 130 10 (gi h6 130 8)) 130 11 (gi (si h6 130 10 (gi h6 130 8)) 130 9)) := by
    refine ((x6.mono (fun b k y => ?_) (fun b y => y)).trans (Fz.si _ _ (Or.inl ⟨rfl, by omega⟩))).trans (Fz.si _ _ (Or.inl ⟨rfl, by omega⟩))
    unfold WSe at y
    omega
  have G7 : PGm g (si (si h6 130 10 (gi h6 130 8)) 130 11 (gi (si h6 130 10 (gi h6 130 8)) 130 9)) := G6.eq (fun i hi => by rw [gi_ok (by omega), gi_ok (by omega)]) (fun b i x1 x2 => by rw [gi_ob (by omega), gi_ob (by omega)])
  generalize si (si h6 130 10 (gi h6 130 8)) 130 11 (gi (si h6 130 10 (gi h6 130 8)) 130 9) = h7 at m8 m10 m11 m2 F7 G7 F67
  rw [m8]
  refine ⟨fun y => absurd rfl y, fun _ => s_goes (b := true) ⟨isB_1, fun _ => ?_, fun y => absurd y (by decide)⟩⟩
  have c7 : ∀ b, b ≠ 130 → (b < 141 ∨ 143 < b) → h7.1 b = h.1 b := fun b x1 x2 => F7.cell (fun k => by omega)
  have i7 : ∀ b k, b ≠ 130 → (b < 141 ∨ 143 < b) → gi h7 b k = gi h b k := fun b k x1 x2 => congrFun (c7 b x1 x2) k
  have X7 : Fz WRm VRm (r6 h0 h) h7 := by
    refine (x.mono (fun b k y => Or.inl y) (fun b y => Or.inl y)).trans (F7.mono (fun b k y => Or.inr (by omega)) (fun b y => Or.inr y))
  have I6 : Inv z C E (r6 h0 h) := I.r6
  have e132 : h7.1 132 = h0.1 132 := (c7 132 (by omega) (by omega)).trans c132
  have ro := run_ok (g := g) W NF 0 0 (fun _ => 0) (fun _ => 0) 0 (h0.1 132) A (by omega) hC hE (R.mono (by omega) (by omega))
  obtain ⟨d1, d2, d3, d4, d5, d6, ⟨d7, d8⟩, d9⟩ := uM
  have ew : (w + 1) % 6 < 6 := Nat.mod_lt _ (by omega)
  have M : Mid z C E (C + 39960) (E + 1198800) (h0.1 132) (RunF g (h0.1 132)).2 u w h7 := by
    refine ⟨⟨e132, R, ro.1, ro.2, uX.heap (fun b hb => c7 b (by omega) (by omega)), by omega, by omega⟩, ⟨⟨0, by omega, ?_, m2, fun j hj => absurd hj (by omega), ?_, ?_⟩, NmR.fz X7 (by unfold VRm VRs; omega) (by unfold VRm VRs; omega) (by unfold VRm VRs; omega) (by unfold VRm VRs; omega) (by rw [e132]; rfl) (by rw [e132]; rfl) (by rw [e132]; rfl) I6.inn, I6.is.fz X7 (by unfold WRm WRo WRs; omega) (by unfold WRm WRo WRs; omega) (fun k => by unfold WRm WRo WRs; omega) (fun b k hb => by unfold WRm WRo WRs; omega) (by unfold VRm VRs; omega) (by unfold VRm VRs; omega) (by unfold VRm VRs; omega) (by unfold VRm VRs; omega), I6.ip.fz X7 (by unfold WRm WRo WRs; omega) (by unfold WRm WRo WRs; omega) (by unfold WRm WRo WRs; omega) (fun k => by unfold WRm WRo WRs; omega) (fun k => by unfold WRm WRo WRs; omega), I6.iz.fz X7 (fun k => by unfold WRm WRo WRs; omega) (fun k => by unfold WRm WRo WRs; omega) (by unfold WRm WRo WRs; omega)⟩, ⟨d1, d2, ?_, ?_, ?_, fun j hj => ?_, ⟨d7.heap (fun b x1 x2 => c7 b (by omega) (by omega)), d8.heap (fun b x1 x2 => c7 b (by omega) (by omega))⟩, fun i hi => ?_⟩⟩
    · rw [i7 1 1 (by omega) (by omega)]; exact u1
    · rw [i7 1 2 (by omega) (by omega), m10]; exact u2
    · rw [i7 1 3 (by omega) (by omega), m11]; exact u3
    · rw [i7 13 1 (by omega) (by omega)]; exact d3
    · rw [i7 13 2 (by omega) (by omega)]; exact d4
    · rw [F7.1 130 21 (by omega)]; exact d5
    · show h7.2.2.1 14 j = _
      rw [F7.2.2 14 (by omega)]; exact d6 j hj
    · rw [pst_eq (c7 134 (by omega) (by omega))]
      obtain ⟨t1, t2, t3⟩ := d9 i hi
      have := hix_lt (u := u) (w := w) (i := i)
      exact ⟨t1, t2.heap fun b x1 x2 => c7 b (by omega) (by omega), fun y => (t3 y).heap fun b x1 x2 => c7 b (by omega) (by omega)⟩
  refine s_laysAside (fun h8 f8' a8 => ?_)
  have f8 : Fr W135 (si h7 130 0 (nI 0)) h8 := f8'
  have a8 : ∀ j, j < 253 → gi h8 135 j = gi (si h7 130 0 (nI 0)) 132 j := a8
  have o8 : ∀ b, b ≠ 135 → h8.1 b = (si h7 130 0 (nI 0)).1 b := fun b hb => f8.cell (fun k => nbq hb)
  have r8 : h8.1 132 = h0.1 132 := by rw [o8 132 (by omega), si_b (by omega)]; exact e132
  have G8 : PGm g h8 := G7.eq (fun i hi => by
    show h8.1 130 i = _
    rw [o8 130 (by omega)]
    show gi (si h7 130 0 (nI 0)) 130 i = _
    rw [gi_ok (by omega)]) (fun b i x1 x2 => by
    show h8.1 b i = _
    rw [o8 b (by omega), si_b (by omega)]; rfl)
  have ml := mu_lt (B := fun _ => 0) (L := fun _ => 0) W RI.z
  refine t_X12_runs (l_mrun (h0 := h8) (C := C) (E := E) W D hC hE NF 0 0 (fun _ => 0) (fun _ => 0) 0 (h0.1 132) h8 _ (by have := NF_ge; omega) (by omega) RI.z G8 (fun o ho => absurd ho (by omega)) A (R.mono (by omega) (by omega)) r8 (Fz.refl _ _ _) (fun h9 f9 r9 => ?_))
  refine s_keeps d1 ?_ (fun h10 k10 => ?_)
  · rw [f9.1 130 21 (by unfold WMr WDo; omega)]
    show h8.1 130 21 = _
    rw [o8 130 (by omega)]
    show gi (si h7 130 0 (nI 0)) 130 21 = _
    rw [gi_ok (by omega), F7.1 130 21 (by omega)]
    exact d5
  · have T := M.run2 f8 a8 f9 r9 k10
    exact K h10 T.1 T.2.1 (T.2.2.trans (F7.2.1 147 (by unfold VSc; omega)))
end
