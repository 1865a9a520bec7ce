/-! ===== writeReport and reportByte, both sides ===== -/
section
variable {q : Nat → PH → Prop} {kk : Int32 → PH → Prop} {kl : Int64 → PH → Prop} {kv : PH → Prop} {h h' h0 : PH} {s t : RW} {C E : Nat} {a m n p i j k r v x u V W : Nat} {c : Nat → Nat} {o4 : Option Value} {NV NM : Nat → NMW} {z : FI}
def aWd (R : RPT) (w : NMW) : RPT := aNm R w.1 w.2.1 w.2.2
theorem aWd_1 {R : RPT} {w : NMW} : (aWd R w).1 = R.1 + w.2.2 := aNm_1 _
def aR1 (s : RW) (NV NM : Nat → NMW) (i : Nat) (R : RPT) : RPT := aWd (aTell (aWd R (NM i)) 32) (NV (vN s i))
def aR2 (s : RW) (NV : Nat → NMW) (i : Nat) (R : RPT) : RPT := if isD s i = true then aWd (aTell R 62) (NV (nn (mf s i 2))) else R
def aR3 (s : RW) (i : Nat) (R : RPT) : RPT := if mf s i 5 = nI 1 then aTell R 33 else R
def aRep (s : RW) (NV NM : Nat → NMW) : Nat → RPT
  | 0 => (0, fun _ => 0)
  | i + 1 => aTell (aR3 s i (aR2 s NV i (aR1 s NV NM i (aRep s NV NM i)))) 10
/-- the names' letters -/
def NMs (s : RW) (NV NM : Nat → NMW) (h : PH) : Prop := (∀ i, i < nn (s 0) → NmF (gl h 17 i) (gl h 137 i) (NV i)) ∧ (∀ i, i < nn (s 2) → NmF (gl h 27 i) (gl h 137 (13 + i)) (NM i))
theorem NMs.fz {W : Nat → Nat → Prop} (x : Fz W (fun _ => False) h h') (N : NMs s NV NM h) : NMs s NV NM h' := by
  have g : ∀ b i, gl h' b i = gl h b i := fun b i => by
    show h'.2.1 b i = h.2.1 b i
    rw [x.2.1 b (fun y => y)]
  refine ⟨fun i hi => ?_, fun i hi => ?_⟩
  · rw [g, g]; exact N.1 i hi
  · rw [g, g]; exact N.2 i hi
theorem NmF.lt {x y : Int64} {w : NMW} (N : NmF x y w) : w.2.2 ≤ 8 := N.2.1
theorem aR1_le (R : Rk C E s) (N : NMs s NV NM h) (hi : i < nn (s 2)) {P : RPT} : (aR1 s NV NM i P).1 ≤ P.1 + 17 ∧ (aWd P (NM i)).1 ≤ P.1 + 8 := by
  have h1 := (N.2 i hi).lt
  have h2 := (N.1 _ (R.ve i hi).2).lt
  have e1 : (aWd P (NM i)).1 = P.1 + (NM i).2.2 := aWd_1
  have e2 : (aR1 s NV NM i P).1 = (aWd P (NM i)).1 + 1 + (NV (vN s i)).2.2 := aWd_1
  omega
theorem aR2_le (R : Rk C E s) (N : NMs s NV NM h) (hi : i < nn (s 2)) {P : RPT} : (aR2 s NV i P).1 ≤ P.1 + 9 := by
  unfold aR2
  split
  · rename_i d
    have h2 := (N.1 _ (R.nx i hi d).2).lt
    rw [aWd_1]
    show P.1 + 1 + _ ≤ _
    omega
  · omega
theorem aR3_le {P : RPT} : (aR3 s i P).1 ≤ P.1 + 1 := by
  unfold aR3
  split
  · exact Nat.le_refl _
  · omega
theorem aRep_le (R : Rk C E s) (N : NMs s NV NM h) : ∀ i, i ≤ nn (s 2) → (aRep s NV NM i).1 ≤ 28 * i
  | 0, _ => Nat.le_refl _
  | i + 1, hi => by
    have ih := aRep_le R N i (by omega)
    have h1 := (aR1_le (P := aRep s NV NM i) R N (show i < nn (s 2) by omega)).1
    have h2 := aR2_le (P := aR1 s NV NM i (aRep s NV NM i)) R N (show i < nn (s 2) by omega)
    have h3 := aR3_le (s := s) (i := i) (P := aR2 s NV i (aR1 s NV NM i (aRep s NV NM i)))
    show (aR3 s i (aR2 s NV i (aR1 s NV NM i (aRep s NV NM i)))).1 + 1 ≤ _
    omega
theorem c_nameV (X : CR 60 s h) (R : Rk C E s) (hv : v < nn (s 0)) (K : kl (gl h 17 v) h) : MetPM m_X6_nameOf [.ref 16, .int (nI v)] h (rL q kl) := by
  have h8 := R.v.2
  refine t_X6_nameOf_16 (pk_lt v 0 (fun y => absurd y (by omega)) (fun _ => ?_))
  rw [show gi h 16 1 = nI (nn (s 0)) from X.1.nv.trans R.v.1]
  refine pk_le (nn (s 0)) v (fun y => absurd y (by omega)) (fun _ => ⟨vp_in_nI (by omega) (by omega), ?_⟩)
  rw [cl (by omega)]
  exact K
theorem c_nameM (X : CR 60 s h) (R : Rk C E s) (hv : v < nn (s 2)) (K : kl (gl h 27 v) h) : MetPM m_X6_nameOf [.ref 26, .int (nI v)] h (rL q kl) := by
  have h8 := R.m.2
  refine t_X6_nameOf_26 (pk_lt v 0 (fun y => absurd y (by omega)) (fun _ => ?_))
  rw [show gi h 26 1 = nI (nn (s 2)) from X.1.nm.trans R.m.1]
  refine pk_le (nn (s 2)) v (fun y => absurd y (by omega)) (fun _ => ⟨vp_in_nI (by omega) (by omega), ?_⟩)
  rw [cl (by omega)]
  exact K
theorem CR.rp (x : Fz WRp (fun _ => False) h h') (X : CR 60 s h) : CR 60 s h' := X.heap (fun b hb => x.cell (fun k => by unfold WRp; omega))
theorem c_word {R : RPT} {x y : Int64} {w : NMW} (N : NmF x y w) (hr : R.1 + 8 ≤ 336) (P : RpC R h) (K : ∀ h', Fz WRp (fun _ => False) h h' → RpC (aWd R w) h' → kv h') : MetPM m_X11_writeName [.ref 0, .long x] h (rV q kv) := by
  obtain ⟨n1, n2, n3, n4, n5⟩ := N
  rw [n4]
  exact c_writeName n2 n3 (by omega) P K
theorem s_word {R : RPT} {x y : Int64} {w : NMW} (N : NmF x y w) (hr : R.1 + 8 ≤ 400) (P : RpM R h) (K : ∀ h', Fz WRq (fun _ => False) h h' → RpM (aWd R w) h' → kv h') : MetPM m_X12_tellName [.ref 130, .long y] h (rV q kv) := by
  obtain ⟨n1, n2, n3, n4, n5⟩ := N
  rw [n5]
  exact s_tellName n2 n3 (by omega) P K
theorem l_wr (R : Rk C E s) (K : ∀ h', Fz WRp (fun _ => False) h0 h' → RpC (aRep s NV NM (nn (s 2))) h' → kk (nI (aRep s NV NM (nn (s 2))).1) h') : ∀ k i h, i + k = nn (s 2) → CR 60 s h → NMs s NV NM h → Fz WRp (fun _ => False) h0 h → RpC (aRep s NV NM i) h → At m_X11_writeReport (rI q kk) 7 0 [some (.ref 0), some (.int (nI i))] [] h := by
  intro k
  induction k with
  | zero =>
    intro i h hi X N F P
    have hm := R.m.2
    have ei : i = nn (s 2) := by omega
    subst ei
    refine u_X11_writeReport_7 ?_
    rw [show gi h 26 1 = nI (nn (s 2)) from X.1.nm.trans R.m.1, P.1]
    exact pk_le (nn (s 2)) (nn (s 2)) (fun _ => K h F P) (fun y => absurd y (by omega))
  | succ k ih =>
    intro i h hi X N F P
    have hm := R.m.2
    have h8 := R.v.2
    have hi2 : i < nn (s 2) := by omega
    have l0 := aRep_le R N i (by omega)
    have l1 := aR1_le (P := aRep s NV NM i) R N hi2
    have l2 := aR2_le (P := aR1 s NV NM i (aRep s NV NM i)) R N hi2
    have l3 := aR3_le (s := s) (i := i) (P := aR2 s NV i (aR1 s NV NM i (aRep s NV NM i)))
    have ev := R.ve i hi2
    refine u_X11_writeReport_7 ?_
    rw [show gi h 26 1 = nI (nn (s 2)) from X.1.nm.trans R.m.1]
    refine pk_le (nn (s 2)) i (fun y => absurd y (by omega)) (fun _ => c_nameM X R hi2 (c_word (N.2 i hi2) (by omega) P (fun h1 x1 P1 => ?_)))
    refine c_writeByte (x := 32) (by omega) (by omega) P1 (fun h2 x2 P2 => ⟨vp_in_nI (by omega) (by omega), ?_⟩)
    have X2 : CR 60 s h2 := (X.rp x1).rp x2
    have N2 : NMs s NV NM h2 := (N.fz x1).fz x2
    rw [cl (by omega), show gi h2 61 i = nI (vN s i) from (X2.2.ve i hi2).trans ev.1.1]
    refine c_nameV X2 R ev.2 (c_word (N2.1 _ ev.2) (by show (aWd _ _).1 + 1 + 8 ≤ 336; omega) P2 (fun h3 x3 P3 => ?_))
    have X3 : CR 60 s h3 := X2.rp x3
    have N3 : NMs s NV NM h3 := N2.fz x3
    have F3 := ((F.trans x1).trans x2).trans x3
    have P3 : RpC (aR1 s NV NM i (aRep s NV NM i)) h3 := P3
    have go137 : ∀ h9, CR 60 s h9 → NMs s NV NM h9 → Fz WRp (fun _ => False) h0 h9 → RpC (aR3 s i (aR2 s NV i (aR1 s NV NM i (aRep s NV NM i)))) h9 → At m_X11_writeReport (rI q kk) 137 0 [some (.ref 0), some (.int (nI i))] [] h9 := fun h9 X9 N9 F9 P9 => by
      refine u_X11_writeReport_137 (c_writeByte (x := 10) (by omega) (by omega) P9 (fun h10 x10 P10 => ?_))
      rw [nI_add]
      exact ih (i + 1) h10 (by omega) (X9.rp x10) (N9.fz x10) (F9.trans x10) P10
    have go117 : ∀ h9, CR 60 s h9 → NMs s NV NM h9 → Fz WRp (fun _ => False) h0 h9 → RpC (aR2 s NV i (aR1 s NV NM i (aRep s NV NM i))) h9 → At m_X11_writeReport (rI q kk) 117 0 [some (.ref 0), some (.int (nI i))] [] h9 := fun h9 X9 N9 F9 P9 => by
      refine u_X11_writeReport_117 (c_isIn (by omega) ?_)
      rw [show gi h9 60 8 = _ from X9.2.he, bt_mk_in (by omega) hi2]
      refine bq (fun y => go137 h9 X9 N9 F9 ?_) (fun y => c_writeByte (x := 33) (by omega) (by omega) P9 (fun h10 x10 P10 => go137 h10 (X9.rp x10) (N9.fz x10) (F9.trans x10) ?_))
      · unfold aR3
        rw [if_neg (of_decide_eq_false y)]
        exact P9
      · unfold aR3
        rw [if_pos (of_decide_eq_true y)]
        exact P10
    refine c_isUp (Or.inl rfl) R X3.2 hi2 (bp (fun y => ?_) (fun y => go117 h3 X3 N3 F3 ?_))
    · have d : isD s i = true := by
        rw [Bool.not_eq_false'] at y
        exact y
      have en := R.nx i hi2 d
      refine c_writeByte (x := 62) (by omega) (by omega) P3 (fun h4 x4 P4 => ⟨vp_in_nI (by omega) (by omega), ?_⟩)
      have X4 : CR 60 s h4 := X3.rp x4
      have N4 : NMs s NV NM h4 := N3.fz x4
      have ec : com s i = mf s i 2 := by
        unfold com
        rw [d]
      rw [show gi h4 62 i = nI (nn (mf s i 2)) from (X4.2.co i hi2).trans (ec.trans en.1.1)]
      refine c_nameV X4 R en.2 (c_word (N4.1 _ en.2) (by show (aR1 s NV NM i (aRep s NV NM i)).1 + 1 + 8 ≤ 336; omega) P4 (fun h5 x5 P5 => go117 h5 (X4.rp x5) (N4.fz x5) ((F3.trans x4).trans x5) ?_))
      unfold aR2
      rw [if_pos d]
      exact P5
    · have d : ¬ isD s i = true := by
        rw [Bool.not_eq_true'] at y
        rw [y]
        decide
      unfold aR2
      rw [if_neg d]
      exact P3
/-- the class has written the report -/
def WrO (s : RW) (NV NM : Nat → NMW) (h h' : PH) : Prop := Fz WRp (fun _ => False) h h' ∧ RpC (aRep s NV NM (nn (s 2))) h' ∧ NMs s NV NM h
theorem c_writeReport (I : Inv z C E h) (K : ∀ NV NM h', WrO (h.1 132) NV NM h h' → kk (nI (aRep (h.1 132) NV NM (nn (h.1 132 2))).1) h') : MetPM m_X11_writeReport [.ref 0] h (rI q kk) := by
  obtain ⟨NV, hV⟩ := nmF_ex (n := nn (h.1 132 0)) (f := fun i => gl h 17 i) (g := fun i => gl h 137 i) I.inn.1
  obtain ⟨NM, hM⟩ := nmF_ex (n := nn (h.1 132 2)) (f := fun i => gl h 27 i) (g := fun i => gl h 137 (13 + i)) I.inn.2.2.1
  have N : NMs (h.1 132) NV NM h := ⟨hV, hM⟩
  have x0 : Fz WRp (fun _ => False) h (si h 0 10 (nI 0)) := Fz.si h _ (Or.inl ⟨rfl, rfl⟩)
  exact t_X11_writeReport (l_wr I.ic.1 (fun h1 x1 P1 => K NV NM h1 ⟨x1, P1, N⟩) _ 0 _ (Nat.zero_add _) (I.ic.2.rp x0) (N.fz x0) x0 ⟨gi_same, fun j hj => absurd hj (Nat.not_lt_zero j)⟩)
def WRw (b k : Nat) : Prop := (b = 130 ∧ (k = 0 ∨ k = 38 ∨ k = 39)) ∨ b = 146
theorem FQw (x : Fz WRq (fun _ => False) h h') : Fz WRw (fun _ => False) h h' := x.mono (fun b k y => by unfold WRq at y; unfold WRw; omega) (fun _ y => y)
theorem l_mwr (R : Rk C E s) (K : ∀ h', Fz WRq (fun _ => False) h0 h' → RpM (aRep s NV NM (nn (s 2))) h' → kk (nI (aRep s NV NM (nn (s 2))).1) h') : ∀ k i h, i + k = nn (s 2) → h.1 132 = s → NMs s NV NM h → Fz WRq (fun _ => False) h0 h → RpM (aRep s NV NM i) h → At m_X12_writeReport (rI q kk) 17 0 [some (.ref 130), some (.int (nI i))] [] h := by
  intro k
  induction k with
  | zero =>
    intro i h hi hs N F P
    have hm := R.m.2
    have ei : i = nn (s 2) := by omega
    subst ei
    refine u_X12_writeReport_17 ⟨rv (by omega), ?_⟩
    rw [rd hs 2 (by omega), show s 2 = nI (nn (s 2)) from R.m.1, nn_nI (by omega), P.1]
    exact pk_le (nn (s 2)) (nn (s 2)) (fun _ => K h F P) (fun y => absurd y (by omega))
  | succ k ih =>
    intro i h hi hs N F P
    have hm := R.m.2
    have h8 := R.v.2
    have hi2 : i < nn (s 2) := by omega
    have l0 := aRep_le R N i (by omega)
    have l1 := aR1_le (P := aRep s NV NM i) R N hi2
    have l2 := aR2_le (P := aR1 s NV NM i (aRep s NV NM i)) R N hi2
    have l3 := aR3_le (s := s) (i := i) (P := aR2 s NV i (aR1 s NV NM i (aRep s NV NM i)))
    have ev := R.ve i hi2
    have o132 : ∀ h1 h2 : PH, Fz WRq (fun _ => False) h1 h2 → h2.1 132 = h1.1 132 := fun h1 h2 x => x.cell (fun k => by unfold WRq; omega)
    refine u_X12_writeReport_17 ⟨rv (by omega), ?_⟩
    rw [rd hs 2 (by omega), R.m.1]
    refine pk_le (nn (s 2)) i (fun y => absurd y (by omega)) (fun _ => ?_)
    rw [nI_add, cl (by omega)]
    refine ⟨vp_in_nI (by omega) (by omega), s_word (N.2 i hi2) (by omega) P (fun h1 x1 P1 => s_tell (x := 32) (by omega) P1 (fun h2 x2 P2 => ?_))⟩
    have s2 : h2.1 132 = s := ((o132 _ _ x2).trans (o132 _ _ x1)).trans hs
    have N2 : NMs s NV NM h2 := (N.fz x1).fz x2
    refine s_of s2 (by omega) ?_
    rw [ev.1.1, nI_add, Nat.zero_add, cl (by have := ev.1.2; omega)]
    refine ⟨vp_in_nI (by have := ev.1.2; omega) (by omega), s_word (N2.1 _ ev.2) (by show (aWd _ _).1 + 1 + 8 ≤ 400; omega) P2 (fun h3 x3 P3 => ?_)⟩
    have s3 : h3.1 132 = s := (o132 _ _ x3).trans s2
    have N3 : NMs s NV NM h3 := N2.fz x3
    have F3 := ((F.trans x1).trans x2).trans x3
    have P3 : RpM (aR1 s NV NM i (aRep s NV NM i)) h3 := P3
    have go118 : ∀ h9 : PH, h9.1 132 = s → NMs s NV NM h9 → Fz WRq (fun _ => False) h0 h9 → RpM (aR3 s i (aR2 s NV i (aR1 s NV NM i (aRep s NV NM i)))) h9 → At m_X12_writeReport (rI q kk) 118 0 [some (.ref 130), some (.int (nI i))] [] h9 := fun h9 s9 N9 F9 P9 => by
      refine u_X12_writeReport_118 (s_tell (x := 10) (by omega) P9 (fun h10 x10 P10 => ?_))
      rw [nI_add]
      exact ih (i + 1) h10 (by omega) ((o132 _ _ x10).trans s9) (N9.fz x10) (F9.trans x10) P10
    have go102 : ∀ h9 : PH, h9.1 132 = s → NMs s NV NM h9 → Fz WRq (fun _ => False) h0 h9 → RpM (aR2 s NV i (aR1 s NV NM i (aRep s NV NM i))) h9 → At m_X12_writeReport (rI q kk) 102 0 [some (.ref 130), some (.int (nI i))] [] h9 := fun h9 s9 N9 F9 P9 => by
      refine u_X12_writeReport_102 (s_of s9 (by omega) ⟨fun y => go118 h9 s9 N9 F9 ?_, fun y => s_tell (x := 33) (by omega) P9 (fun h10 x10 P10 => go118 h10 ((o132 _ _ x10).trans s9) (N9.fz x10) (F9.trans x10) ?_)⟩)
      · unfold aR3
        rw [if_neg y]
        exact P9
      · unfold aR3
        rw [if_pos y]
        exact P10
    refine s_isDown s3 (by omega) (bq (fun y => ?_) (fun y => ?_))
    · refine u_X12_writeReport_77 (s_isDown s3 (by omega) (bq (fun _ => go102 h3 s3 N3 F3 ?_) (fun y2 => by rw [y] at y2; cases y2)))
      unfold aR2
      rw [if_neg (by rw [y]; decide)]
      exact P3
    · have en := R.nx i hi2 y
      refine s_tell (x := 62) (by omega) P3 (fun h4 x4 P4 => ?_)
      have s4 : h4.1 132 = s := (o132 _ _ x4).trans s3
      have N4 : NMs s NV NM h4 := N3.fz x4
      refine u_X12_writeReport_77 (s_isDown s4 (by omega) (bq (fun y2 => by rw [y] at y2; cases y2) (fun _ => s_of s4 (by omega) ?_)))
      rw [en.1.1, nI_add, Nat.zero_add, cl (by have := en.1.2; omega)]
      refine ⟨vp_in_nI (by have := en.1.2; omega) (by omega), s_word (N4.1 _ en.2) (by show (aR1 s NV NM i (aRep s NV NM i)).1 + 1 + 8 ≤ 400; omega) P4 (fun h5 x5 P5 => go102 h5 ((o132 _ _ x5).trans s4) (N4.fz x5) ((F3.trans x4).trans x5) ?_)⟩
      unfold aR2
      rw [if_pos y]
      exact P5
theorem s_writeReport {h0 : PH} (I : Inv z C E h0) (U : WrO (h0.1 132) NV NM h0 h) (K : ∀ h', Inv z C E h' → kk (nI (aRep (h0.1 132) NV NM (nn (h0.1 132 2))).1) h') : MetPM m_X12_writeReport [.ref 130] h (rI q kk) := by
  obtain ⟨x, P, N⟩ := U
  have R := I.ic.1
  have hm := R.m.2
  have le := aRep_le R N (nn (h0.1 132 2)) (Nat.le_refl _)
  have e132 : h.1 132 = h0.1 132 := x.cell (fun k => by unfold WRp; omega)
  have x0 : Fz WRw (fun _ => False) h (si (si (si h 130 0 (nI 0)) 130 38 (nI 0)) 130 39 (nI 1)) := ((Fz.si h _ (Or.inl ⟨rfl, by omega⟩)).trans (Fz.si _ _ (Or.inl ⟨rfl, by omega⟩))).trans (Fz.si _ _ (Or.inl ⟨rfl, by omega⟩))
  have a38 : gi (si (si (si h 130 0 (nI 0)) 130 38 (nI 0)) 130 39 (nI 1)) 130 38 = nI 0 := by rw [gi_ok (by omega), gi_same]
  have a39 : gi (si (si (si h 130 0 (nI 0)) 130 38 (nI 0)) 130 39 (nI 1)) 130 39 = nI 1 := gi_same
  refine t_X12_writeReport ⟨isB_1, ?_⟩
  generalize si (si (si h 130 0 (nI 0)) 130 38 (nI 0)) 130 39 (nI 1) = h1 at x0 a38 a39
  refine l_mwr (h0 := h1) R (fun h2 x2 P2 => ?_) _ 0 h1 (Nat.zero_add _) ((x0.cell (fun k => by unfold WRw; omega)).trans e132) ((N.fz x).fz x0) (Fz.refl _ _ _) ⟨a38, fun j hj => absurd hj (Nat.not_lt_zero j)⟩
  have fm : Fz WRw (fun _ => False) h h2 := x0.trans (FQw x2)
  have fz : Fz (fun b k => WRp b k ∨ WRw b k) (fun _ => False) h0 h2 := (x.mono (fun b k y => Or.inl y) (fun _ y => y)).trans (fm.mono (fun b k y => Or.inr y) (fun _ y => y))
  have e132' : h2.1 132 = h0.1 132 := fz.cell (fun k => by unfold WRp WRw; omega)
  refine K h2 ⟨⟨by rw [e132']; exact R, by
    rw [e132']
    exact I.ic.2.heap fun b hb => fz.cell fun k => by unfold WRp WRw; omega⟩, I.it.fz fz (fun k _ _ => by unfold WRp WRw; omega) (fun k => by unfold WRp WRw; omega) (fun k => by unfold WRp WRw; omega) (fun k hk => by unfold WRp WRw; omega), NmR.fz fz (fun y => y) (fun y => y) (fun y => y) (fun y => y) (by rw [e132']) (by rw [e132']) (by rw [e132']) I.inn, I.is.fz fz (by unfold WRp WRw; omega) (by unfold WRp WRw; omega) (fun k => by unfold WRp WRw; omega) (fun b k hb => by unfold WRp WRw; omega) (fun y => y) (fun y => y) (fun y => y) (fun y => y), I.ih.fz fz (fun k => by unfold WRp WRw; omega) (by unfold WRp WRw; omega) (fun k => by unfold WRp WRw; omega) (fun b k hb => by unfold WRp WRw; omega), ?_, I.iz.fz fz (fun k => by unfold WRp WRw; omega) (fun k => by unfold WRp WRw; omega) (by unfold WRp WRw; omega)⟩
  have f39 : gi h2 130 39 = 1 := (x2.1 130 39 (by unfold WRq; omega)).trans a39
  refine ⟨(aRep (h0.1 132) NV NM (nn (h0.1 132 2))).1, by omega, ?_, ?_, fun _ => P2.1, fun y => ?_, fun j hj => ?_⟩
  · rw [fm.1 0 10 (by unfold WRw; omega)]; exact P.1
  · rw [f39]; exact Or.inr rfl
  · rw [f39] at y
    exact absurd y (by decide)
  · rw [fm.1 3 j (by unfold WRw; omega), P2.2 j hj]
    exact P.2 j hj
/-! reportByte -/
def inB (r : Nat) (x : Int32) : Bool := inR x 0 ((r : Int) - 1)
theorem c_reportByte {x : Int32} (hr : r ≤ 336) (e : gi h 0 10 = nI r) (K0 : inB r x = false → q 2 h) (K1 : inB r x = true → kk (gi h 3 (nn x)) h) : MetPM m_X11_reportByte [.ref 0, .int x] h (rI q kk) := by
  refine t_X11_reportByte ?_
  rw [e]
  have key : inB r x = true ↔ ¬ x < 0 ∧ x < nI r := by
    constructor
    · intro y
      obtain ⟨j, hj, ej⟩ := inR_t (by omega) y
      subst ej
      exact ⟨nI_nlt (a := j) (b := 0) (by omega) (by omega), nI_lt hj (by omega)⟩
    · intro ⟨y1, y2⟩
      obtain ⟨j, hj, ej⟩ := nI_of y1
      subst ej
      exact inR_j ((nI_ltI (by omega) (by omega)).mp y2) (by omega)
  refine ⟨fun y => ⟨Nat.le_of_ble_eq_true rfl, K0 ?_⟩, fun y => ⟨fun y2 => ?_, fun y2 => ⟨Nat.le_of_ble_eq_true rfl, K0 ?_⟩⟩⟩
  · cases d : inB r x
    · rfl
    · exact absurd y (key.mp d).1
  · have d := key.mpr ⟨y, y2⟩
    have K := K1 d
    obtain ⟨j, hj, ej⟩ := inR_t (by omega) d
    subst ej
    rw [nn_nI (by omega)] at K
    rw [cl (by omega)]
    exact ⟨vp_in_nI (by omega) (by omega), K⟩
  · cases d : inB r x
    · rfl
    · exact absurd (key.mp d).2 y2
theorem s_reportByte {x : Int32} (hr : r ≤ 336) (ib : isB (gi h 130 39)) (e1 : gi h 130 39 = 1 → gi h 130 38 = nI r) (e0 : gi h 130 39 = 0 → r = 0) (K0 : inB r x = false → kk (nI 0) (si h 130 0 (nI 1))) (K1 : inB r x = true → kk (gi h 146 (nn x)) (si h 130 0 (nI 0))) : MetPM m_X12_reportByte [.ref 130, .int x] h (rI q kk) := by
  refine t_X12_reportByte ⟨fun y => s_goes (b := false) ⟨fun _ => K0 ?_, fun y2 => absurd rfl y2⟩, fun y => ?_⟩
  · cases d : inB r x
    · rfl
    · obtain ⟨j, hj, ej⟩ := inR_t (by omega) d
      rw [e0 y] at hj
      omega
  · have y1 : gi h 130 39 = 1 := by
      rcases ib with z | z
      · exact absurd z y
      · exact z
    refine s_isInC (n := r) (by omega) (e1 y1) (bq (fun d => ?_) (fun d => ?_))
    · exact s_goes (b := false) ⟨fun _ => K0 d, fun y2 => absurd rfl y2⟩
    · refine s_goes (b := true) ⟨fun y2 => absurd y2 (by decide), fun _ => ?_⟩
      have K := K1 d
      obtain ⟨j, hj, ej⟩ := inR_t (by omega) d
      subst ej
      rw [nn_nI (by omega)] at K
      rw [cl (by omega)]
      refine ⟨vp_in_nI (by omega) (by omega), ?_⟩
      rw [gi_ob (by omega)]
      exact K
end
