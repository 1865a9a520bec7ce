/-! ===== the public changes: each call ===== -/
section
variable {q : Nat → PH → Prop} {kk : Int32 → PH → Prop} {kv : PH → Prop} {h h' : PH} {s t s' : RW} {C E D F : Nat} {a u w : Nat} {f g z : FI}
/-- the class keeps its state -/
theorem c_keepI (I : Inv z C E h) (K : ∀ u w h1, IHb C E u w h → KpC u w h h1 → CR 60 (h.1 132) h1 → kv h1) : MetPM m_X4_keep [.ref 13, .ref 60] h (rV q kv) := by
  obtain ⟨u, w, b⟩ := I.ih
  obtain ⟨b1, b2, b3, b4, b5, b6, b7⟩ := b
  refine c_keep b1 b2 b3 b4 b6 I.ic.2.2.ib (fun h1 k1 => K u w h1 ⟨b1, b2, b3, b4, b5, b6, b7⟩ k1 ?_)
  have ew : (w + 1) % 6 < 6 := Nat.mod_lt _ (by omega)
  exact I.ic.2.heap fun b hb => k1.2.2.2.2 b (by omega) (by omega)
theorem mayP_t {x : Int32} (e : mayP s x = true) : x = nI (nn x) ∧ nn x ≤ 999 := by
  unfold mayP at e
  rw [Bool.and_eq_true] at e
  have := inR_n (a := 0) (b := 999) (by omega) e.1
  exact ⟨this.1, this.2.2⟩
theorem c_pass {x : Int32} (I : Inv z C E h) (hC : C + 999 < 2 ^ 29) (hE : E + 30 * 999 < 2 ^ 31) (K0 : mayP (h.1 132) x = false → q 1 h) (K1 : mayP (h.1 132) x = true → ∀ u w h2, Mid z C E (C + 999) (E + 30 * 999) (h.1 132) (itS (nn x) (h.1 132)) u w h2 → kk (itS (nn x) (h.1 132) 11) h2) : MetPM m_X11_pass [.ref 0, .int x] h (rI q kk) := by
  refine t_X11_pass (c_canPass (Or.inl rfl) I.ic.2 (bp (fun e => ⟨Nat.le_of_ble_eq_true rfl, K0 e⟩) (fun e => c_keepI I (fun u w h1 b1 k1 X1 => ?_))))
  have K := K1 e u w
  obtain ⟨e1, e2⟩ := mayP_t e
  generalize nn x = n at K e1 e2
  subst e1
  exact c_passMinutes (Or.inl rfl) I.ic.1 (by omega) (by omega) X1 (fun h2 f2 X2 => K h2 (Mid.of I b1 k1 f2 X2 ((I.ic.1.it n (by omega) (by omega)).mono (by omega) (by omega)) (by omega) (by omega) (it_ag n)))
theorem s_pass {x : Int32} (e : mayP s x = true) (hC : C + 999 < 2 ^ 29) (hE : E + 30 * 999 < 2 ^ 31) (M : Mid z C E (C + 999) (E + 30 * 999) s (itS (nn x) s) u w h) (K : ∀ h', Inv z (C + 999) (E + 30 * 999) h' → gi h' 130 0 = nI 0 → h'.2.1 147 = h.2.1 147 → kk (itS (nn x) s 11) h') : MetPM m_X12_pass [.ref 130, .int x] h (rI q kk) := by
  have hs := M.1.1
  have e' : mayP (h.1 132) x = true := by rw [hs]; exact e
  refine t_X12_pass (s_mayPass hs (s_gate (fun c => by rw [e] at c; cases c) (fun _ => g1 (s_laysAside (fun h1 f1 a1 => ?_)))))
  obtain ⟨e1, e2⟩ := mayP_t e
  generalize nn x = n at M K e1 e2
  subst e1
  have r1 : h1.1 132 = s := (f1.cell fun k => rfl).trans (hs0 hs)
  refine s_passes M.1.2.1 (by omega) (by omega) r1 (fun h2 f2 r2 => s_kept M.2.2.1 ?_ (fun h3 k3 => ?_))
  · rw [f2.1 130 21 rfl, f1.1 130 21 rfl, gi_ok (by omega)]; exact M.2.2.2.2.2.2.1
  · have T := M.run f1 a1 f2 r2 k3
    exact K h3 T.1 T.2.1 T.2.2
theorem s_pass0 {x : Int32} (e : mayP s x = false) (hs : h.1 132 = s) (K : kk (nI 0) (si h 130 0 (nI 1))) : MetPM m_X12_pass [.ref 130, .int x] h (rI q kk) :=
  t_X12_pass (s_mayPass hs (s_gate (fun _ => g0 K) (fun c => by rw [e] at c; cases c)))
theorem WR_M {h h' : PH} (f : Fr WR h h') : Fr WM h h' := f.mono fun b k e => WR_WM e
/-! start -/
theorem c_start {x : Int32} (I : Inv z C E h) (hE : E + 2 < 2 ^ 31) (K0 : inV (h.1 132) x = false → q 2 h) (K2 : inV (h.1 132) x = true → mayS (h.1 132) = false → q 0 h) (K1 : inV (h.1 132) x = true → mayS (h.1 132) = true → ∀ u w h2, Mid z C E C (E + 2) (h.1 132) (staS (h.1 132) (nn x)) u w h2 → kk (staR (h.1 132) (nn x)) h2) : MetPM m_X11_start [.ref 0, .int x] h (rI q kk) := by
  refine t_X11_start ⟨Nat.le_of_ble_eq_true rfl, c_needVersion I.ic.1 I.ic.2.1 K0 (fun e => c_canStart (Or.inl rfl) I.ic.2 (bp (fun e5 => ⟨Nat.le_of_ble_eq_true rfl, K2 e e5⟩) (fun e5 => c_keepI I (fun u w h1 b1 k1 X1 => ?_))))⟩
  have K := K1 e e5 u w
  obtain ⟨e1, e2⟩ := inV_t I.ic.1 e
  generalize nn x = n at K e1 e2
  subst e1
  exact c_startPlan (Or.inl rfl) I.ic.1 (by omega) X1 e2 (fun h2 f2 X2 => K h2 (Mid.of I b1 k1 f2 X2 (I.ic.1.sta hE e2 (mayS_w I.ic.1 e5)) (by omega) (by omega) sta_ag))
theorem s_start {x : Int32} (e : inV s x = true) (e5 : mayS s = true) (hE : E + 2 < 2 ^ 31) (M : Mid z C E C (E + 2) s (staS s (nn x)) u w h) (K : ∀ h', Inv z C (E + 2) h' → gi h' 130 0 = nI 0 → h'.2.1 147 = h.2.1 147 → kk (staR s (nn x)) h') : MetPM m_X12_start [.ref 130, .int x] h (rI q kk) := by
  have hs := M.1.1
  have R := M.1.2.1
  refine t_X12_start (s_isV R hs (s_mayStart hs (s_gate2 (fun c => by rw [e] at c; cases c) (fun _ c => by rw [e5] at c; cases c) (fun _ _ => g1 (s_laysAside (fun h1 f1 a1 => ?_))))))
  obtain ⟨e1, e2⟩ := inV_t R e
  generalize nn x = n at M K e1 e2
  subst e1
  have r1 : h1.1 132 = s := (f1.cell fun k => rfl).trans (hs0 hs)
  refine s_starts R (by omega) r1 e2 (fun h2 f2 r2 => s_kept M.2.2.1 ?_ (fun h3 k3 => ?_))
  · rw [f2.1 130 21 rfl, f1.1 130 21 rfl, gi_ok (by omega)]; exact M.2.2.2.2.2.2.1
  · have T := M.run f1 a1 (WR_M f2) r2 k3
    exact K h3 T.1 T.2.1 T.2.2
theorem s_start0 {x : Int32} (R : Rk C E s) (hs : h.1 132 = s) (K0 : inV s x = false → kk (nI 0) (si h 130 0 (nI 1))) (K2 : inV s x = true → mayS s = false → kk (nI 0) (si h 130 0 (nI 2))) (n : ¬ (inV s x = true ∧ mayS s = true)) : MetPM m_X12_start [.ref 130, .int x] h (rI q kk) :=
  t_X12_start (s_isV R hs (s_mayStart hs (s_gate2 (fun c => g0 (K0 c)) (fun c d => g0 (K2 c d)) (fun c d => absurd ⟨c, d⟩ n))))
/-! stop, go -/
theorem c_stop (I : Inv z C E h) (hE : E + 1 < 2 ^ 31) (K0 : going (h.1 132) = false → q 0 h) (K1 : going (h.1 132) = true → ∀ u w h2, Mid z C E C (E + 1) (h.1 132) (stopS (h.1 132)) u w h2 → kk (h.1 132 15) h2) : MetPM m_X11_stop [.ref 0] h (rI q kk) :=
  t_X11_stop (c_isActive (Or.inl rfl) I.ic.2.2 (bp (fun e => ⟨Nat.le_of_ble_eq_true rfl, K0 e⟩) (fun e => c_keepI I (fun u w h1 b1 k1 X1 => c_stopPlan (Or.inl rfl) I.ic.1 (by omega) e X1 (fun h2 f2 X2 => K1 e u w h2 (Mid.of I b1 k1 f2 X2 (I.ic.1.stop (by omega) e) (by omega) (by omega) stop_ag))))))
theorem s_stop (e : going s = true) (hE : E + 1 < 2 ^ 31) (M : Mid z C E C (E + 1) s (stopS s) u w h) (K : ∀ h', Inv z C (E + 1) h' → gi h' 130 0 = nI 0 → h'.2.1 147 = h.2.1 147 → kk (s 15) h') : MetPM m_X12_stop [.ref 130] h (rI q kk) := by
  have hs := M.1.1
  have R := M.1.2.1
  refine t_X12_stop (s_isGoing hs (s_gate (fun c => by rw [e] at c; cases c) (fun _ => g1 (s_laysAside (fun h1 f1 a1 => ?_)))))
  have r1 : h1.1 132 = s := (f1.cell fun k => rfl).trans (hs0 hs)
  refine s_stops r1 R.ev (by omega) (fun h2 f2 r2 => ⟨rv (by omega), s_kept M.2.2.1 ?_ (fun h3 k3 => ?_)⟩)
  · rw [f2.1 130 21 rfl, f1.1 130 21 rfl, gi_ok (by omega)]; exact M.2.2.2.2.2.2.1
  · have T := M.run f1 a1 (WR_M f2) r2 k3
    have K := K h3 T.1 T.2.1 T.2.2
    rw [rd r2 15 (by omega)]
    have e15 : stopS s 15 = s 15 := by unfold stopS; rw [evS_lo (by omega) (by omega), ups_n (by omega), ups_n (by omega)]
    rw [e15]; exact K
theorem s_stop0 (hs : h.1 132 = s) (e : going s = false) (K : kk (nI 0) (si h 130 0 (nI 1))) : MetPM m_X12_stop [.ref 130] h (rI q kk) :=
  t_X12_stop (s_isGoing hs (s_gate (fun _ => g0 K) (fun c => by rw [e] at c; cases c)))
theorem c_go (I : Inv z C E h) (hE : E + 1 < 2 ^ 31) (K0 : ¬ h.1 132 12 = nI 3 → q 0 h) (K1 : h.1 132 12 = nI 3 → ∀ u w h2, Mid z C E C (E + 1) (h.1 132) (gonS (h.1 132)) u w h2 → kk (h.1 132 15) h2) : MetPM m_X11_go [.ref 0] h (rI q kk) := by
  refine t_X11_go ?_
  rw [show gi h 60 9 = h.1 132 12 from I.ic.2.2.st]
  exact ⟨fun e => c_keepI I (fun u w h1 b1 k1 X1 => c_resumePlan (Or.inl rfl) I.ic.1 (by omega) e X1 (fun h2 f2 X2 => K1 e u w h2 (Mid.of I b1 k1 f2 X2 (I.ic.1.gon (by omega) e) (by omega) (by omega) gon_ag))), fun e => ⟨Nat.le_of_ble_eq_true rfl, K0 e⟩⟩
theorem s_go (e : s 12 = nI 3) (hE : E + 1 < 2 ^ 31) (M : Mid z C E C (E + 1) s (gonS s) u w h) (K : ∀ h', Inv z C (E + 1) h' → gi h' 130 0 = nI 0 → h'.2.1 147 = h.2.1 147 → kk (s 15) h') : MetPM m_X12_go [.ref 130] h (rI q kk) := by
  have hs := M.1.1
  have R := M.1.2.1
  refine t_X12_go ⟨rv (by omega), ?_⟩
  rw [rd hs 12 (by omega)]
  refine ⟨fun c => absurd e c, fun _ => s_gate (b := true) (fun c => by cases c) (fun _ => g1 (s_laysAside (fun h1 f1 a1 => ?_)))⟩
  have r1 : h1.1 132 = s := (f1.cell fun k => rfl).trans (hs0 hs)
  refine s_goesOn R (by omega) r1 (fun h2 f2 r2 => s_kept M.2.2.1 ?_ (fun h3 k3 => ?_))
  · rw [f2.1 130 21 rfl, f1.1 130 21 rfl, gi_ok (by omega)]; exact M.2.2.2.2.2.2.1
  · have T := M.run f1 a1 (WR_M f2) r2 k3
    exact K h3 T.1 T.2.1 T.2.2
theorem s_go0 (hs : h.1 132 = s) (e : ¬ s 12 = nI 3) (K : kk (nI 0) (si h 130 0 (nI 1))) : MetPM m_X12_go [.ref 130] h (rI q kk) := by
  refine t_X12_go ⟨rv (by omega), ?_⟩
  rw [rd hs 12 (by omega)]
  exact ⟨fun _ => s_gate (b := false) (fun _ => g0 K) (fun c => by cases c), fun c => absurd c e⟩
/-! hold -/
def hldB (s : RW) (x : Int32) (b : Bool) : Bool := !decide (decide (mf s (nn x) 5 = nI 1) = b)
theorem c_hold {x : Int32} {b : Bool} (I : Inv z C E h) (hE : E + 1 < 2 ^ 31) (K0 : inM (h.1 132) x = false → q 2 h) (K2 : inM (h.1 132) x = true → hldB (h.1 132) x b = false → q 0 h) (K1 : inM (h.1 132) x = true → hldB (h.1 132) x b = true → ∀ u w h2, Mid z C E C (E + 1) (h.1 132) (hldS (h.1 132) (nn x) b) u w h2 → kk (nI (hldN (hldS (h.1 132) (nn x) b))) h2) : MetPM m_X11_hold [.ref 0, .int x, .int (b2i b)] h (rI q kk) := by
  have hm2 := I.ic.1.m.2
  refine t_X11_hold ⟨Nat.le_of_ble_eq_true rfl, c_needMember I.ic.1 I.ic.2.1 K0 (fun e => ?_)⟩
  have L1 := K1 e
  have L2 := K2 e
  obtain ⟨e1, e2⟩ := inM_t I.ic.1 e
  unfold hldB at L1 L2
  generalize nn x = n at L1 L2 e1 e2
  subst e1
  refine c_isIn (by omega) ?_
  rw [show gi h 60 8 = _ from I.ic.2.2.he, bt_mk_in (by omega) e2]
  have yes : decide (mf (h.1 132) n 5 = nI 1) ≠ b → _ := fun c => c_keepI (q := q) (kv := fun h4 => MetPM m_X8_setHeld [.ref 60, .int (nI n), .int (b2i b)] h4 (rI q kk)) I (fun u w h1 b1 k1 X1 => c_setHeld (Or.inl rfl) I.ic.1 (by omega) X1 e2 (fun h2 f2 X2 => L1 (by rw [decide_eq_false c]; rfl) u w h2 (Mid.of I b1 k1 f2 X2 (I.ic.1.hld (by omega) e2) (by omega) (by omega) hld_ag)))
  have inj : ∀ b c : Bool, b2i b = b2i c ↔ b = c := by decide
  refine ⟨fun c => ?_, fun c => ⟨Nat.le_of_ble_eq_true rfl, L2 (by rw [decide_eq_true ((inj _ _).mp c)]; rfl)⟩⟩
  exact yes (fun y => c ((inj _ _).mpr y))
theorem s_hold {x : Int32} {b : Bool} (e : inM s x = true) (e5 : hldB s x b = true) (hE : E + 1 < 2 ^ 31) (M : Mid z C E C (E + 1) s (hldS s (nn x) b) u w h) (K : ∀ h', Inv z C (E + 1) h' → gi h' 130 0 = nI 0 → h'.2.1 147 = h.2.1 147 → kk (nI (hldN (hldS s (nn x) b))) h') : MetPM m_X12_hold [.ref 130, .int x, .int (b2i b)] h (rI q kk) := by
  have hs := M.1.1
  have R := M.1.2.1
  have hm2 := R.m.2
  refine t_X12_hold (s_isM R hs (bq (fun c => by rw [e] at c; cases c) (fun _ => ?_)))
  rw [e]
  obtain ⟨e1, e2⟩ := inM_t R e
  unfold hldB at e5
  generalize nn x = n at M K e1 e2 e5
  subst e1
  refine s_of hs (by omega) (s_truth ?_)
  rw [he_eq R e2]
  have inj : ∀ b c : Bool, b2i b = b2i c ↔ b = c := by decide
  have ne : ¬ decide (mf s n 5 = nI 1) = b := by
    rw [Bool.not_eq_true', decide_eq_false_iff_not] at e5; exact e5
  refine ⟨fun c => absurd ((inj _ _).mp c) ne, fun _ => s_gate2 (b := true) (c := true) (fun c => by cases c) (fun _ c => by cases c) (fun _ _ => g1 (s_laysAside (fun h1 f1 a1 => ?_)))⟩
  have r1 : h1.1 132 = s := (f1.cell fun k => rfl).trans (hs0 hs)
  refine s_holds R (by omega) r1 e2 (fun h2 f2 r2 => s_kept M.2.2.1 ?_ (fun h3 k3 => ?_))
  · rw [f2.1 130 21 rfl, f1.1 130 21 rfl, gi_ok (by omega)]; exact M.2.2.2.2.2.2.1
  · have T := M.run f1 a1 (WR_M f2) r2 k3
    exact K h3 T.1 T.2.1 T.2.2
theorem s_hold0 {x : Int32} {b : Bool} (R : Rk C E s) (hs : h.1 132 = s) (K0 : inM s x = false → kk (nI 0) (si h 130 0 (nI 1))) (K2 : inM s x = true → hldB s x b = false → kk (nI 0) (si h 130 0 (nI 2))) (n : ¬ (inM s x = true ∧ hldB s x b = true)) : MetPM m_X12_hold [.ref 130, .int x, .int (b2i b)] h (rI q kk) := by
  have hm2 := R.m.2
  cases e : inM s x
  · refine t_X12_hold (s_isM R hs (bq (fun _ => ?_) (fun c => by rw [e] at c; cases c)))
    rw [e]
    exact s_gate2 (b := false) (c := false) (fun _ => g0 (K0 e)) (fun c => by cases c) (fun c => by cases c)
  · refine t_X12_hold (s_isM R hs (bq (fun c => by rw [e] at c; cases c) (fun _ => ?_)))
    rw [e]
    have e5 : hldB s x b = false := by
      cases y : hldB s x b
      · rfl
      · exact absurd ⟨e, y⟩ n
    have L2 := K2 e e5
    obtain ⟨e1, e2⟩ := inM_t R e
    unfold hldB at e5
    generalize nn x = j at e1 e2 e5
    subst e1
    refine s_of hs (by omega) (s_truth ?_)
    rw [he_eq R e2]
    have inj : ∀ b c : Bool, b2i b = b2i c ↔ b = c := by decide
    have eq : decide (mf s j 5 = nI 1) = b := by
      rw [Bool.not_eq_false', decide_eq_true_eq] at e5; exact e5
    exact ⟨fun _ => s_gate2 (b := true) (c := false) (fun c => by cases c) (fun _ _ => g0 L2) (fun _ c => by cases c), fun c => absurd ((inj _ _).mpr eq) c⟩
/-! report -/
theorem c_report {x y : Int32} (I : Inv z C E h) (K0 : inM (h.1 132) x = false → q 2 h) (K2 : inM (h.1 132) x = true → inR y 0 999 = false → q 1 h) (K3 : inM (h.1 132) x = true → inR y 0 999 = true → isD (h.1 132) (nn x) = true → q 0 h) (K1 : inM (h.1 132) x = true → inR y 0 999 = true → isD (h.1 132) (nn x) = false → ∀ u w h2, Mid z C E C E (h.1 132) (lyS (h.1 132) (nn x) 4 y) u w h2 → kk (mf (h.1 132) (nn x) 4) h2) : MetPM m_X11_report [.ref 0, .int x, .int y] h (rI q kk) := by
  have hm2 := I.ic.1.m.2
  refine t_X11_report ⟨Nat.le_of_ble_eq_true rfl, c_needMember I.ic.1 I.ic.2.1 K0 (fun e => ⟨Nat.le_of_ble_eq_true rfl, c_needMeasure (K2 e) (fun e5 => ?_)⟩)⟩
  have L1 := K1 e e5
  have L3 := K3 e e5
  obtain ⟨e1, e2⟩ := inM_t I.ic.1 e
  obtain ⟨e6, _, e7⟩ := inR_n (a := 0) (b := 999) (by omega) e5
  generalize nn x = n at L1 L3 e1 e2
  subst e1
  refine c_isUp (Or.inl rfl) I.ic.1 I.ic.2.2 e2 ?_
  refine bp (fun e8 => ⟨Nat.le_of_ble_eq_true rfl, L3 (by rw [Bool.not_eq_false'] at e8; exact e8)⟩) (fun e8 => ?_)
  rw [Bool.not_eq_true'] at e8
  exact c_keepI I (fun u w h1 b1 k1 X1 => c_setMeasure (Or.inl rfl) I.ic.1 X1 e2 (fun h2 f2 X2 => L1 e8 u w h2 (Mid.of I b1 k1 f2 X2 (I.ic.1.ly e2 (Or.inl ⟨rfl, e6, e7⟩)) (Nat.le_refl _) (Nat.le_refl _) (agL_ly (by omega) (by omega)))))
theorem s_report {x y : Int32} (e : inM s x = true) (e5 : inR y 0 999 = true) (e8 : isD s (nn x) = false) (M : Mid z C E C E s (lyS s (nn x) 4 y) u w h) (K : ∀ h', Inv z C E h' → gi h' 130 0 = nI 0 → h'.2.1 147 = h.2.1 147 → kk (mf s (nn x) 4) h') : MetPM m_X12_report [.ref 130, .int x, .int y] h (rI q kk) := by
  have hs := M.1.1
  have R := M.1.2.1
  have hm2 := R.m.2
  refine t_X12_report (s_isM R hs (s_isInR (a := 0) (b := 999) (by omega) (by omega) (s_gate2 (fun c => by rw [e] at c; cases c) (fun _ c => by rw [show inR y ((0 : Nat) : Int) ((999 : Nat) : Int) = true from e5] at c; cases c) (fun _ _ => g1 ?_))))
  obtain ⟨e1, e2⟩ := inM_t R e
  generalize nn x = n at M K e1 e2 e8
  subst e1
  refine s_isDown (hs0 hs) (by omega) (bq (fun _ => ?_) (fun c => by rw [e8] at c; cases c))
  have e0 : si (si h 130 0 (nI 0)) 130 0 (nI 0) = si h 130 0 (nI 0) := by
    unfold si up2
    congr 1
    funext b j
    by_cases c : b = 130
    · by_cases d : j = 0
      · simp [c, d]
      · simp [c, d]
    · simp [c]
  rw [gi_same, e0]
  refine br_t (by decide) (s_laysAside (fun h1 f1 a1 => ?_))
  have r1 : h1.1 132 = s := (f1.cell fun k => rfl).trans (hs0 hs)
  refine s_reports r1 (by omega) (fun h2 f2 r2 => s_kept M.2.2.1 ?_ (fun h3 k3 => ?_))
  · rw [f2.1 130 21 rfl, f1.1 130 21 rfl, gi_ok (by omega)]; exact M.2.2.2.2.2.2.1
  · have T := M.run f1 a1 (WR_M f2) r2 k3
    exact K h3 T.1 T.2.1 T.2.2
theorem s_report0 {x y : Int32} (R : Rk C E s) (hs : h.1 132 = s) (K0 : inM s x = false → kk (nI 0) (si h 130 0 (nI 1))) (K2 : inM s x = true → inR y 0 999 = false → kk (nI 0) (si h 130 0 (nI 2))) (K3 : inM s x = true → inR y 0 999 = true → isD s (nn x) = true → kk (nI 0) (si (si h 130 0 (nI 0)) 130 0 (nI 3))) (n : ¬ (inM s x = true ∧ inR y 0 999 = true ∧ isD s (nn x) = false)) : MetPM m_X12_report [.ref 130, .int x, .int y] h (rI q kk) := by
  have hm2 := R.m.2
  refine t_X12_report (s_isM R hs (s_isInR (a := 0) (b := 999) (by omega) (by omega) (s_gate2 (fun c => g0 (K0 c)) (fun c d => g0 (K2 c d)) (fun c d => g1 ?_))))
  have L3 := K3 c d
  obtain ⟨e1, e2⟩ := inM_t R c
  have n9 : ¬ isD s (nn x) = false := fun y => n ⟨c, d, y⟩
  generalize nn x = j at L3 e1 e2 n9
  subst e1
  refine s_isDown (hs0 hs) (by omega) (bq (fun y => absurd y n9) (fun y => ?_))
  rw [gi_same]
  exact br_f (by decide) (L3 y)
/-! change -/
def chaB (s : RW) (x y : Int32) : Bool := decide (whyN s (nn x) (nn y) = 0)
theorem c_change {x y : Int32} (I : Inv z C E h) (hC : C < 2 ^ 30) (hE : E + 1 < 2 ^ 31) (K0 : (inM (h.1 132) x && inV (h.1 132) y) = false → q 2 h) (K2 : (inM (h.1 132) x && inV (h.1 132) y) = true → chaB (h.1 132) x y = false → q 0 h) (K1 : (inM (h.1 132) x && inV (h.1 132) y) = true → chaB (h.1 132) x y = true → ∀ u w h2, Mid z C E C (E + 1) (h.1 132) (begS (h.1 132) (nn x) y) u w h2 → kk (h.1 132 11 + h.1 132 8) h2) : MetPM m_X11_change [.ref 0, .int x, .int y] h (rI q kk) := by
  have hv8 := I.ic.1.v.2
  refine t_X11_change ⟨Nat.le_of_ble_eq_true rfl, c_needMember I.ic.1 I.ic.2.1 (fun e => K0 (by rw [e]; rfl)) (fun e => ⟨Nat.le_of_ble_eq_true rfl, c_needVersion I.ic.1 I.ic.2.1 (fun e5 => K0 (by rw [e, e5]; rfl)) (fun e5 => ?_)⟩)⟩
  have L1 := K1 (by rw [e, e5]; rfl)
  have L2 := K2 (by rw [e, e5]; rfl)
  obtain ⟨e1, e2⟩ := inM_t I.ic.1 e
  obtain ⟨e3, e4⟩ := inV_t I.ic.1 e5
  unfold chaB at L1 L2
  generalize nn x = j at L1 L2 e1 e2
  have ey : nn y = nn y := rfl
  have hvv : isN y 7 ∧ nn y < nn (h.1 132 0) := ⟨⟨e3, by omega⟩, e4⟩
  have go : whyN (h.1 132) j (nn y) = whyN (h.1 132) j (nn y) := rfl
  have w := why_q (s := h.1 132) (m := j) (v := nn y) (A := MetPM m_X4_keep [.ref 13, .ref 60] h (rV q fun h5 => MetPM m_X8_beginChange [.ref 60, .int x, .int y] h5 (rI q kk))) (B := q 0 h) (fun e8 => by
    subst e1
    exact c_keepI I (fun u w h1 b1 k1 X1 => c_beginChange (Or.inl rfl) I.ic.1 (by omega) X1 e2 hvv.1 (fun h2 f2 X2 => L1 e8 u w h2 (Mid.of I b1 k1 f2 X2 (I.ic.1.beg hC (by omega) e2 hvv) (Nat.le_refl _) (by omega) agL_beg)))) (fun e8 => L2 e8)
  have wn : MetPM m_X8_whyNotBegin [.ref 60, .int x, .int y] h (rI q fun x4 h3 => (x4 = 0 → MetPM m_X4_keep [.ref 13, .ref 60] h3 (rV q fun h5 => MetPM m_X8_beginChange [.ref 60, .int x, .int y] h5 (rI q kk))) ∧ (¬ x4 = 0 → 2 + 1 ≤ m_X11_change.cap ∧ q 0 h3)) := by
    rw [e3, e1]
    refine c_whyNotBegin (Or.inl rfl) I.ic.1 I.ic.2.1 I.ic.2.2 e2 e4 ?_
    rw [← e3, ← e1]
    exact ⟨w.1, fun y => ⟨Nat.le_of_ble_eq_true rfl, w.2 y⟩⟩
  exact wn
theorem s_change {x y : Int32} (e : (inM s x && inV s y) = true) (e8 : chaB s x y = true) (hE : E + 1 < 2 ^ 31) (M : Mid z C E C (E + 1) s (begS s (nn x) y) u w h) (K : ∀ h', Inv z C (E + 1) h' → gi h' 130 0 = nI 0 → h'.2.1 147 = h.2.1 147 → kk (s 11 + s 8) h') : MetPM m_X12_change [.ref 130, .int x, .int y] h (rI q kk) := by
  have hs := M.1.1
  have R := M.1.2.1
  have hm2 := R.m.2
  have hv8 := R.v.2
  refine t_X12_change (s_areThere R hs (bq (fun c => by rw [e] at c; cases c) (fun _ => ?_)))
  rw [e]
  rw [Bool.and_eq_true] at e
  obtain ⟨e1, e2⟩ := inM_t R e.1
  obtain ⟨e3, e4⟩ := inV_t R e.2
  have e9 : whyN s (nn x) (nn y) = 0 := of_decide_eq_true e8
  generalize nn x = j at M K e1 e2 e9
  subst e1
  have fin : MetPM m_X12_goesBoth [.ref 130, .int (b2i true), .int (nI 1)] h (rI q fun x20 h19 => (¬ x20 = 0 → MetPM m_X12_laysAside [.ref 130] h19 (rV q fun h21 => MetPM m_X12_changes [.ref 130, .int (nI j), .int y] h21 (rI q fun x23 h22 => MetPM m_X12_kept [.ref 130, .int x23] h22 (rI q kk)))) ∧ (x20 = 0 → kk (nI 0) h19)) := by
    refine s_gate2 (b := true) (c := true) (fun c => by cases c) (fun _ c => by cases c) (fun _ _ => g1 (s_laysAside (fun h1 f1 a1 => ?_)))
    have r1 : h1.1 132 = s := (f1.cell fun k => rfl).trans (hs0 hs)
    refine s_changes R (by omega) r1 (by omega) (fun h2 f2 r2 => s_kept M.2.2.1 ?_ (fun h3 k3 => ?_))
    · rw [f2.1 130 21 rfl, f1.1 130 21 rfl, gi_ok (by omega)]; exact M.2.2.2.2.2.2.1
    · have T := M.run f1 a1 f2 r2 k3
      exact K h3 T.1 T.2.1 T.2.2
  have wn : ∀ kz : Int32 → PH → Prop, kz (nI 0) h → MetPM m_X12_why [.ref 130, .int (nI j), .int y] h (rI q kz) := fun kz hz => by
    rw [e3]
    refine s_why R hs e2 (by omega) ?_
    rw [e9]; exact hz
  exact wn _ ⟨fun c => absurd rfl c, fun _ => fin⟩
theorem s_change0 {x y : Int32} (R : Rk C E s) (hs : h.1 132 = s) (K0 : (inM s x && inV s y) = false → kk (nI 0) (si h 130 0 (nI 1))) (K2 : (inM s x && inV s y) = true → chaB s x y = false → kk (nI 0) (si h 130 0 (nI 2))) (n : ¬ ((inM s x && inV s y) = true ∧ chaB s x y = true)) : MetPM m_X12_change [.ref 130, .int x, .int y] h (rI q kk) := by
  have hv8 := R.v.2
  cases e : inM s x && inV s y
  · refine t_X12_change (s_areThere R hs (bq (fun _ => ?_) (fun c => by rw [e] at c; cases c)))
    rw [e]
    exact s_gate2 (b := false) (c := false) (fun _ => g0 (K0 e)) (fun c => by cases c) (fun c => by cases c)
  · refine t_X12_change (s_areThere R hs (bq (fun c => by rw [e] at c; cases c) (fun _ => ?_)))
    rw [e]
    have e8 : chaB s x y = false := by
      cases y' : chaB s x y
      · rfl
      · exact absurd ⟨e, y'⟩ n
    have K2 := K2 e e8
    have e9 := e
    rw [Bool.and_eq_true] at e9
    obtain ⟨e1, e2⟩ := inM_t R e9.1
    obtain ⟨e3, e4⟩ := inV_t R e9.2
    have e8 : ¬ whyN s (nn x) (nn y) = 0 := of_decide_eq_false e8
    have h7 := whyN_le (s := s) (m := nn x) (v := nn y)
    have wn : ∀ kz : Int32 → PH → Prop, kz (nI (whyN s (nn x) (nn y))) h → MetPM m_X12_why [.ref 130, .int x, .int y] h (rI q kz) := fun kz hz => by
      have := s_why (q := q) (kk := kz) R hs e2 (v := nn y) (by omega) hz
      rw [← e1, ← e3] at this
      exact this
    refine wn _ ⟨fun _ => s_gate2 (b := true) (c := false) (fun c => by cases c) (fun _ _ => g0 K2) (fun _ c => by cases c), fun c => ?_⟩
    rw [← nI_0, nI_eq (by omega) (by omega)] at c
    exact absurd c e8
/-! commit -/
def comB (s : RW) (x : Int32) : Bool := decide (whyF s x = 0)
theorem whyF_le {x : Int32} : whyF s x ≤ 2 := by
  unfold whyF
  split
  · split <;> omega
  · omega
theorem whyF_q {x : Int32} {A B : Prop} (f : comB s x = true → A) (g : comB s x = false → B) : (nI (whyF s x) = 0 → A) ∧ (¬ nI (whyF s x) = 0 → B) := by
  have h7 := whyF_le (s := s) (x := x)
  rw [← nI_0, nI_eq (by omega) (by omega)]
  exact ⟨fun y => f (decide_eq_true y), fun y => g (decide_eq_false y)⟩
theorem c_commit {x : Int32} (I : Inv z C E h) (hE : E + 1 < 2 ^ 31) (K0 : inR x 1 9 = false → q 1 h) (K2 : inR x 1 9 = true → comB (h.1 132) x = false → q 0 h) (K1 : inR x 1 9 = true → comB (h.1 132) x = true → ∀ u w h2, Mid z C E C (E + 1) (h.1 132) (fmtS (h.1 132) x) u w h2 → kk (h.1 132 5) h2) : MetPM m_X11_commit [.ref 0, .int x] h (rI q kk) := by
  refine t_X11_commit ⟨Nat.le_of_ble_eq_true rfl, c_needFormat K0 (fun e => c_whyNotFormat (Or.inl rfl) I.ic.1 I.ic.2.1 I.ic.2.2 ?_)⟩
  obtain ⟨e1, _, e2⟩ := inR_n (a := 1) (b := 9) (by omega) e
  exact whyF_q (fun e8 => c_keepI I (fun u w h1 b1 k1 X1 => c_setFormat (Or.inl rfl) I.ic.1 (by omega) X1 ⟨e1, e2⟩ (fun h2 f2 X2 => K1 e e8 u w h2 (Mid.of I b1 k1 f2 X2 (I.ic.1.fmt (by omega) ⟨e1, e2⟩) (Nat.le_refl _) (by omega) fmt_ag)))) (fun e8 => ⟨Nat.le_of_ble_eq_true rfl, K2 e e8⟩)
theorem s_commit {x : Int32} (e : inR x 1 9 = true) (e8 : comB s x = true) (hE : E + 1 < 2 ^ 31) (M : Mid z C E C (E + 1) s (fmtS s x) u w h) (K : ∀ h', Inv z C (E + 1) h' → gi h' 130 0 = nI 0 → h'.2.1 147 = h.2.1 147 → kk (s 5) h') : MetPM m_X12_commit [.ref 130, .int x] h (rI q kk) := by
  have hs := M.1.1
  have R := M.1.2.1
  have e' : inR x ((1 : Nat) : Int) ((9 : Nat) : Int) = true := e
  refine t_X12_commit (s_isInR (a := 1) (b := 9) (by omega) (by omega) (bq (fun c => by rw [e'] at c; cases c) (fun _ => ?_)))
  rw [e']
  refine s_whyCommit R hs ?_
  rw [show whyF s x = 0 from of_decide_eq_true e8]
  refine ⟨fun c => absurd rfl c, fun _ => s_gate2 (b := true) (c := true) (fun c => by cases c) (fun _ c => by cases c) (fun _ _ => g1 (s_laysAside (fun h1 f1 a1 => ?_)))⟩
  have r1 : h1.1 132 = s := (f1.cell fun k => rfl).trans (hs0 hs)
  refine s_commits R (by omega) r1 (fun h2 f2 r2 => s_kept M.2.2.1 ?_ (fun h3 k3 => ?_))
  · rw [f2.1 130 21 rfl, f1.1 130 21 rfl, gi_ok (by omega)]; exact M.2.2.2.2.2.2.1
  · have T := M.run f1 a1 (WR_M f2) r2 k3
    exact K h3 T.1 T.2.1 T.2.2
theorem s_commit0 {x : Int32} (R : Rk C E s) (hs : h.1 132 = s) (K0 : inR x 1 9 = false → kk (nI 0) (si h 130 0 (nI 1))) (K2 : inR x 1 9 = true → comB s x = false → kk (nI 0) (si h 130 0 (nI 2))) (n : ¬ (inR x 1 9 = true ∧ comB s x = true)) : MetPM m_X12_commit [.ref 130, .int x] h (rI q kk) := by
  cases e : inR x 1 9
  · have e' : inR x ((1 : Nat) : Int) ((9 : Nat) : Int) = false := e
    refine t_X12_commit (s_isInR (a := 1) (b := 9) (by omega) (by omega) (bq (fun _ => ?_) (fun c => by rw [e'] at c; cases c)))
    rw [e']
    exact s_gate2 (b := false) (c := false) (fun _ => g0 (K0 e)) (fun c => by cases c) (fun c => by cases c)
  · have e' : inR x ((1 : Nat) : Int) ((9 : Nat) : Int) = true := e
    refine t_X12_commit (s_isInR (a := 1) (b := 9) (by omega) (by omega) (bq (fun c => by rw [e'] at c; cases c) (fun _ => ?_)))
    rw [e']
    have e8 : comB s x = false := by
      cases y : comB s x
      · rfl
      · exact absurd ⟨e, y⟩ n
    refine s_whyCommit R hs ?_
    have w := whyF_q (s := s) (x := x) (A := False) (B := True) (fun c => by rw [e8] at c; cases c) (fun _ => trivial)
    exact ⟨fun _ => s_gate2 (b := true) (c := false) (fun c => by cases c) (fun _ _ => g0 (K2 e e8)) (fun _ c => by cases c), fun c => (w.1 c).elim⟩
end
