/-! ===== the public changes: each call ===== -/
section
variable {q : Nat → PH → Prop} {kk : Int32 → PH → Prop} {kv : PH → Prop} {h h' : PH} {s t s' : RW} {C E D F : Nat} {a u w : Nat} {f g z : FI}
/-- the class keeps its state -/
theorem c_keepI (I : Inv z C E h) (K : ∀ u w h1, IHb C E u w h → KpC u w h h1 → CR 60 (h.1 132) h1 → kv h1) : MetPM m_X4_keep [.ref 13, .ref 60] h (rV q kv) := by
  obtain ⟨u, w, b⟩ := I.ih
  obtain ⟨b1, b2, b3, b4, b5, b6, b7⟩ := b
  refine c_keep b1 b2 b3 b4 b6 I.ic.2.2.ib (fun h1 k1 => K u w h1 ⟨b1, b2, b3, b4, b5, b6, b7⟩ k1 ?_)
  have ew : (w + 1) % 6 < 6 := Nat.mod_lt _ (by omega)
  exact I.ic.2.heap fun b hb => k1.2.2.2.2 b (by omega) (by omega)
theorem mayP_t {x : Int32} (e : mayP s x = true) : x = nI (nn x) ∧ nn x ≤ 999 := by
  unfold mayP at e
  rw [Bool.and_eq_true] at e
  have := inR_n (a := 0) (b := 999) (by omega) e.1
  exact ⟨this.1, this.2.2⟩
theorem c_pass {x : Int32} (I : Inv z C E h) (hC : C + 999 < 2 ^ 29) (hE : E + 30 * 999 < 2 ^ 31) (K0 : mayP (h.1 132) x = false → q 1 h) (K1 : mayP (h.1 132) x = true → ∀ u w h2, Mid z C E (C + 999) (E + 30 * 999) (h.1 132) (itS (nn x) (h.1 132)) u w h2 → kk (itS (nn x) (h.1 132) 11) h2) : MetPM m_X11_pass [.ref 0, .int x] h (rI q kk) := by
  refine t_X11_pass (c_canPass (Or.inl rfl) I.ic.2 (bp (fun e => ⟨Nat.le_of_ble_eq_true rfl, K0 e⟩) (fun e => c_keepI I (fun u w h1 b1 k1 X1 => ?_))))
  have K := K1 e u w
  obtain ⟨e1, e2⟩ := mayP_t e
  generalize nn x = n at K e1 e2
  subst e1
  exact c_passMinutes (Or.inl rfl) I.ic.1 (by omega) (by omega) X1 (fun h2 f2 X2 => K h2 (Mid.of I b1 k1 f2 X2 ((I.ic.1.it n (by omega) (by omega)).mono (by omega) (by omega)) (by omega) (by omega) (it_ag n)))
theorem WR_M {h h' : PH} (f : Fr WR h h') : Fr WM h h' := f.mono fun b k e => WR_WM e
/-! start -/
theorem c_start {x : Int32} (I : Inv z C E h) (hE : E + 2 < 2 ^ 31) (K0 : inV (h.1 132) x = false → q 2 h) (K2 : inV (h.1 132) x = true → mayS (h.1 132) = false → q 0 h) (K1 : inV (h.1 132) x = true → mayS (h.1 132) = true → ∀ u w h2, Mid z C E C (E + 2) (h.1 132) (staS (h.1 132) (nn x)) u w h2 → kk (staR (h.1 132) (nn x)) h2) : MetPM m_X11_start [.ref 0, .int x] h (rI q kk) := by
  refine t_X11_start ⟨Nat.le_of_ble_eq_true rfl, c_needVersion I.ic.1 I.ic.2.1 K0 (fun e => c_canStart (Or.inl rfl) I.ic.2 (bp (fun e5 => ⟨Nat.le_of_ble_eq_true rfl, K2 e e5⟩) (fun e5 => c_keepI I (fun u w h1 b1 k1 X1 => ?_))))⟩
  have K := K1 e e5 u w
  obtain ⟨e1, e2⟩ := inV_t I.ic.1 e
  generalize nn x = n at K e1 e2
  subst e1
  exact c_startPlan (Or.inl rfl) I.ic.1 (by omega) X1 e2 (fun h2 f2 X2 => K h2 (Mid.of I b1 k1 f2 X2 (I.ic.1.sta hE e2 (mayS_w I.ic.1 e5)) (by omega) (by omega) sta_ag))
/-! stop, go -/
theorem c_stop (I : Inv z C E h) (hE : E + 1 < 2 ^ 31) (K0 : going (h.1 132) = false → q 0 h) (K1 : going (h.1 132) = true → ∀ u w h2, Mid z C E C (E + 1) (h.1 132) (stopS (h.1 132)) u w h2 → kk (h.1 132 15) h2) : MetPM m_X11_stop [.ref 0] h (rI q kk) :=
  t_X11_stop (c_isActive (Or.inl rfl) I.ic.2.2 (bp (fun e => ⟨Nat.le_of_ble_eq_true rfl, K0 e⟩) (fun e => c_keepI I (fun u w h1 b1 k1 X1 => c_stopPlan (Or.inl rfl) I.ic.1 (by omega) e X1 (fun h2 f2 X2 => K1 e u w h2 (Mid.of I b1 k1 f2 X2 (I.ic.1.stop (by omega) e) (by omega) (by omega) stop_ag))))))
theorem c_go (I : Inv z C E h) (hE : E + 1 < 2 ^ 31) (K0 : ¬ h.1 132 12 = nI 3 → q 0 h) (K1 : h.1 132 12 = nI 3 → ∀ u w h2, Mid z C E C (E + 1) (h.1 132) (gonS (h.1 132)) u w h2 → kk (h.1 132 15) h2) : MetPM m_X11_go [.ref 0] h (rI q kk) := by
  refine t_X11_go ?_
  rw [show gi h 60 9 = h.1 132 12 from I.ic.2.2.st]
  exact ⟨fun e => c_keepI I (fun u w h1 b1 k1 X1 => c_resumePlan (Or.inl rfl) I.ic.1 (by omega) e X1 (fun h2 f2 X2 => K1 e u w h2 (Mid.of I b1 k1 f2 X2 (I.ic.1.gon (by omega) e) (by omega) (by omega) gon_ag))), fun e => ⟨Nat.le_of_ble_eq_true rfl, K0 e⟩⟩
/-! hold -/
def hldB (s : RW) (x : Int32) (b : Bool) : Bool := !decide (decide (mf s (nn x) 5 = nI 1) = b)
theorem c_hold {x : Int32} {b : Bool} (I : Inv z C E h) (hE : E + 1 < 2 ^ 31) (K0 : inM (h.1 132) x = false → q 2 h) (K2 : inM (h.1 132) x = true → hldB (h.1 132) x b = false → q 0 h) (K1 : inM (h.1 132) x = true → hldB (h.1 132) x b = true → ∀ u w h2, Mid z C E C (E + 1) (h.1 132) (hldS (h.1 132) (nn x) b) u w h2 → kk (nI (hldN (hldS (h.1 132) (nn x) b))) h2) : MetPM m_X11_hold [.ref 0, .int x, .int (b2i b)] h (rI q kk) := by
  have hm2 := I.ic.1.m.2
  refine t_X11_hold ⟨Nat.le_of_ble_eq_true rfl, c_needMember I.ic.1 I.ic.2.1 K0 (fun e => ?_)⟩
  have L1 := K1 e
  have L2 := K2 e
  obtain ⟨e1, e2⟩ := inM_t I.ic.1 e
  unfold hldB at L1 L2
  generalize nn x = n at L1 L2 e1 e2
  subst e1
  refine c_isIn (by omega) ?_
  rw [show gi h 60 8 = _ from I.ic.2.2.he, bt_mk_in (by omega) e2]
  have yes : decide (mf (h.1 132) n 5 = nI 1) ≠ b → _ := fun c => c_keepI (q := q) (kv := fun h4 => MetPM m_X8_setHeld [.ref 60, .int (nI n), .int (b2i b)] h4 (rI q kk)) I (fun u w h1 b1 k1 X1 => c_setHeld (Or.inl rfl) I.ic.1 (by omega) X1 e2 (fun h2 f2 X2 => L1 (by rw [decide_eq_false c]; rfl) u w h2 (Mid.of I b1 k1 f2 X2 (I.ic.1.hld (by omega) e2) (by omega) (by omega) hld_ag)))
  have inj : ∀ b c : Bool, b2i b = b2i c ↔ b = c := by decide
  refine ⟨fun c => ?_, fun c => ⟨Nat.le_of_ble_eq_true rfl, L2 (by rw [decide_eq_true ((inj _ _).mp c)]; rfl)⟩⟩
  exact yes (fun y => c ((inj _ _).mpr y))
/-! report -/
theorem c_report {x y : Int32} (I : Inv z C E h) (K0 : inM (h.1 132) x = false → q 2 h) (K2 : inM (h.1 132) x = true → inR y 0 999 = false → q 1 h) (K3 : inM (h.1 132) x = true → inR y 0 999 = true → isD (h.1 132) (nn x) = true → q 0 h) (K1 : inM (h.1 132) x = true → inR y 0 999 = true → isD (h.1 132) (nn x) = false → ∀ u w h2, Mid z C E C E (h.1 132) (lyS (h.1 132) (nn x) 4 y) u w h2 → kk (mf (h.1 132) (nn x) 4) h2) : MetPM m_X11_report [.ref 0, .int x, .int y] h (rI q kk) := by
  have hm2 := I.ic.1.m.2
  refine t_X11_report ⟨Nat.le_of_ble_eq_true rfl, c_needMember I.ic.1 I.ic.2.1 K0 (fun e => ⟨Nat.le_of_ble_eq_true rfl, c_needMeasure (K2 e) (fun e5 => ?_)⟩)⟩
  have L1 := K1 e e5
  have L3 := K3 e e5
  obtain ⟨e1, e2⟩ := inM_t I.ic.1 e
  obtain ⟨e6, _, e7⟩ := inR_n (a := 0) (b := 999) (by omega) e5
  generalize nn x = n at L1 L3 e1 e2
  subst e1
  refine c_isUp (Or.inl rfl) I.ic.1 I.ic.2.2 e2 ?_
  refine bp (fun e8 => ⟨Nat.le_of_ble_eq_true rfl, L3 (by rw [Bool.not_eq_false'] at e8; exact e8)⟩) (fun e8 => ?_)
  rw [Bool.not_eq_true'] at e8
  exact c_keepI I (fun u w h1 b1 k1 X1 => c_setMeasure (Or.inl rfl) I.ic.1 X1 e2 (fun h2 f2 X2 => L1 e8 u w h2 (Mid.of I b1 k1 f2 X2 (I.ic.1.ly e2 (Or.inl ⟨rfl, e6, e7⟩)) (Nat.le_refl _) (Nat.le_refl _) (agL_ly (by omega) (by omega)))))
/-! change -/
def chaB (s : RW) (x y : Int32) : Bool := decide (whyN s (nn x) (nn y) = 0)
/-! commit -/
def comB (s : RW) (x : Int32) : Bool := decide (whyF s x = 0)
theorem whyF_le {x : Int32} : whyF s x ≤ 2 := by
  unfold whyF
  split
  · split <;> omega
  · omega
theorem whyF_q {x : Int32} {A B : Prop} (f : comB s x = true → A) (g : comB s x = false → B) : (nI (whyF s x) = 0 → A) ∧ (¬ nI (whyF s x) = 0 → B) := by
  have h7 := whyF_le (s := s) (x := x)
  rw [← nI_0, nI_eq (by omega) (by omega)]
  exact ⟨fun y => f (decide_eq_true y), fun y => g (decide_eq_false y)⟩
theorem c_commit {x : Int32} (I : Inv z C E h) (hE : E + 1 < 2 ^ 31) (K0 : inR x 1 9 = false → q 1 h) (K2 : inR x 1 9 = true → comB (h.1 132) x = false → q 0 h) (K1 : inR x 1 9 = true → comB (h.1 132) x = true → ∀ u w h2, Mid z C E C (E + 1) (h.1 132) (fmtS (h.1 132) x) u w h2 → kk (h.1 132 5) h2) : MetPM m_X11_commit [.ref 0, .int x] h (rI q kk) := by
  refine t_X11_commit ⟨Nat.le_of_ble_eq_true rfl, c_needFormat K0 (fun e => c_whyNotFormat (Or.inl rfl) I.ic.1 I.ic.2.1 I.ic.2.2 ?_)⟩
  obtain ⟨e1, _, e2⟩ := inR_n (a := 1) (b := 9) (by omega) e
  exact whyF_q (fun e8 => c_keepI I (fun u w h1 b1 k1 X1 => c_setFormat (Or.inl rfl) I.ic.1 (by omega) X1 ⟨e1, e2⟩ (fun h2 f2 X2 => K1 e e8 u w h2 (Mid.of I b1 k1 f2 X2 (I.ic.1.fmt (by omega) ⟨e1, e2⟩) (Nat.le_refl _) (by omega) fmt_ag)))) (fun e8 => ⟨Nat.le_of_ble_eq_true rfl, K2 e e8⟩)
end

