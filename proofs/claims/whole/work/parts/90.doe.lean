/-! ===== a command of a script, the reference ===== -/
section
variable {q : Nat → PH → Prop} {kk : Int32 → PH → Prop} {kv : PH → Prop} {h h' : PH} {s t g : RW} {C E : Nat} {a i j x y : Nat} {p1 p2 v2 v3 : Int32}
theorem s_may (R : Rk C E s) (hs : h.1 132 = s) (hj : j < 9) (hx : x < 1000) (A : AVk s j x y) (a1 : j ≠ 2 → j ≠ 3 → p1 = nI x) (a2 : j = 7 → p2 = nI y) (K : kk (b2i (aMay s j x y)) h) : MetPM m_X12_may [.ref 130, .int (nI j), .int p1, .int p2] h (rI q kk) := by
  obtain ⟨w0, w1, w4, w6, w7, w9⟩ := A
  have hm2 := R.m.2
  have hv8 := R.v.2
  have ne : ∀ i, i < 10 → nI j = nI i → j = i := fun i hi z => (nI_eq (a := j) (b := i) (by omega) (by omega)).mp z
  refine t_X12_may ⟨fun z => ?_, fun z => ?_, fun z => ?_, fun z => ?_, fun z => ?_, fun z => ?_, fun z => ?_, fun z => ?_, fun z => ?_, trivial⟩
  · have e : j = 8 := by
      apply Classical.byContradiction
      intro c
      exact z j (by omega) (by omega) rfl
    subst e
    have K : kk (b2i (inR (nI x) 1 9 && decide (whyF s (nI x) = 0))) h := K
    rw [a1 (by omega) (by omega)]
    refine s_isInR (a := 1) (b := 9) (by omega) (by omega) (bq (fun y => u_X12_may_165 ⟨isB_0, ?_⟩) (fun y => s_whyCommit R hs ?_))
    · rw [show inR (nI x) 1 9 = false from y, Bool.false_and] at K
      exact K
    · rw [show inR (nI x) 1 9 = true from y, Bool.true_and] at K
      have w := whyF_q (s := s) (x := nI x) (A := isB (nI 1) ∧ kk (nI 1) h) (B := kk (nI 0) h) (fun e => by
        rw [show decide (whyF s (nI x) = 0) = true from e] at K
        exact ⟨isB_1, K⟩) (fun e => by
        rw [show decide (whyF s (nI x) = 0) = false from e] at K
        exact K)
      exact ⟨fun c => u_X12_may_165 ⟨isB_0, w.2 c⟩, w.1⟩
  · have e := ne 0 (by omega) z
    subst e
    rw [a1 (by omega) (by omega)]
    exact s_mayPass hs ⟨isB_b2i _, K⟩
  · have e := ne 1 (by omega) z
    subst e
    exact s_mayStart hs ⟨isB_b2i _, K⟩
  · have e := ne 2 (by omega) z
    subst e
    exact s_isGoing hs ⟨isB_b2i _, K⟩
  · have e := ne 3 (by omega) z
    subst e
    have K : kk (b2i (decide (s 12 = nI 3))) h := K
    rw [rd hs 12 (by omega)]
    refine ⟨rv (by omega), fun y => ?_, fun y => ?_⟩
    · rw [decide_eq_false y] at K
      exact ⟨isB_0, K⟩
    · rw [decide_eq_true y] at K
      exact ⟨isB_1, K⟩
  · have e := ne 4 (by omega) z
    subst e
    have hm := w4 (by omega)
    have K : kk (b2i (!decide (mf s x 5 = nI 1))) h := K
    rw [a1 (by omega) (by omega)]
    refine s_of hs (by omega) ?_
    rw [he_eq R hm]
    refine bp (fun y => ?_) (fun y => ?_)
    · rw [y] at K
      exact ⟨isB_1, K⟩
    · rw [y] at K
      exact ⟨isB_0, K⟩
  · have e := ne 5 (by omega) z
    subst e
    have hm := w4 (by omega)
    have K : kk (b2i (decide (mf s x 5 = nI 1))) h := K
    rw [a1 (by omega) (by omega)]
    refine s_of hs (by omega) ⟨fun y => ?_, fun y => ?_⟩
    · rw [decide_eq_false y] at K
      exact ⟨isB_0, K⟩
    · rw [decide_eq_true y] at K
      exact ⟨isB_1, K⟩
  · have e := ne 6 (by omega) z
    subst e
    have hm := w4 (by omega)
    have K : kk (b2i (!isD s x)) h := K
    rw [a1 (by omega) (by omega)]
    refine s_isDown hs (by omega) (bp (fun y => ?_) (fun y => ?_))
    · rw [y] at K
      exact ⟨isB_1, K⟩
    · rw [y] at K
      exact ⟨isB_0, K⟩
  · have e := ne 7 (by omega) z
    subst e
    have K : kk (b2i (decide (whyN s x y = 0))) h := K
    have h7 := w7 rfl
    rw [a1 (by omega) (by omega), a2 rfl]
    refine s_why R hs (w4 (by omega)) (by omega) ?_
    have w := why_q (s := s) (m := x) (v := y) (A := isB (nI 1) ∧ kk (nI 1) h) (B := isB (nI 0) ∧ kk (nI 0) h) (fun e => by
      rw [e] at K
      exact ⟨isB_1, K⟩) (fun e => by
      rw [e] at K
      exact ⟨isB_0, K⟩)
    exact ⟨w.2, w.1⟩
theorem d25 (hj : j < 9) (d : ¬ j = 1) (T : At m_X12_does (rI q kk) 39 0 [some (.ref 130), some (.int (nI j)), some (.int v2), some (.int v3)] [] h) : At m_X12_does (rI q kk) 25 0 [some (.ref 130), some (.int (nI j)), some (.int v2), some (.int v3)] [] h :=
  u_X12_does_25 ⟨fun _ => T, fun y => absurd ((nI_eq (a := j) (b := 1) (by omega) (by omega)).mp y) d⟩
theorem d39 (hj : j < 9) (d : ¬ j = 2) (T : At m_X12_does (rI q kk) 48 0 [some (.ref 130), some (.int (nI j)), some (.int v2), some (.int v3)] [] h) : At m_X12_does (rI q kk) 39 0 [some (.ref 130), some (.int (nI j)), some (.int v2), some (.int v3)] [] h :=
  u_X12_does_39 ⟨fun _ => T, fun y => absurd ((nI_eq (a := j) (b := 2) (by omega) (by omega)).mp y) d⟩
theorem d48 (hj : j < 9) (d : ¬ j = 3) (T : At m_X12_does (rI q kk) 61 0 [some (.ref 130), some (.int (nI j)), some (.int v2), some (.int v3)] [] h) : At m_X12_does (rI q kk) 48 0 [some (.ref 130), some (.int (nI j)), some (.int v2), some (.int v3)] [] h :=
  u_X12_does_48 ⟨fun _ => T, fun y => absurd ((nI_eq (a := j) (b := 3) (by omega) (by omega)).mp y) d⟩
theorem d61 (hj : j < 9) (d : ¬ j = 4) (d2 : ¬ j = 5) (T : At m_X12_does (rI q kk) 90 0 [some (.ref 130), some (.int (nI j)), some (.int v2), some (.int v3)] [] h) : At m_X12_does (rI q kk) 61 0 [some (.ref 130), some (.int (nI j)), some (.int v2), some (.int v3)] [] h :=
  u_X12_does_61 ⟨fun y => absurd ((nI_eq (a := j) (b := 4) (by omega) (by omega)).mp y) d, fun _ => ⟨fun _ => T, fun y => absurd ((nI_eq (a := j) (b := 5) (by omega) (by omega)).mp y) d2⟩⟩
theorem d90 (hj : j < 9) (d : ¬ j = 6) (T : At m_X12_does (rI q kk) 106 0 [some (.ref 130), some (.int (nI j)), some (.int v2), some (.int v3)] [] h) : At m_X12_does (rI q kk) 90 0 [some (.ref 130), some (.int (nI j)), some (.int v2), some (.int v3)] [] h :=
  u_X12_does_90 ⟨fun _ => T, fun y => absurd ((nI_eq (a := j) (b := 6) (by omega) (by omega)).mp y) d⟩
theorem d106 (hj : j < 9) (d : ¬ j = 7) (T : At m_X12_does (rI q kk) 122 0 [some (.ref 130), some (.int (nI j)), some (.int v2), some (.int v3)] [] h) : At m_X12_does (rI q kk) 106 0 [some (.ref 130), some (.int (nI j)), some (.int v2), some (.int v3)] [] h :=
  u_X12_does_106 ⟨fun _ => T, fun y => absurd ((nI_eq (a := j) (b := 7) (by omega) (by omega)).mp y) d⟩
theorem d122 (hj : j < 9) (d : ¬ j = 8) (K : kk (nI 1) h) : At m_X12_does (rI q kk) 122 0 [some (.ref 130), some (.int (nI j)), some (.int v2), some (.int v3)] [] h :=
  u_X12_does_122 ⟨fun _ => u_X12_does_137 ⟨isB_1, K⟩, fun y => absurd ((nI_eq (a := j) (b := 8) (by omega) (by omega)).mp y) d⟩
def WDo (b k : Nat) : Prop := (b = 132 ∧ k < 253) ∨ (b = 130 ∧ (k = 25 ∨ k = 26 ∨ k = 27 ∨ k = 36))
theorem FDm (f : Fr WM h h') : Fz WDo (fun _ => False) h h' := Fz.fr f (fun b k e => by
  unfold WM at e
  simp only [Bool.or_eq_true, Bool.and_eq_true] at e
  unfold WDo
  rcases e with ⟨e1, e2⟩ | ⟨e1, e2⟩
  · have := Nat.eq_of_beq_eq_true e1
    have : k < 253 := Nat.le_of_ble_eq_true e2
    omega
  · have := Nat.eq_of_beq_eq_true e1
    rcases e2 with e2 | e2 | e2
    all_goals
      have := Nat.eq_of_beq_eq_true e2
      omega)
theorem FDr (f : Fr WR h h') : Fz WDo (fun _ => False) h h' := FDm (WR_M f)
theorem FDs {x : Int32} : Fz WDo (fun _ => False) h (si h 130 36 x) := Fz.si h x (Or.inr ⟨rfl, by omega⟩)
theorem s_does (R : Rk C E s) (hs : h.1 132 = s) (hC : C + 999 < 2 ^ 29) (hE : E + 29970 < 2 ^ 31) (hj : j < 9) (hx : x < 1000) (hy : y < 1000) (A : AVk s j x y) (a1 : j ≠ 2 → j ≠ 3 → p1 = nI x) (a2 : j = 6 ∨ j = 7 → p2 = nI y) (K0 : aMay s j x y = false → kk (nI 0) h) (K1 : aMay s j x y = true → ∀ h', Fz WDo (fun _ => False) h h' → h'.1 132 = aDo s j x y → kk (nI 1) h') : MetPM m_X12_does [.ref 130, .int (nI j), .int p1, .int p2] h (rI q kk) := by
  refine t_X12_does (s_may R hs hj hx A a1 (fun z => a2 (Or.inr z)) (bp (fun y => ⟨isB_0, K0 y⟩) (fun e => ?_)))
  have K1 := K1 e
  obtain ⟨w0, w1, w4, w6, w7, w9⟩ := A
  have hm2 := R.m.2
  have hv8 := R.v.2
  have s36 : ∀ (h1 : PH) (x : Int32), (si h1 130 36 x).1 132 = h1.1 132 := fun h1 x => si_b (by omega)
  rcases (by omega : j = 0 ∨ j = 1 ∨ j = 2 ∨ j = 3 ∨ j = 4 ∨ j = 5 ∨ j = 6 ∨ j = 7 ∨ j = 8) with rfl | rfl | rfl | rfl | rfl | rfl | rfl | rfl | rfl
  · refine ⟨fun z => absurd rfl z, fun _ => ?_⟩
    have := w0 (by omega)
    rw [a1 (by omega) (by omega)]
    refine s_passes R (by omega) (by omega) hs (fun h1 f1 r1 => ?_)
    exact d25 (j := 0) (by omega) (by omega) (d39 (by omega) (by omega) (d48 (by omega) (by omega) (d61 (by omega) (by omega) (by omega) (d90 (by omega) (by omega) (d106 (by omega) (by omega) (d122 (by omega) (by omega) (K1 _ ((FDm f1).trans FDs) ((s36 _ _).trans r1))))))))
  · refine ⟨fun _ => u_X12_does_25 ⟨fun z => absurd rfl z, fun _ => ?_⟩, fun z => absurd z (by decide)⟩
    rw [a1 (by omega) (by omega)]
    refine s_starts R (by omega) hs (w1 rfl) (fun h1 f1 r1 => ?_)
    exact d39 (j := 1) (by omega) (by omega) (d48 (by omega) (by omega) (d61 (by omega) (by omega) (by omega) (d90 (by omega) (by omega) (d106 (by omega) (by omega) (d122 (by omega) (by omega) (K1 _ ((FDr f1).trans FDs) ((s36 _ _).trans r1)))))))
  · refine ⟨fun _ => d25 (j := 2) (by omega) (by omega) (u_X12_does_39 ⟨fun z => absurd rfl z, fun _ => ?_⟩), fun z => absurd z (by decide)⟩
    refine s_stops hs R.ev (by omega) (fun h1 f1 r1 => ?_)
    exact d48 (j := 2) (by omega) (by omega) (d61 (by omega) (by omega) (by omega) (d90 (by omega) (by omega) (d106 (by omega) (by omega) (d122 (by omega) (by omega) (K1 _ (FDr f1) r1)))))
  · refine ⟨fun _ => d25 (j := 3) (by omega) (by omega) (d39 (by omega) (by omega) (u_X12_does_48 ⟨fun z => absurd rfl z, fun _ => ?_⟩)), fun z => absurd z (by decide)⟩
    refine s_goesOn R (by omega) hs (fun h1 f1 r1 => ?_)
    exact d61 (j := 3) (by omega) (by omega) (by omega) (d90 (by omega) (by omega) (d106 (by omega) (by omega) (d122 (by omega) (by omega) (K1 _ ((FDr f1).trans FDs) ((s36 _ _).trans r1)))))
  · refine ⟨fun _ => d25 (j := 4) (by omega) (by omega) (d39 (by omega) (by omega) (d48 (by omega) (by omega) (u_X12_does_61 ⟨fun _ => ?_, fun z => absurd rfl z⟩))), fun z => absurd z (by decide)⟩
    refine u_X12_does_71 ⟨fun z => absurd rfl z, fun _ => ?_⟩
    rw [a1 (by omega) (by omega)]
    refine s_holds (b := true) R (by omega) hs (w4 (by omega)) (fun h1 f1 r1 => ?_)
    exact d90 (j := 4) (by omega) (by omega) (d106 (by omega) (by omega) (d122 (by omega) (by omega) (K1 _ ((FDr f1).trans FDs) ((s36 _ _).trans r1))))
  · refine ⟨fun _ => d25 (j := 5) (by omega) (by omega) (d39 (by omega) (by omega) (d48 (by omega) (by omega) (u_X12_does_61 ⟨fun z => absurd z (by decide), fun _ => ⟨fun z => absurd rfl z, fun _ => ?_⟩⟩))), fun z => absurd z (by decide)⟩
    refine u_X12_does_71 ⟨fun _ => ?_, fun z => absurd z (by decide)⟩
    rw [a1 (by omega) (by omega)]
    refine s_holds (b := false) R (by omega) hs (w4 (by omega)) (fun h1 f1 r1 => ?_)
    exact d90 (j := 5) (by omega) (by omega) (d106 (by omega) (by omega) (d122 (by omega) (by omega) (K1 _ ((FDr f1).trans FDs) ((s36 _ _).trans r1))))
  · refine ⟨fun _ => d25 (j := 6) (by omega) (by omega) (d39 (by omega) (by omega) (d48 (by omega) (by omega) (d61 (by omega) (by omega) (by omega) (u_X12_does_90 ⟨fun z => absurd rfl z, fun _ => ?_⟩)))), fun z => absurd z (by decide)⟩
    rw [a1 (by omega) (by omega), a2 (by omega)]
    have hm := w4 (by omega)
    refine s_reports hs (by omega) (fun h1 f1 r1 => ?_)
    exact d106 (j := 6) (by omega) (by omega) (d122 (by omega) (by omega) (K1 _ ((FDr f1).trans FDs) ((s36 _ _).trans r1)))
  · refine ⟨fun _ => d25 (j := 7) (by omega) (by omega) (d39 (by omega) (by omega) (d48 (by omega) (by omega) (d61 (by omega) (by omega) (by omega) (d90 (by omega) (by omega) (u_X12_does_106 ⟨fun z => absurd rfl z, fun _ => ?_⟩))))), fun z => absurd z (by decide)⟩
    rw [a1 (by omega) (by omega), a2 (by omega)]
    have hm := w4 (by omega)
    refine s_changes R (by omega) hs (by omega) (fun h1 f1 r1 => ?_)
    exact d122 (j := 7) (by omega) (by omega) (K1 _ ((FDm f1).trans FDs) ((s36 _ _).trans r1))
  · refine ⟨fun _ => d25 (j := 8) (by omega) (by omega) (d39 (by omega) (by omega) (d48 (by omega) (by omega) (d61 (by omega) (by omega) (by omega) (d90 (by omega) (by omega) (d106 (by omega) (by omega) (u_X12_does_122 ⟨fun z => absurd rfl z, fun _ => ?_⟩)))))), fun z => absurd z (by decide)⟩
    rw [a1 (by omega) (by omega)]
    refine s_commits R (by omega) hs (fun h1 f1 r1 => ?_)
    exact u_X12_does_137 ⟨isB_1, K1 _ ((FDr f1).trans FDs) ((s36 _ _).trans r1)⟩
end
