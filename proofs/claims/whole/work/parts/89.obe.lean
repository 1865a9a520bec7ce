/-! ===== a command of a script, the class ===== -/
section
variable {q : Nat → PH → Prop} {kk : Int32 → PH → Prop} {kv : PH → Prop} {h h' : PH} {s t g : RW} {C E : Nat} {a i j x y : Nat} {p1 p2 p3 : Int32}
theorem csw_k : ∀ j, j < 9 → csw 1083 (cfv (1020 + j) 9).toNatClampNeg = nI (j + 1) ∧ cfv (1020 + j) 9 = nI j := by decide +kernel
theorem csw_j (j : Nat) (hj : j < 9) : csw 1083 (cfv (1020 + j) 9).toNatClampNeg = nI (j + 1) ∧ vp_in (cfv (1020 + j) 9) (cln 1083) := by
  obtain ⟨h1, h2⟩ := csw_k j hj
  refine ⟨h1, ?_⟩
  rw [h2]
  exact vp_in_nI (N := 10) (by omega) (by omega)
theorem inR_19 (hx : x < 1000) : inR (nI x) 1 9 = decide (1 ≤ x ∧ x ≤ 9) := (by decide +kernel : ∀ x, x < 1000 → inR (nI x) 1 9 = decide (1 ≤ x ∧ x ≤ 9)) x hx
theorem whyF_le2 {x : Int32} : whyF s x ≤ 2 := whyF_le
theorem c_isAllowed (R : Rk C E s) (X : CR 60 s h) (hj : j < 9) (hx : x < 1000) (hy : y < 1000) (A : AVk s j x y) (a7 : 4 ≤ j ∧ j ≤ 7 → p1 = nI x) (a1 : j = 1 → p2 = nI x) (a2 : j = 7 → p2 = nI y) (a9 : j = 0 ∨ j = 8 ∨ j = 9 → p3 = nI x) (K : kk (b2i (aMay s j x y)) h) : MetPM m_X8_isAllowed [.ref 60, .ref (1020 + j), .int p1, .int p2, .int p3] h (rI q kk) := by
  obtain ⟨w0, w1, w4, w6, w7, w9⟩ := A
  have hm2 := R.m.2
  have hv8 := R.v.2
  obtain ⟨ec, ev⟩ := csw_j j hj
  have ne : ∀ i, i < 10 → nI (j + 1) = nI (i + 1) → j = i := fun i hi z => by
    have := (nI_eq (a := j + 1) (b := i + 1) (by omega) (by omega)).mp z
    omega
  refine t_X8_isAllowed ?_
  rw [ec]
  refine ⟨Or.inr (Or.inl ⟨rfl, by omega, by omega⟩), Or.inl ⟨rfl, Or.inr rfl⟩, ev, fun z => absurd rfl (z (j + 1) (by omega) (by omega)), fun z => ?_, fun z => ?_, fun z => ?_, fun z => ?_, fun z => ?_, fun z => ?_, fun z => ?_, fun z => ?_, fun z => ?_, trivial⟩
  · have e := ne 0 (by omega) z
    subst e
    rw [a9 (by omega)]
    exact c_canPass (Or.inl rfl) X ⟨isB_b2i _, K⟩
  · have e := ne 1 (by omega) z
    subst e
    exact c_canStart (Or.inl rfl) X ⟨isB_b2i _, K⟩
  · have e := ne 2 (by omega) z
    subst e
    exact c_isActive (Or.inl rfl) X.2 ⟨isB_b2i _, K⟩
  · have e := ne 3 (by omega) z
    subst e
    have K : kk (b2i (decide (s 12 = nI 3))) h := K
    rw [show gi h 60 9 = s 12 from X.2.st]
    refine ⟨fun y => ?_, fun y => ?_⟩
    · rw [decide_eq_false y] at K
      exact ⟨isB_0, K⟩
    · rw [decide_eq_true y] at K
      exact ⟨isB_1, K⟩
  · have e := ne 4 (by omega) z
    subst e
    have hm := w4 (by omega)
    have K : kk (b2i (!decide (mf s x 5 = nI 1))) h := K
    rw [a7 (by omega)]
    refine c_isIn (by omega) ?_
    rw [show gi h 60 8 = _ from X.2.he, bt_mk_in (by omega) hm]
    refine bp (fun y => ?_) (fun y => ?_)
    · rw [y] at K
      exact ⟨isB_1, K⟩
    · rw [y] at K
      exact ⟨isB_0, K⟩
  · have e := ne 5 (by omega) z
    subst e
    have hm := w4 (by omega)
    have K : kk (b2i (decide (mf s x 5 = nI 1))) h := K
    rw [a7 (by omega)]
    refine c_isIn (by omega) ?_
    rw [show gi h 60 8 = _ from X.2.he, bt_mk_in (by omega) hm]
    exact ⟨isB_b2i _, K⟩
  · have e := ne 6 (by omega) z
    subst e
    rw [a7 (by omega)]
    exact c_isUp (Or.inl rfl) R X.2 (w4 (by omega)) ⟨isB_b2i _, K⟩
  · have e := ne 7 (by omega) z
    subst e
    have K : kk (b2i (decide (whyN s x y = 0))) h := K
    rw [a7 (by omega), a2 rfl]
    refine c_whyNotBegin (Or.inl rfl) R X.1 X.2 (w4 (by omega)) (w7 rfl) ?_
    have w := why_q (s := s) (m := x) (v := y) (A := isB (nI 1) ∧ kk (nI 1) h) (B := isB (nI 0) ∧ kk (nI 0) h) (fun e => by
      rw [e] at K
      exact ⟨isB_1, K⟩) (fun e => by
      rw [e] at K
      exact ⟨isB_0, K⟩)
    exact ⟨w.2, w.1⟩
  · have e := ne 8 (by omega) z
    subst e
    have K : kk (b2i (inR (nI x) 1 9 && decide (whyF s (nI x) = 0))) h := K
    rw [inR_19 hx] at K
    rw [a9 (by omega)]
    refine pk_lt 9 x (fun d => u_X8_isAllowed_158 (b0 := 0) ⟨isB_0, ?_⟩) (fun d => c_whyNotFormat (Or.inl rfl) R X.1 X.2 ?_)
    · rw [decide_eq_false (by omega)] at K
      exact K
    · have w := whyF_q (s := s) (x := nI x) (A := isB (nI 1) ∧ kk (nI 1) h) (B := kk (nI 0) h) (fun e => by
        have e' : decide (whyF s (nI x) = 0) = true := e
        have hx1 : 1 ≤ x := by
          apply Classical.byContradiction
          intro c
          have x0 : x = 0 := by omega
          subst x0
          have f := of_decide_eq_true e'
          unfold whyF at f
          rw [if_neg (by rw [R.f.1]; exact nI_nlt (by omega) (by have := R.f.2; omega))] at f
          omega
        rw [e', decide_eq_true (by omega : 1 ≤ x ∧ x ≤ 9)] at K
        exact ⟨isB_1, K⟩) (fun e => by
        have e' : decide (whyF s (nI x) = 0) = false := e
        rw [e', Bool.and_false] at K
        exact K)
      exact ⟨fun c => u_X8_isAllowed_158 (b0 := 0) ⟨isB_0, w.2 c⟩, w.1⟩
theorem c_obey (R : Rk C E s) (hC : C + 999 < 2 ^ 29) (hE : E + 29970 < 2 ^ 31) (X : CR 60 s h) (hj : j < 9) (hi : i < 30) (hx : x < 1000) (hy : y < 1000) (A : AVk s j x y) (er : gr h 6 i = some (1020 + j)) (G : AG j i (nI x) (nI y) h) (K0 : aMay s j x y = false → kk (nI 0) h) (K1 : aMay s j x y = true → ∀ h', Fr (WS 60) h h' → CR 60 (aDo s j x y) h' → kk (nI 1) h') : MetPM m_X8_obey [.ref 60, .ref 5, .int (nI i)] h (rI q kk) := by
  obtain ⟨ec, ev⟩ := csw_j j hj
  obtain ⟨g7, g81, g87, g9, g96⟩ := G
  have hv8 := R.v.2
  have v : vp_in (nI i) 30 := vp_in_nI (by omega) (by omega)
  refine t_X8_obey ⟨v, fun b1 hb => ⟨v, v, v, ?_⟩, fun hb => ?_⟩
  rotate_left 1
  · rw [cl (by omega), er] at hb
    cases hb
  rw [cl (by omega), er] at hb
  have hb1 := (Option.some.inj hb).symm
  subst hb1
  rw [cl (by omega)]
  refine c_isAllowed R X hj hx hy A g7 g81 g87 g9 (bp (fun y => u_X8_obey_49 ⟨isB_0, K0 y⟩) (fun e => u_X8_obey_51 ?_))
  have K1 := K1 e
  have A' := A
  obtain ⟨w0, w1, w4, w6, w7, w9⟩ := A
  have ne : ∀ i, i < 10 → nI (j + 1) = nI (i + 1) → j = i := fun i hi z => by
    have := (nI_eq (a := j + 1) (b := i + 1) (by omega) (by omega)).mp z
    omega
  rw [ec]
  refine ⟨Or.inr (Or.inl ⟨rfl, by omega, by omega⟩), Or.inl ⟨rfl, Or.inr rfl⟩, ev, fun z => absurd rfl (z (j + 1) (by omega) (by omega)), fun z => ?_, fun z => ?_, fun z => ?_, fun z => ?_, fun z => ?_, fun z => ?_, fun z => ?_, fun z => ?_, fun z => ?_, trivial⟩
  · have e0 := ne 0 (by omega) z
    subst e0
    have := w0 (by omega)
    refine u_X8_obey_108 ?_
    rw [g9 (by omega)]
    exact c_passMinutes (Or.inl rfl) R (by omega) (by omega) X (fun h1 f1 X1 => u_X8_obey_202 ⟨isB_1, K1 h1 f1 X1⟩)
  · have e0 := ne 1 (by omega) z
    subst e0
    refine u_X8_obey_118 ?_
    rw [g81 rfl]
    exact c_startPlan (Or.inl rfl) R (by omega) X (w1 rfl) (fun h1 f1 X1 => u_X8_obey_202 ⟨isB_1, K1 h1 f1 X1⟩)
  · have e0 := ne 2 (by omega) z
    subst e0
    exact u_X8_obey_128 (c_stopPlan (Or.inl rfl) R (by omega) e X (fun h1 f1 X1 => u_X8_obey_202 ⟨isB_1, K1 h1 f1 X1⟩))
  · have e0 := ne 3 (by omega) z
    subst e0
    exact u_X8_obey_136 (c_resumePlan (Or.inl rfl) R (by omega) (of_decide_eq_true e) X (fun h1 f1 X1 => u_X8_obey_202 ⟨isB_1, K1 h1 f1 X1⟩))
  · have e0 := ne 4 (by omega) z
    subst e0
    refine u_X8_obey_144 ?_
    rw [g7 (by omega)]
    exact c_setHeld (b := true) (Or.inl rfl) R (by omega) X (w4 (by omega)) (fun h1 f1 X1 => u_X8_obey_202 ⟨isB_1, K1 h1 f1 X1⟩)
  · have e0 := ne 5 (by omega) z
    subst e0
    refine u_X8_obey_155 ?_
    rw [g7 (by omega)]
    exact c_setHeld (b := false) (Or.inl rfl) R (by omega) X (w4 (by omega)) (fun h1 f1 X1 => u_X8_obey_202 ⟨isB_1, K1 h1 f1 X1⟩)
  · have e0 := ne 6 (by omega) z
    subst e0
    refine u_X8_obey_166 ?_
    rw [g7 (by omega), g96 rfl]
    exact c_setMeasure (Or.inl rfl) R X (w4 (by omega)) (fun h1 f1 X1 => u_X8_obey_202 ⟨isB_1, K1 h1 f1 X1⟩)
  · have e0 := ne 7 (by omega) z
    subst e0
    have := w7 rfl
    refine u_X8_obey_178 ?_
    rw [g7 (by omega), g87 rfl]
    exact c_beginChange (Or.inl rfl) R (by omega) X (w4 (by omega)) (isN_nI (by omega) (by omega)) (fun h1 f1 X1 => u_X8_obey_202 ⟨isB_1, K1 h1 f1 X1⟩)
  · have e0 := ne 8 (by omega) z
    subst e0
    have e' : (inR (nI x) 1 9 && decide (whyF s (nI x) = 0)) = true := e
    rw [inR_19 hx, Bool.and_eq_true] at e'
    have hx9 := of_decide_eq_true e'.1
    refine u_X8_obey_190 ?_
    rw [g9 (by omega)]
    exact c_setFormat (Or.inl rfl) R (by omega) X (isN_nI hx9.2 (by omega)) (fun h1 f1 X1 => u_X8_obey_202 ⟨isB_1, K1 h1 f1 X1⟩)
end
