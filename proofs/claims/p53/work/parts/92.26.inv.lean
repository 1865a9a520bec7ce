/-! ===== what always holds of a row goes on holding ===== -/
section
variable {s t : RW} {C E : Nat}
theorem m1n : ¬ (-(nI 1) : Int32) = nI 0 := by decide
theorem isD_m1 {m : Nat} (e : mf s m 2 = -(nI 1)) : isD s m = false := by
  unfold isD
  rw [e, m1_eq]
  rfl
theorem isD_n {m b : Nat} (e : isN (mf s m 2) b) : isD s m = true := by
  unfold isD
  rw [decide_eq_false e.nm1]; rfl
/-! the beginning of a change -/
theorem beg_o {m o w : Nat} {v : Int32} (ho : o < 12) (hw : w < 7) (h : ¬ (o = m ∧ (w = 2 ∨ w = 3))) : mf (begS s m v) o w = mf s o w := by
  unfold begS
  rw [mf_ev ho hw, mf_ly (by omega) hw (by omega), mf_ly (by omega) hw (by omega)]
theorem beg_2 {m : Nat} {v : Int32} (hm : m < 12) : mf (begS s m v) m 2 = v := by
  unfold begS
  rw [mf_ev hm (by omega), mf_ly (by omega) (by omega) (by omega), mf_lys]
theorem beg_3 {m : Nat} {v : Int32} (hm : m < 12) : mf (begS s m v) m 3 = s 11 + s 8 := by
  unfold begS
  rw [mf_ev hm (by omega), mf_lys]
theorem beg_lo {m i : Nat} {v : Int32} (hi : i < 49) (h19 : i ≠ 19) : begS s m v i = s i := by
  unfold begS
  rw [evS_lo (by omega) h19, lyS_lo hi, lyS_lo hi]
theorem agL_beg {m : Nat} {v : Int32} : agL s (begS s m v) := (agL_ly (by omega) (by omega)).trans ((agL_ly (by omega) (by omega)).trans agL_ev)
theorem beg_19 {m : Nat} {v : Int32} : begS s m v 19 = s 19 + nI 1 := by
  unfold begS
  rw [evS_19, lyS_lo (by omega), lyS_lo (by omega)]
theorem isN_19 (R : isN (s 19) E) (hE : E + 1 < 2 ^ 31) (e : t 19 = s 19 + nI 1) : isN (t 19) (E + 1) ∧ nn (t 19) = nn (s 19) + 1 := by
  have h2 := R.2
  rw [e, R.1, nI_add, nn_nI (n := nn (s 19)) (by omega), nn_nI (by omega)]
  exact ⟨isN_nI (by omega) (by omega), rfl⟩
theorem Rk.beg {m : Nat} {v : Int32} (R : Rk C E s) (hC : C < 2 ^ 30) (hE : E + 1 < 2 ^ 31) (hm : m < nn (s 2)) (hv : isN v 7 ∧ nn v < nn (s 0)) : Rk C (E + 1) (begS s m v) := by
  have hm2 := R.m.2
  have hck := R.ck
  have h11 := hck.2
  have htk := R.tk
  have h8 := htk.2
  have htk1 := R.tk1
  refine ⟨R.1.congr agL_beg, ⟨?_, ?_⟩, ?_, (isN_19 R.ev hE beg_19).1⟩
  · rw [beg_lo (by omega) (by omega)]; exact R.ck
  · intro o ho
    rw [agL_beg.n2] at ho
    by_cases q : o = m
    · subst q
      have d : isD (begS s o v) o = true := isD_n (by rw [beg_2 (by omega)]; exact hv.1)
      have u : s 11 + s 8 = nI (nn (s 11) + nn (s 8)) := by rw [hck.1, htk.1, nI_add, nn_nI (by omega), nn_nI (by omega)]
      have R1 := R.2.1.2 o ho
      refine ⟨?_, ?_, ?_, ?_, ?_, ?_⟩
      · unfold vN; rw [beg_o (by omega) (by omega) (by omega), agL_beg.n0]; exact R1.ve
      · intro _; rw [beg_2 (by omega), agL_beg.n0]; exact hv
      · intro z; rw [d] at z; cases z
      · intro _
        rw [beg_3 (by omega), beg_lo (by omega) (by omega), u, nn_nI (n := nn (s 11) + nn (s 8)) (by omega)]
        exact ⟨isN_nI (by omega) (by omega), by omega, by omega⟩
      · rw [beg_o (by omega) (by omega) (by omega)]; exact R1.me
      · rw [beg_o (by omega) (by omega) (by omega)]; exact R1.he
    · exact (R.2.1.2 o ho).congr agL_beg.n0 (beg_lo (by omega) (by omega)) (fun w _ _ => beg_o (by omega) (by omega) (by omega))
  · exact R.2.2.1.congr agL_beg.n0 agL_beg.n3 (beg_lo (by omega) (by omega)) (fun i _ _ => by
      by_cases q : i = 19
      · omega
      · exact beg_lo (by omega) q)
/-! the end of changes: ahead of it those behind i may be at their minute -/
def MOw (C : Nat) (s : RW) (m : Nat) : Prop :=
  (isN (mf s m 1) 7 ∧ vN s m < nn (s 0)) ∧
  (isD s m = true → isN (mf s m 2) 7 ∧ nn (mf s m 2) < nn (s 0)) ∧
  (isD s m = false → mf s m 3 = -1) ∧
  (isD s m = true → isN (mf s m 3) (C + 99) ∧ nn (s 11) ≤ nn (mf s m 3) ∧ nn (mf s m 3) ≤ nn (s 11) + 99) ∧
  (isN (mf s m 4) 999) ∧
  (mf s m 5 = 0 ∨ mf s m 5 = nI 1)
theorem MOw.ve {C : Nat} {s : RW} {m : Nat} (h : MOw C s m) : isN (mf s m 1) 7 ∧ vN s m < nn (s 0) := h.1
theorem MOw.nx {C : Nat} {s : RW} {m : Nat} (h : MOw C s m) : isD s m = true → isN (mf s m 2) 7 ∧ nn (mf s m 2) < nn (s 0) := h.2.1
theorem MOw.up {C : Nat} {s : RW} {m : Nat} (h : MOw C s m) : isD s m = false → mf s m 3 = -1 := h.2.2.1
theorem MOw.un {C : Nat} {s : RW} {m : Nat} (h : MOw C s m) : isD s m = true → isN (mf s m 3) (C + 99) ∧ nn (s 11) ≤ nn (mf s m 3) ∧ nn (mf s m 3) ≤ nn (s 11) + 99 := h.2.2.2.1
theorem MOw.me {C : Nat} {s : RW} {m : Nat} (h : MOw C s m) : isN (mf s m 4) 999 := h.2.2.2.2.1
theorem MOw.he {C : Nat} {s : RW} {m : Nat} (h : MOw C s m) : mf s m 5 = 0 ∨ mf s m 5 = nI 1 := h.2.2.2.2.2
def RkE (i C E : Nat) (s : RW) : Prop := RkL s ∧ (isN (s 11) C ∧ ∀ m, m < nn (s 2) → (m < i → MO C s m) ∧ MOw C s m) ∧ RkT C s ∧ isN (s 19) E
theorem MO.weak {m : Nat} (h : MO C s m) : MOw C s m := ⟨h.ve, h.nx, h.up, fun z => ⟨(h.un z).1, by have := (h.un z).2.1; omega, (h.un z).2.2⟩, h.me, h.he⟩
theorem MOw.congr {m : Nat} (e0 : t 0 = s 0) (e11 : t 11 = s 11) (e : ∀ w, 1 ≤ w → w ≤ 5 → mf t m w = mf s m w) (h : MOw C s m) : MOw C t m := by
  have d := isD_of (e 2 (by omega) (by omega))
  refine ⟨?_, ?_, ?_, ?_, ?_, ?_⟩
  · unfold vN; rw [e 1 (by omega) (by omega), e0]; exact h.ve
  · rw [d, e 2 (by omega) (by omega), e0]; exact h.nx
  · rw [d, e 3 (by omega) (by omega)]; exact h.up
  · rw [d, e 3 (by omega) (by omega), e11]; exact h.un
  · rw [e 4 (by omega) (by omega)]; exact h.me
  · rw [e 5 (by omega) (by omega)]; exact h.he
theorem endU_o {m o w : Nat} (hw : w < 7) (h : ¬ (o = m ∧ 1 ≤ w ∧ w ≤ 4)) : mf (endU s m) o w = mf s o w := by
  unfold endU
  rw [mf_ly (by omega) hw (by omega), mf_ly (by omega) hw (by omega), mf_ly (by omega) hw (by omega), mf_ly (by omega) hw (by omega)]
theorem endU_1 {m : Nat} : mf (endU s m) m 1 = mf s m 2 := by
  unfold endU
  rw [mf_ly (by omega) (by omega) (by omega), mf_ly (by omega) (by omega) (by omega), mf_ly (by omega) (by omega) (by omega), mf_lys]
theorem endU_2 {m : Nat} : mf (endU s m) m 2 = -(nI 1) := by
  unfold endU
  rw [mf_ly (by omega) (by omega) (by omega), mf_ly (by omega) (by omega) (by omega), mf_lys]
theorem endU_3 {m : Nat} : mf (endU s m) m 3 = -(nI 1) := by
  unfold endU
  rw [mf_ly (by omega) (by omega) (by omega), mf_lys]
theorem endU_4 {m : Nat} : mf (endU s m) m 4 = nI 0 := by
  unfold endU
  rw [mf_lys]
theorem endU_lo {m i : Nat} (hi : i < 49) : endU s m i = s i := by
  unfold endU
  rw [lyS_lo hi, lyS_lo hi, lyS_lo hi, lyS_lo hi]
theorem end_f {m o w : Nat} (ho : o < 12) (hw : w < 7) : mf (endS s m) o w = mf (endU s m) o w := mf_ev ho hw
theorem end_lo {m i : Nat} (hi : i < 49) (h19 : i ≠ 19) : endS s m i = s i := by
  unfold endS
  rw [evS_lo (by omega) h19, endU_lo hi]
theorem agL_end {m : Nat} : agL s (endS s m) := (agL_ly (by omega) (by omega)).trans ((agL_ly (by omega) (by omega)).trans ((agL_ly (by omega) (by omega)).trans ((agL_ly (by omega) (by omega)).trans agL_ev)))
theorem end_19 {m : Nat} : endS s m 19 = s 19 + nI 1 := by
  unfold endS
  rw [evS_19, endU_lo (by omega)]
theorem RkE.end {m : Nat} (R : RkE m C E s) (hE : E + 1 < 2 ^ 31) (hm : m < nn (s 2)) (hd : isD s m = true) : RkE (m + 1) C (E + 1) (endS s m) := by
  have hm2 := R.1.m.2
  refine ⟨R.1.congr agL_end, ⟨?_, ?_⟩, ?_, (isN_19 R.2.2.2 hE end_19).1⟩
  · rw [end_lo (by omega) (by omega)]; exact R.2.1.1
  · intro o ho
    rw [agL_end.n2] at ho
    by_cases q : o = m
    · subst q
      have R1 := (R.2.1.2 o ho).2
      have e2 : mf (endS s o) o 2 = -(nI 1) := by rw [end_f (by omega) (by omega), endU_2]
      have d : isD (endS s o) o = false := isD_m1 e2
      have M : MO C (endS s o) o := by
        refine ⟨?_, ?_, ?_, ?_, ?_, ?_⟩
        · unfold vN; rw [end_f (by omega) (by omega), endU_1, agL_end.n0]; exact R1.nx hd
        · intro z; rw [d] at z; cases z
        · intro _; rw [end_f (by omega) (by omega), endU_3, m1_eq]
        · intro z; rw [d] at z; cases z
        · rw [end_f (by omega) (by omega), endU_4]; exact isN_nI (by omega) (by omega)
        · rw [end_f (by omega) (by omega), endU_o (by omega) (by omega)]; exact R1.he
      exact ⟨fun _ => M, M.weak⟩
    · have e : ∀ w, 1 ≤ w → w ≤ 5 → mf (endS s m) o w = mf s o w := fun w _ _ => by rw [end_f (by omega) (by omega), endU_o (by omega) (by omega)]
      exact ⟨fun z => ((R.2.1.2 o ho).1 (by omega)).congr agL_end.n0 (end_lo (by omega) (by omega)) e, (R.2.1.2 o ho).2.congr agL_end.n0 (end_lo (by omega) (by omega)) e⟩
  · exact R.2.2.1.congr agL_end.n0 agL_end.n3 (end_lo (by omega) (by omega)) (fun i _ _ => end_lo (by omega) (by omega))
theorem RkE.stay {m : Nat} (R : RkE m C E s) (hC : C < 2 ^ 30) (hm : m < nn (s 2)) (hd : endC s m = false) : RkE (m + 1) C (E + 1) s := by
  refine ⟨R.1, ⟨R.2.1.1, ?_⟩, R.2.2.1, R.2.2.2.mono (by omega)⟩
  intro o ho
  refine ⟨fun z => ?_, (R.2.1.2 o ho).2⟩
  by_cases q : o = m
  · subst q
    have R1 := (R.2.1.2 o ho).2
    refine ⟨R1.ve, R1.nx, R1.up, fun z => ?_, R1.me, R1.he⟩
    have h1 := R1.un z
    simp only [endC, z, Bool.true_and, decide_eq_false_iff_not] at hd
    have h3 := R.2.1.1
    have h4 := h3.2
    have h5 := h1.1.2
    refine ⟨h1.1, ?_, h1.2.2⟩
    rw [h1.1.1, h3.1, nI_leI (by omega) (by omega)] at hd
    omega
  · exact (R.2.1.2 o ho).1 (by omega)
/-- the clock goes on -/
theorem Rk.tick (R : Rk C E s) (hC : C < 2 ^ 30) : RkE 0 (C + 1) E (ups s 11 (s 11 + nI 1)) := by
  have hm2 := R.m.2
  have hck := R.ck
  have h11 := hck.2
  have e11 : (ups s 11 (s 11 + nI 1)) 11 = nI (nn (s 11) + 1) := by rw [ups_s, hck.1, nI_add, nn_nI (by omega)]
  have a : agL s (ups s 11 (s 11 + nI 1)) := agL_up (by omega)
  refine ⟨R.1.congr a, ⟨?_, ?_⟩, (R.2.2.1.mono (by omega)).congr a.n0 a.n3 (ups_n (by omega)) (fun i _ _ => ups_n (by omega)), ?_⟩
  · rw [e11]; exact isN_nI (by omega) (by omega)
  · intro o ho
    rw [a.n2] at ho
    have R1 := R.2.1.2 o ho
    have e : ∀ w, mf (ups s 11 (s 11 + nI 1)) o w = mf s o w := fun w => mf_up (by omega)
    have d := isD_of (e 2)
    refine ⟨fun z => absurd z (Nat.not_lt_zero o), ?_, ?_, ?_, ?_, ?_, ?_⟩
    · unfold vN; rw [e, a.n0]; exact R1.ve
    · rw [d, e, a.n0]; exact R1.nx
    · rw [d, e]; exact R1.up
    · rw [d, e, e11, nn_nI (n := nn (s 11) + 1) (by omega)]
      intro z
      have := R1.un z
      exact ⟨this.1.mono (by omega), by omega, by omega⟩
    · rw [e]; exact R1.me
    · rw [e]; exact R1.he
  · rw [ups_n (by omega)]; exact R.ev
theorem endA_agL : ∀ n, agL s (endA n s)
  | 0 => agL.refl s
  | n + 1 => by
    unfold endA
    split
    · exact (endA_agL n).trans agL_end
    · exact endA_agL n
theorem RkE.endA (R : RkE 0 C E s) (hC : C < 2 ^ 30) (hE : E + 12 < 2 ^ 31) : ∀ n, n ≤ nn (s 2) → RkE n C (E + n) (endA n s)
  | 0, _ => R
  | n + 1, hn => by
    have hm2 := R.1.m.2
    have ih := RkE.endA R hC hE n (by omega)
    have e2 : (_root_.Jvm.Pilot.CWaveUpgradeLaw_law_r2622_ef96a7.endA n s) 2 = s 2 := (endA_agL n).n2
    unfold _root_.Jvm.Pilot.CWaveUpgradeLaw_law_r2622_ef96a7.endA
    cases q : endC (_root_.Jvm.Pilot.CWaveUpgradeLaw_law_r2622_ef96a7.endA n s) n
    · exact ih.stay hC (by rw [e2]; omega) q
    · refine ih.end (by omega) (by rw [e2]; omega) ?_
      simp only [endC, Bool.and_eq_true] at q
      exact q.1
theorem RkE.full (R : RkE (nn (s 2)) C E s) : Rk C E s := ⟨R.1, ⟨R.2.1.1, fun m hm => (R.2.1.2 m hm).1 hm⟩, R.2.2.1, R.2.2.2⟩
theorem Rk.min1 (R : Rk C E s) (hC : C < 2 ^ 29) (hE : E + 12 < 2 ^ 31) : Rk (C + 1) (E + 12) (min1 s) := by
  have hm2 := R.m.2
  have h1 := R.tick (by omega)
  have e2 : (ups s 11 (s 11 + nI 1)) 2 = s 2 := ups_n (by omega)
  have h2 := h1.endA (by omega) hE (nn (s 2)) (by rw [e2]; omega)
  have e3 : (endA (nn (s 2)) (ups s 11 (s 11 + nI 1))) 2 = s 2 := (endA_agL _).n2.trans e2
  refine Rk.mono (Nat.le_refl _) (?_ : E + nn (s 2) ≤ E + 12) (RkE.full ?_)
  · omega
  · show RkE (nn ((endA (nn (s 2)) (ups s 11 (s 11 + nI 1))) 2)) _ _ _
    rw [e3]; exact h2
/-! the plan -/
theorem hasP_t {n : Nat} (e : s 12 = nI n) (h : 1 ≤ n) (h3 : n ≤ 3) : hasP s = true := by
  have h1 : ¬ nI n = 0 := nI_ne0 (by omega) (by omega)
  have h2 : ¬ nI n = nI 4 := by rw [nI_eq (by omega) (by omega)]; omega
  simp [hasP, e, h1, h2]
theorem going_t (h : going s = true) : s 12 = nI 1 ∨ s 12 = nI 2 := by
  simpa [going] using h
theorem going_P (h : going s = true) : hasP s = true := by
  rcases going_t h with e | e
  · exact hasP_t e (by omega) (by omega)
  · exact hasP_t e (by omega) (by omega)
/-- a row that differs in the plan alone, and in an event -/
theorem Rk.plan {u : RW} {k m n : Int32} (R : Rk C E s) (hE : E + 1 < 2 ^ 31) (h : ∀ i, (i < 12 ∨ 19 ≤ i) → u i = s i) (T : RkT C u) : Rk C (E + 1) (evS u k m n) := by
  have a : agL s u := fun i hi => h i (by omega)
  have R2 : Rk C E u := ⟨R.1.congr a, ⟨by rw [h 11 (by omega)]; exact R.ck, fun o ho => by
    rw [a.n2] at ho
    exact (R.2.1.2 o ho).congr a.n0 (h 11 (by omega)) (fun w _ _ => h _ (by omega))⟩, T, by rw [h 19 (by omega)]; exact R.ev⟩
  exact R2.evs hE
theorem Rk.plan0 {u : RW} (R : Rk C E s) (h : ∀ i, (i < 12 ∨ 19 ≤ i) → u i = s i) (T : RkT C u) : Rk C E u := by
  have a : agL s u := fun i hi => h i (by omega)
  exact ⟨R.1.congr a, ⟨by rw [h 11 (by omega)]; exact R.ck, fun o ho => by
    rw [a.n2] at ho
    exact (R.2.1.2 o ho).congr a.n0 (h 11 (by omega)) (fun w _ _ => h _ (by omega))⟩, T, by rw [h 19 (by omega)]; exact R.ev⟩
theorem Rk.stop (R : Rk C E s) (hE : E + 1 < 2 ^ 31) (g : going s = true) : Rk C (E + 1) (stopS s) := by
  have hp := going_P g
  have hp2 : hasP (ups (ups s 18 (s 12)) 12 (nI 3)) = true := hasP_t ups_s (by omega) (by omega)
  have e : ∀ i, i ≠ 12 → i ≠ 18 → (ups (ups s 18 (s 12)) 12 (nI 3)) i = s i := fun i h1 h2 => by rw [ups_n h1, ups_n h2]
  have e18 : (ups (ups s 18 (s 12)) 12 (nI 3)) 18 = s 12 := by rw [ups_n (by omega), ups_s]
  refine R.plan hE (fun i hi => e i (by omega) (by omega)) ⟨?_, ?_, ?_, ?_, ?_, ?_, ?_, ?_⟩
  · rw [e 5 (by omega) (by omega)]; exact R.f
  · rw [ups_s]; exact isN_nI (by omega) (by omega)
  · intro _; rw [e 13 (by omega) (by omega), e 0 (by omega) (by omega)]; exact R.ta hp
  · intro _; rw [e 14 (by omega) (by omega), e 0 (by omega) (by omega)]; exact R.se hp
  · intro _; rw [e 15 (by omega) (by omega), e 3 (by omega) (by omega)]; exact R.tu hp
  · intro _; rw [e 17 (by omega) (by omega), e 14 (by omega) (by omega), e 13 (by omega) (by omega)]; exact R.dr hp
  · intro _; rw [e18]; exact going_t g
  · rw [e18, ups_s, e 16 (by omega) (by omega)]
    rintro (z | ⟨-, z⟩)
    · exact absurd z (by decide)
    · exact R.en (Or.inl z)
theorem RkT.none {n : Nat} (f : isN (s 5) 9) (e : s 12 = nI n) (h : n = 0 ∨ n = 4) : RkT C s := by
  have hp : hasP s = false := by
    rcases h with rfl | rfl
    · simp [hasP, e, nI_0]
    · simp [hasP, e]
  have h3 : ¬ s 12 = nI 3 := by rw [e, nI_eq (by omega) (by omega)]; omega
  have h2 : ¬ s 12 = nI 2 := by rw [e, nI_eq (by omega) (by omega)]; omega
  refine ⟨f, by rw [e]; exact isN_nI (by omega) (by omega), ?_, ?_, ?_, ?_, fun z => absurd z h3, ?_⟩
  · intro z; rw [hp] at z; cases z
  · intro z; rw [hp] at z; cases z
  · intro z; rw [hp] at z; cases z
  · intro z; rw [hp] at z; cases z
  · rintro (z | ⟨z, -⟩)
    · exact absurd z h2
    · exact absurd z h3
theorem Rk.done (R : Rk C E s) (hE : E + 1 < 2 ^ 31) : Rk C (E + 1) (doneS s) := by
  refine R.plan hE (fun i hi => ups_n (by omega)) (RkT.none (n := 4) ?_ ups_s (by omega))
  rw [ups_n (by omega)]; exact R.f
theorem Rk.soak (R : Rk C E s) (hC : C < 2 ^ 30) (hE : E + 1 < 2 ^ 31) (hp : hasP s = true) : Rk C (E + 1) (soakS s) := by
  have hck := R.ck
  have h11 := hck.2
  have hso := R.so
  have h9 := hso.2
  have e : ∀ i, i ≠ 12 → i ≠ 16 → (ups (ups s 12 (nI 2)) 16 (s 11 + s 9)) i = s i := fun i h1 h2 => by rw [ups_n h2, ups_n h1]
  have e12 : (ups (ups s 12 (nI 2)) 16 (s 11 + s 9)) 12 = nI 2 := by rw [ups_n (by omega), ups_s]
  refine R.plan hE (fun i hi => e i (by omega) (by omega)) ⟨?_, ?_, ?_, ?_, ?_, ?_, ?_, ?_⟩
  · rw [e 5 (by omega) (by omega)]; exact R.f
  · rw [e12]; exact isN_nI (by omega) (by omega)
  · intro _; rw [e 13 (by omega) (by omega), e 0 (by omega) (by omega)]; exact R.ta hp
  · intro _; rw [e 14 (by omega) (by omega), e 0 (by omega) (by omega)]; exact R.se hp
  · intro _; rw [e 15 (by omega) (by omega), e 3 (by omega) (by omega)]; exact R.tu hp
  · intro _; rw [e 17 (by omega) (by omega), e 14 (by omega) (by omega), e 13 (by omega) (by omega)]; exact R.dr hp
  · rw [e12]; intro z; exact absurd z (by decide)
  · intro _
    rw [ups_s, hck.1, hso.1, nI_add]
    exact isN_nI (by omega) (by omega)
theorem Rk.next (R : Rk C E s) (hE : E + 1 < 2 ^ 31) (e12 : s 12 = nI 2) : Rk C (E + 1) (nextS s) := by
  have hp := hasP_t e12 (by omega) (by omega)
  have htu := R.tu hp
  have hw := R.w.2
  have h15 := htu.1.2
  have hse := R.se hp
  have hta := R.ta hp
  have h14 := hse.1.2
  have h13 := hta.1.2
  have e15 : s 15 + nI 1 = nI (nn (s 15) + 1) := by
    have : s 15 + nI 1 = nI (nn (s 15)) + nI 1 := by rw [← htu.1.1]
    rw [this, nI_add]
  unfold nextS
  split
  · rename_i hlt
    have e : ∀ i, i ≠ 12 → i ≠ 15 → nextU s i = s i := fun i h1 h2 => by unfold nextU; rw [ups_n h1, ups_n h2]
    have u12 : nextU s 12 = nI 1 := ups_s
    have u15 : nextU s 15 = nI (nn (s 15) + 1) := by unfold nextU; rw [ups_n (by omega), ups_s, e15]
    refine Rk.mono (Nat.le_refl _) (Nat.le_succ _) (R.plan0 (fun i hi => e i (by omega) (by omega)) ⟨?_, ?_, ?_, ?_, ?_, ?_, ?_, ?_⟩)
    · rw [e 5 (by omega) (by omega)]; exact R.f
    · rw [u12]; exact isN_nI (by omega) (by omega)
    · intro _; rw [e 13 (by omega) (by omega), e 0 (by omega) (by omega)]; exact hta
    · intro _; rw [e 14 (by omega) (by omega), e 0 (by omega) (by omega)]; exact hse
    · intro _; rw [u15, e 3 (by omega) (by omega), nn_nI (n := nn (s 15) + 1) (by omega)]; exact ⟨isN_nI (by omega) (by omega), hlt⟩
    · intro _; rw [e 17 (by omega) (by omega), e 14 (by omega) (by omega), e 13 (by omega) (by omega)]; exact R.dr hp
    · rw [u12]; intro z; exact absurd z (by decide)
    · rw [u12]; rintro (z | ⟨z, -⟩)
      · exact absurd z (by decide)
      · exact absurd z (by decide)
  · rename_i hge
    have e : ∀ i, i ≠ 12 → i ≠ 15 → (ups (nextU s) 15 (nI 0)) i = s i := fun i h1 h2 => by unfold nextU; rw [ups_n h2, ups_n h1, ups_n h2]
    have u12 : (ups (nextU s) 15 (nI 0)) 12 = nI 1 := by rw [ups_n (by omega)]; exact ups_s
    have T1 : RkT C (ups (nextU s) 15 (nI 0)) := by
      refine ⟨?_, ?_, ?_, ?_, ?_, ?_, ?_, ?_⟩
      · rw [e 5 (by omega) (by omega)]; exact R.f
      · rw [u12]; exact isN_nI (by omega) (by omega)
      · intro _; rw [e 13 (by omega) (by omega), e 0 (by omega) (by omega)]; exact hta
      · intro _; rw [e 14 (by omega) (by omega), e 0 (by omega) (by omega)]; exact hse
      · intro _; rw [ups_s, e 3 (by omega) (by omega), nn_nI (n := 0) (by omega)]; exact ⟨isN_nI (by omega) (by omega), by omega⟩
      · intro _; rw [e 17 (by omega) (by omega), e 14 (by omega) (by omega), e 13 (by omega) (by omega)]; exact R.dr hp
      · rw [u12]; intro z; exact absurd z (by decide)
      · rw [u12]; rintro (z | ⟨z, -⟩)
        · exact absurd z (by decide)
        · exact absurd z (by decide)
    have R1 : Rk C E (ups (nextU s) 15 (nI 0)) := R.plan0 (fun i hi => e i (by omega) (by omega)) T1
    split
    · exact R1.done hE
    · rename_i hne
      refine Rk.mono (Nat.le_refl _) (Nat.le_succ _) (R1.plan0 (fun i hi => ups_n (by omega)) ?_)
      have f : ∀ i, i ≠ 14 → (ups (ups (nextU s) 15 (nI 0)) 14 (s 14 + (if s 17 = nI 1 then nI 1 else -(nI 1)))) i = (ups (nextU s) 15 (nI 0)) i := fun i h1 => ups_n h1
      have hp1 : hasP (ups (nextU s) 15 (nI 0)) = true := hasP_t u12 (by omega) (by omega)
      have hne2 : ¬ nn (s 14) = nn (s 13) := fun z => hne (by rw [hse.1.1, hta.1.1, z])
      have hdr := R.dr hp
      have key : ∃ k, s 14 + (if s 17 = nI 1 then nI 1 else -(nI 1)) = nI k ∧ k < nn (s 0) ∧ ((s 17 = nI 1 ∧ k ≤ nn (s 13)) ∨ (s 17 = 0 ∧ nn (s 13) ≤ k)) := by
        rcases hdr with ⟨h17, hle⟩ | ⟨h17, hle⟩
        · refine ⟨nn (s 14) + 1, ?_, by omega, Or.inl ⟨h17, by omega⟩⟩
          rw [if_pos h17]
          have : s 14 + nI 1 = nI (nn (s 14)) + nI 1 := by rw [← hse.1.1]
          rw [this, nI_add]
        · refine ⟨nn (s 14) - 1, ?_, by omega, Or.inr ⟨h17, by omega⟩⟩
          rw [if_neg (by rw [h17]; decide)]
          have : s 14 + -(nI 1) = nI (nn (s 14)) + -(nI 1) := by rw [← hse.1.1]
          rw [this, m1_eq, sb_m1 (by omega)]
      obtain ⟨k, k1, k2, k3⟩ := key
      have hv := R.v.2
      refine ⟨?_, ?_, ?_, ?_, ?_, ?_, ?_, ?_⟩
      · rw [f 5 (by omega), e 5 (by omega) (by omega)]; exact R.f
      · rw [f 12 (by omega)]; exact T1.st
      · intro _; rw [f 13 (by omega), f 0 (by omega)]; exact T1.ta hp1
      · intro _
        rw [f 0 (by omega), e 0 (by omega) (by omega), ups_s, k1, nn_nI (n := k) (by omega)]
        exact ⟨isN_nI (by omega) (by omega), k2⟩
      · intro _; rw [f 15 (by omega), f 3 (by omega)]; exact T1.tu hp1
      · intro _
        rw [f 17 (by omega), e 17 (by omega) (by omega), f 13 (by omega), e 13 (by omega) (by omega), ups_s, k1, nn_nI (n := k) (by omega)]
        exact k3
      · rw [f 12 (by omega), f 18 (by omega)]; exact T1.wa
      · rw [f 12 (by omega), f 18 (by omega), f 16 (by omega)]; exact T1.en
end

