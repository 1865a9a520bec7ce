/-! ===== what always holds of a cluster that grew: coming versions, those who are down ===== -/
section
variable {kk : Int32 → PH → Prop} {h h' h0 h1 : PH} {w k v j c : Nat} {W : WN} {s s' t : RW} {C E : Nat} {Q : Res → PH → Prop} {x y z : Int32} {ps : List RW}
def Good (s : RW) : Prop := (∀ j k, j < nn (s 2) → k < nn (s 2) → apt (cN s j) (cN s k) ≤ nn (s 6)) ∧ (∀ k, k < nn (s 2) → rds s (cN s k) (s 5) = true) ∧ (∀ j k, j < nn (s 2) → k < nn (s 2) → par s j k = true → tlk s (cN s j) (cN s k) = true) ∧ (∀ p : Int32, cnt (nn (s 2)) (dnIn s p) ≤ nn (s 7))
theorem cnt_mono {p r : Nat → Bool} : ∀ {n}, (∀ i, i < n → p i = true → r i = true) → cnt n p ≤ cnt n r
  | 0, _ => Nat.le_refl _
  | n + 1, h => by
    have ih := cnt_mono (n := n) (fun i hi => h i (by omega))
    have hn := h n (by omega)
    rw [cnt, cnt]
    cases e : p n
    · cases r n <;> simp only <;> omega
    · rw [hn e]; simp only; omega
theorem cnt_one {p r : Nat → Bool} {k : Nat} : ∀ {n}, (∀ i, i < n → i ≠ k → r i = p i) → cnt n r ≤ cnt n p + 1
  | 0, _ => Nat.zero_le _
  | n + 1, h => by
    by_cases e : n = k
    · have : cnt n r = cnt n p := cnt_eq (fun i hi => h i (by omega) (by omega))
      rw [cnt, cnt, this]
      cases r n <;> cases p n <;> simp only <;> omega
    · have ih := cnt_one (k := k) (n := n) (fun i hi hk => h i (by omega) hk)
      rw [cnt, cnt, h n (by omega) e]
      omega
theorem Good.same (G : Good s) (R : RkL s) (a : agL s t) (e5 : t 5 = s 5) (ec : ∀ k, k < nn (s 2) → cN t k = cN s k) (eb : ∀ k, k < nn (s 2) → cN s k < 8) (ed : ∀ k, k < nn (s 2) → isD t k = true → isD s k = true) : Good t := by
  obtain ⟨g1, g2, g3, g4⟩ := G
  have hm := R.m.2
  unfold Good
  rw [a.n2]
  refine ⟨fun j k hj hk => ?_, fun k hk => ?_, fun j k hj hk hp => ?_, fun p => ?_⟩
  · rw [ec j hj, ec k hk, a 6 (by omega)]; exact g1 j k hj hk
  · rw [ec k hk, a.rds (eb k hk), e5]; exact g2 k hk
  · rw [a.par (by omega) (by omega)] at hp
    rw [ec j hj, ec k hk, a.tlk (eb j hj)]; exact g3 j k hj hk hp
  · rw [a 7 (by omega)]
    refine Nat.le_trans (cnt_mono (fun i hi e => ?_)) (g4 p)
    unfold dnIn at e ⊢
    rw [Bool.and_eq_true] at e ⊢
    rw [a.pl (by omega)] at e
    exact ⟨e.1, ed i hi e.2⟩
theorem com_lt (R : Rk C E s) : ∀ k, k < nn (s 2) → cN s k < 8 := fun k hk => by have := (com_c R hk).2; have := R.v.2; omega
theorem cN_of {m : Nat} (e : mf t m 2 = mf s m 2) (e1 : mf t m 1 = mf s m 1) : cN t m = cN s m := congrArg nn (com_of e e1)
/-- a change of what these questions don't see -/
theorem Good.keep (G : Good s) (R : Rk C E s) (a : agL s t) (e5 : t 5 = s 5) (em : ∀ k w, k < nn (s 2) → (w = 1 ∨ w = 2) → mf t k w = mf s k w) : Good t :=
  G.same R.1 a e5 (fun k hk => cN_of (em k 2 hk (Or.inr rfl)) (em k 1 hk (Or.inl rfl))) (com_lt R) (fun k hk e => by rw [← isD_of (em k 2 hk (Or.inr rfl))]; exact e)
theorem whyN_z (e : whyN s k v = 0) : mf s k 5 ≠ nI 1 ∧ isD s k = false ∧ vN s k ≠ v ∧ rds s v (s 5) = true ∧ cnt (nn (s 2)) (dnIn s (mf s k 0)) < nn (s 7) ∧ farM s k v = false ∧ anyN (nn (s 2)) (slnt s k v) = false := by
  unfold whyN at e
  split at e
  · cases e
  · rename_i q1
    split at e
    · cases e
    · rename_i q2
      split at e
      · cases e
      · rename_i q3
        split at e
        · cases e
        · rename_i q4
          split at e
          · cases e
          · rename_i q5
            split at e
            · cases e
            · rename_i q6
              split at e
              · cases e
              · rename_i q7
                exact ⟨q1, Bool.eq_false_iff.mpr q2, q3, by
                  cases z : rds s v (s 5)
                  · exact absurd z q4
                  · rfl, by omega, Bool.eq_false_iff.mpr q6, Bool.eq_false_iff.mpr q7⟩
theorem apt_sy {a b : Nat} : apt a b = apt b a := by unfold apt; split <;> split <;> omega
theorem apt_0 {a : Nat} : apt a a = 0 := by unfold apt; split <;> omega
theorem beg_c (hk : k < 12) (hv : v < 8) : cN (begS s k (nI v)) k = v ∧ isD (begS s k (nI v)) k = true := by
  have e2 : mf (begS s k (nI v)) k 2 = nI v := beg_2 hk
  have d : isD (begS s k (nI v)) k = true := isD_n (b := 8) (by rw [e2]; exact isN_nI (by omega) (by decide))
  refine ⟨?_, d⟩
  unfold cN com
  rw [d, e2]
  exact nn_nI (by omega)
theorem beg_oth {o : Nat} (ho : o < 12) (h : o ≠ k) {x : Int32} : cN (begS s k x) o = cN s o ∧ isD (begS s k x) o = isD s o := ⟨cN_of (beg_o ho (by decide) (fun z => h z.1)) (beg_o ho (by decide) (fun z => h z.1)), isD_of (beg_o ho (by decide) (fun z => h z.1))⟩
theorem tlk_rf {a : Nat} : tlk s a a = true := by unfold tlk; rw [decide_eq_true rfl]; rfl
theorem Good.beg (G : Good s) (R : Rk C E s) (hk : k < nn (s 2)) (hv : v < nn (s 0)) (hw : whyN s k v = 0) : Good (begS s k (nI v)) := by
  obtain ⟨g1, g2, g3, g4⟩ := G
  obtain ⟨-, wd, -, w4, w5, w6, w7⟩ := whyN_z hw
  have hm := R.m.2
  have hv8 := R.v.2
  have a : agL s (begS s k (nI v)) := agL_beg
  obtain ⟨b1, b2⟩ := beg_c (s := s) (k := k) (v := v) (by omega) (by omega)
  have far : ∀ o, o < nn (s 2) → o ≠ k → apt v (cN s o) ≤ nn (s 6) := fun o ho hne => by
    have := anyN_f.mp w6 o ho
    rw [decide_eq_false hne] at this
    rcases Nat.lt_or_ge (nn (s 6)) (apt v (cN s o)) with q | q
    · rw [decide_eq_true q] at this; cases this
    · exact q
  have sil : ∀ o, o < nn (s 2) → par s k o = true → tlk s v (cN s o) = true := fun o ho hp => by
    have := anyN_f.mp w7 o ho
    unfold slnt at this
    rw [hp] at this
    cases e : tlk s v (cN s o)
    · rw [e] at this; cases this
    · rfl
  unfold Good
  rw [a.n2]
  have e5 : begS s k (nI v) 5 = s 5 := beg_lo (by decide) (by decide)
  refine ⟨fun i o hi ho => ?_, fun o ho => ?_, fun i o hi ho hp => ?_, fun p => ?_⟩
  · rw [a 6 (by omega)]
    by_cases q : i = k
    · subst q
      rw [b1]
      by_cases q2 : o = i
      · subst q2; rw [b1, apt_0]; omega
      · rw [(beg_oth (by omega) q2).1]; exact far o ho q2
    · rw [(beg_oth (by omega) q).1]
      by_cases q2 : o = k
      · subst q2; rw [b1, apt_sy]; exact far i hi q
      · rw [(beg_oth (by omega) q2).1]; exact g1 i o hi ho
  · rw [e5]
    by_cases q : o = k
    · subst q; rw [b1, a.rds (by omega)]; exact w4
    · rw [(beg_oth (by omega) q).1, a.rds (com_lt R o ho)]; exact g2 o ho
  · rw [a.par (by omega) (by omega)] at hp
    by_cases q : i = k
    · subst q
      by_cases q2 : o = i
      · subst q2; exact tlk_rf
      · rw [b1, (beg_oth (by omega) q2).1, a.tlk (by omega)]; exact sil o ho hp
    · by_cases q2 : o = k
      · subst q2
        rw [(beg_oth (by omega) q).1, b1, a.tlk (com_lt R i hi), R.ts _ _ (com_c R hi).2 hv]
        exact sil i hi (by rw [R.sy _ _ ho hi]; exact hp)
      · rw [(beg_oth (by omega) q).1, (beg_oth (by omega) q2).1, a.tlk (com_lt R i hi)]; exact g3 i o hi ho hp
  · rw [a 7 (by omega)]
    have eo : ∀ i, i < nn (s 2) → i ≠ k → dnIn (begS s k (nI v)) p i = dnIn s p i := fun i hi hne => by
      unfold dnIn
      rw [(beg_oth (by omega) hne).2, a.pl (by omega)]
    by_cases q : mf s k 0 = p
    · rw [q] at w5
      exact Nat.le_trans (cnt_one eo) w5
    · refine Nat.le_trans (cnt_mono (fun i hi e => ?_)) (g4 p)
      by_cases q2 : i = k
      · exfalso
        subst q2
        unfold dnIn at e
        rw [a.pl (by omega), decide_eq_false q] at e
        cases e
      · rw [eo i hi q2] at e; exact e
theorem Good.fmt (G : Good s) (R : Rk C E s) (hw : whyF s x = 0) : Good (fmtS s x) := by
  obtain ⟨g1, g2, g3, g4⟩ := G
  have hm := R.m.2
  have a : agL s (fmtS s x) := fmt_ag
  have ha : allR s x = true := by
    unfold whyF at hw
    split at hw
    · split at hw
      · assumption
      · cases hw
    · cases hw
  have e5 : fmtS s x 5 = x := by
    unfold fmtS
    rw [evS_lo (by decide) (by decide), ups_s]
  have em : ∀ k w, k < 12 → w < 7 → mf (fmtS s x) k w = mf s k w := fun k w hk hw => by
    unfold fmtS
    rw [mf_ev hk hw, mf_up (by decide)]
  unfold Good
  rw [a.n2]
  have ec : ∀ k, k < nn (s 2) → cN (fmtS s x) k = cN s k := fun k hk => cN_of (em k 2 (by omega) (by decide)) (em k 1 (by omega) (by decide))
  refine ⟨fun j k hj hk => ?_, fun k hk => ?_, fun j k hj hk hp => ?_, fun p => ?_⟩
  · rw [ec j hj, ec k hk, a 6 (by omega)]; exact g1 j k hj hk
  · rw [ec k hk, a.rds (com_lt R k hk), e5]; exact allN_iff.mp ha k hk
  · rw [a.par (by omega) (by omega)] at hp
    rw [ec j hj, ec k hk, a.tlk (com_lt R j hj)]; exact g3 j k hj hk hp
  · rw [a 7 (by omega)]
    refine Nat.le_trans (cnt_mono (fun i hi e => ?_)) (g4 p)
    unfold dnIn at e ⊢
    rw [a.pl (by omega), isD_of (em i 2 (by omega) (by decide))] at e
    exact e
/-! minutes -/
theorem Good.ev (G : Good s) (R : Rk C E s) {a b c : Int32} {i : Nat} {u : RW} (hu : ∀ j, (j < 12 ∨ 19 ≤ j) → u j = s j) : Good (evS u a b c) := by
  have hm := R.m.2
  have e : ∀ j, j < 133 → j ≠ 19 → (j < 12 ∨ 19 ≤ j) → evS u a b c j = s j := fun j h1 h2 h3 => (evS_lo h1 h2).trans (hu j h3)
  exact G.keep R (fun j hj => e j (by omega) (by omega) (by omega)) (e 5 (by omega) (by omega) (by omega)) (fun k w hk hw => e _ (by omega) (by omega) (by omega))
theorem Good.pl (G : Good s) (R : Rk C E s) {u : RW} (hu : ∀ j, (j < 12 ∨ 19 ≤ j) → u j = s j) : Good u :=
  G.keep R (fun j hj => hu j (by omega)) (hu 5 (by omega)) (fun k w hk hw => hu _ (by omega))
theorem endS_c {m : Nat} (hm : m < 12) (hd : isD s m = true) {o : Nat} (ho : o < 12) : cN (endS s m) o = cN s o ∧ (isD (endS s m) o = true → isD s o = true) := by
  by_cases q : o = m
  · subst q
    have e2 : mf (endS s o) o 2 = -(nI 1) := (end_f ho (by decide)).trans endU_2
    have e1 : mf (endS s o) o 1 = mf s o 2 := (end_f ho (by decide)).trans endU_1
    have d := isD_m1 e2
    refine ⟨?_, fun e => by rw [d] at e; cases e⟩
    unfold cN com
    rw [d, hd, e1]
  · have e : ∀ w, w < 7 → mf (endS s m) o w = mf s o w := fun w hw => (end_f ho hw).trans (endU_o hw (fun z => q z.1))
    refine ⟨cN_of (e 2 (by decide)) (e 1 (by decide)), fun y => by rw [← isD_of (e 2 (by decide))]; exact y⟩
theorem endA_c (hm : nn (s 2) ≤ 12) : ∀ n, n ≤ nn (s 2) → ∀ o, o < nn (s 2) → cN (endA n s) o = cN s o ∧ (isD (endA n s) o = true → isD s o = true)
  | 0, _, o, _ => ⟨rfl, fun e => e⟩
  | n + 1, hn, o, ho => by
    have ih := endA_c hm n (by omega)
    cases e : endC (endA n s) n
    · rw [endA_f e]; exact ih o ho
    · rw [endA_t e]
      have hd : isD (endA n s) n = true := by
        unfold endC at e
        rw [Bool.and_eq_true] at e
        exact e.1
      have b := endS_c (s := endA n s) (m := n) (by omega) hd (o := o) (by omega)
      exact ⟨b.1.trans (ih o ho).1, fun y => (ih o ho).2 (b.2 y)⟩
theorem Good.min1 (G : Good s) (R : Rk C E s) : Good (min1 s) := by
  have hm := R.m.2
  have G1 : Good (ups s 11 (s 11 + nI 1)) := G.keep R (agL_up (by omega)) (ups_n (by decide)) (fun k w _ _ => mf_up (by decide))
  have e2 : (ups s 11 (s 11 + nI 1)) 2 = s 2 := ups_n (by decide)
  have RL : RkL (ups s 11 (s 11 + nI 1)) := R.1.congr (agL_up (by omega))
  have hc := endA_c (s := ups s 11 (s 11 + nI 1)) (by rw [e2]; exact hm) (nn (s 2)) (by rw [e2]; exact Nat.le_refl _)
  rw [e2] at hc
  exact G1.same RL (endA_agL _) (endA_lo _ 5 (by decide) (by decide)) (fun k hk => (hc k (by rw [e2] at hk; exact hk)).1) (fun k hk => by
    rw [e2] at hk
    rw [cN_of (s := s) (t := ups s 11 (s 11 + nI 1)) (mf_up (by decide)) (mf_up (by decide))]
    exact com_lt R k hk) (fun k hk => (hc k (by rw [e2] at hk; exact hk)).2)
theorem Good.stop (G : Good s) (R : Rk C E s) : Good (stopS s) := G.ev R (i := 0) (fun j hj => by rw [ups_n (by omega), ups_n (by omega)])
theorem Good.next (G : Good s) (R : Rk C E s) : Good (nextS s) := by
  have hu : ∀ j, (j < 12 ∨ 19 ≤ j) → nextU s j = s j := fun j hj => by unfold nextU; rw [ups_n (by omega), ups_n (by omega)]
  unfold nextS
  split
  · exact G.pl R hu
  · split
    · exact G.ev R (i := 0) (fun j hj => by rw [ups_n (by omega), ups_n (by omega)]; exact hu j hj)
    · exact G.pl R (fun j hj => by rw [ups_n (by omega), ups_n (by omega)]; exact hu j hj)
theorem Good.soak (G : Good s) (R : Rk C E s) : Good (soakS s) := G.ev R (i := 0) (fun j hj => by rw [ups_n (by omega), ups_n (by omega)])
theorem Good.rolA (G : Good s) (R : Rk C E s) (hC : C < 2 ^ 30) (hE : E + 12 < 2 ^ 31) (hp : hasP s = true) : ∀ n, n ≤ nn (s 2) → Good (rolA n s)
  | 0, _ => G
  | n + 1, hn => by
    have ih := G.rolA R hC hE hp n (by omega)
    cases e : rolC (_root_.Jvm.Pilot.CWaveUpgradeLaw_law_r2622_ef96a7.rolA n s) n
    · rw [(rolA_f e).1]; exact ih
    · rw [(rolA_t e).1]
      have hm := R.m.2
      have RS := R.rolA hC hE hp n (by omega)
      have e14 : _root_.Jvm.Pilot.CWaveUpgradeLaw_law_r2622_ef96a7.rolA n s 14 = s 14 := rolA_lo n 14 (by decide) (by decide)
      have e2 : _root_.Jvm.Pilot.CWaveUpgradeLaw_law_r2622_ef96a7.rolA n s 2 = s 2 := (rolA_agL n).n2
      have hpS : hasP (_root_.Jvm.Pilot.CWaveUpgradeLaw_law_r2622_ef96a7.rolA n s) = true := (hasP_of (rolA_lo n 12 (by decide) (by decide))).trans hp
      have se := RS.2.2.1.se hpS
      have hw : whyN (_root_.Jvm.Pilot.CWaveUpgradeLaw_law_r2622_ef96a7.rolA n s) n (nn (_root_.Jvm.Pilot.CWaveUpgradeLaw_law_r2622_ef96a7.rolA n s 14)) = 0 := by
        unfold rolC at e
        simp only [Bool.and_eq_true, decide_eq_true_eq] at e
        exact e.2.2.2.2
      rw [← e14, se.1.1]
      exact ih.beg RS (by rw [e2]; omega) se.2 hw
theorem Good.minS (G : Good s) (R : Rk C E s) (hC : C < 2 ^ 29) (hE : E + 30 < 2 ^ 31) : Good (minS s) := by
  have G1 := G.min1 R
  have R1 := R.min1 hC (by omega)
  have R2 := R.min2 hC (by omega)
  have R3 := R.min3 hC (by omega)
  have G2 : Good (min2 s) := by
    unfold min2
    split
    · exact G1.stop R1
    · exact G1
  have G3 : Good (min3 s) := by
    unfold min3
    split
    · exact G2.next R2
    · exact G2
  unfold _root_.Jvm.Pilot.CWaveUpgradeLaw_law_r2622_ef96a7.minS
  split
  · rename_i c
    have hp := hasP_t c (by omega) (by omega)
    have G4 := G3.rolA R3 (by omega) (by omega) hp _ (Nat.le_refl _)
    unfold rolS
    split
    · exact G4.soak (R3.rolA (by omega) (by omega) hp _ (Nat.le_refl _))
    · exact G4
  · exact G3
theorem Good.itS (G : Good s) (R : Rk C E s) : ∀ n, C + n < 2 ^ 29 → E + 30 * n < 2 ^ 31 → Good (itS n s)
  | 0, _, _ => G
  | n + 1, h1, h2 => (G.itS R n (by omega) (by omega)).minS (R.it n (by omega) (by omega)) (by omega) (by omega)
theorem Good.sta (G : Good s) (R : Rk C E s) : Good (staS s v) := by
  have hm := R.m.2
  have h0 : ∀ j, (j < 12 ∨ 19 ≤ j) → j < 133 → j ≠ 19 → staU s (nI v) j = s j := fun j hj h1 h2 => (staU_n hj).trans (evS_lo h1 h2)
  unfold staS
  split
  · have e : ∀ j, j < 133 → j ≠ 19 → (j < 12 ∨ 19 ≤ j) → doneS (staU s (nI v)) j = s j := fun j h1 h2 h3 => by
      unfold doneS
      rw [evS_lo h1 h2, ups_n (by omega)]
      exact h0 j h3 h1 h2
    exact G.keep R (fun j hj => e j (by omega) (by omega) (by omega)) (e 5 (by omega) (by omega) (by omega)) (fun k w hk hw => e _ (by omega) (by omega) (by omega))
  · have e : ∀ y1 y2 y3, ∀ j, j < 133 → j ≠ 19 → (j < 12 ∨ 19 ≤ j) → (ups (ups (ups (staU s (nI v)) 17 y1) 14 y2) 12 y3) j = s j := fun y1 y2 y3 j h1 h2 h3 => by
      rw [ups_n (by omega), ups_n (by omega), ups_n (by omega)]
      exact h0 j h3 h1 h2
    exact G.keep R (fun j hj => e _ _ _ j (by omega) (by omega) (by omega)) (e _ _ _ 5 (by omega) (by omega) (by omega)) (fun k w hk hw => e _ _ _ _ (by omega) (by omega) (by omega))
theorem Good.gon (G : Good s) (R : Rk C E s) : Good (gonS s) := G.ev R (i := 0) (fun j hj => by rw [ups_n (by omega)])
theorem Good.hld (G : Good s) (R : Rk C E s) (hk : k < nn (s 2)) {b : Bool} : Good (hldS s k b) := by
  have hm := R.m.2
  have e : ∀ o w, o < nn (s 2) → (w = 1 ∨ w = 2) → mf (hldS s k b) o w = mf s o w := fun o w ho hw => by
    unfold hldS
    rw [mf_ev (by omega) (by omega), mf_ly (by omega) (by omega) (by omega)]
  exact G.keep R hld_ag (by unfold hldS; rw [evS_lo (by decide) (by decide), lyS_lo (by decide)]) e
theorem Good.rep (G : Good s) (R : Rk C E s) (hk : k < nn (s 2)) : Good (lyS s k 4 x) :=
  G.keep R (agL_ly (by omega) (by omega)) (lyS_lo (by decide)) (fun o w ho hw => mf_ly (by omega) (by omega) (by omega))
theorem Good.eqR (G : Good s) (R : Rk C E s) (e : eqR s t) : Good t := by
  have hm := R.m.2
  exact G.keep R e.ag (e 5 (by decide)) (fun k w hk hw => e.mf (by omega) (by omega))
end
