/-! ===== the class's minute, 2 ===== -/
section
variable {q : Nat → PH → Prop} {kk : Int32 → PH → Prop} {kv : PH → Prop} {h : PH} {s t : RW} {C E : Nat} {a L : Nat} {f g : FI}
/-- the relation of a running state -/
def CR (a : Nat) (s : RW) (h : PH) : Prop := LyR 15 s h.1 ∧ StR a s h.1
theorem CR.ly (X : CR a s h) : LyR 15 s h.1 := X.1
theorem CR.st (X : CR a s h) : StR a s h.1 := X.2
theorem WEc {h h' : PH} (fr : Fr (WE a) h h') {b : Nat} (e : b ≠ a + 5) (e2 : b ≠ a + 6) : h'.1 b = h.1 b := fr.cell fun k => WE_f e e2
theorem StM.beg {m : Nat} {v : Int32} (hm2 : nn (s 2) ≤ 12) (hm : m < nn (s 2)) (hv : isN v 7) (S : StM a s f) (g7 : g a 7 = f a 7 ||| ((nI 1) <<< (nI m &&& 31))) (g8 : g a 8 = f a 8) (g1 : g (a + 1) = f (a + 1)) (g2 : g (a + 2) = ups (f (a + 2)) m v) (g3 : g (a + 3) = ups (f (a + 3)) m (s 11 + s 8)) (g4 : g (a + 4) = f (a + 4)) : StM a (begS s m v) g := by
  have e2 : begS s m v 2 = s 2 := agL_beg.n2
  have d : isD (begS s m v) m = true := isD_n (by rw [beg_2 (by omega)]; exact hv)
  refine ⟨?_, ?_, ?_, ?_, ?_, ?_⟩
  · rw [e2, g1]; intro o h1; rw [beg_o (by omega) (by omega) (by omega)]; exact S.ve o h1
  · rw [e2, g2]; intro o h1
    by_cases c : o = m
    · subst c
      unfold com
      rw [d, ups_s, beg_2 (by omega)]
    · rw [ups_n c, com_of (beg_o (by omega) (by omega) (by omega)) (beg_o (by omega) (by omega) (by omega))]; exact S.co o h1
  · rw [e2, g3]; intro o h1
    by_cases c : o = m
    · subst c; rw [ups_s, beg_3 (by omega)]
    · rw [ups_n c, beg_o (by omega) (by omega) (by omega)]; exact S.un o h1
  · rw [e2, g4]; intro o h1; rw [beg_o (by omega) (by omega) (by omega)]; exact S.me o h1
  · rw [e2, g7, S.ds, mk_set (by omega) hm]
    refine mk_eq fun o h1 => ?_
    by_cases c : o = m
    · subst c; rw [d]; simp
    · rw [isD_of (beg_o (by omega) (by omega) (by omega))]; simp [c]
  · rw [e2, g8, S.he]; exact mk_eq fun o h1 => by rw [beg_o (by omega) (by omega) (by omega)]
theorem StM.endd {m : Nat} (hm2 : nn (s 2) ≤ 12) (hm : m < nn (s 2)) (hd : isD s m = true) (S : StM a s f) (g7 : g a 7 = f a 7 &&& (((nI 1) <<< (nI m &&& 31)) ^^^ (-(nI 1)))) (g8 : g a 8 = f a 8) (g1 : g (a + 1) = ups (f (a + 1)) m (mf s m 2)) (g2 : g (a + 2) = f (a + 2)) (g3 : g (a + 3) = ups (f (a + 3)) m (-(nI 1))) (g4 : g (a + 4) = ups (f (a + 4)) m (nI 0)) : StM a (endS s m) g := by
  have e2 : endS s m 2 = s 2 := agL_end.n2
  have x2 : mf (endS s m) m 2 = -(nI 1) := by rw [end_f (by omega) (by omega), endU_2]
  have d : isD (endS s m) m = false := isD_m1 x2
  have x1 : mf (endS s m) m 1 = mf s m 2 := by rw [end_f (by omega) (by omega), endU_1]
  have o_ : ∀ o w, o < 12 → w < 7 → ¬ o = m → mf (endS s m) o w = mf s o w := fun o w h1 h2 h3 => by rw [end_f h1 h2, endU_o h2 (by omega)]
  refine ⟨?_, ?_, ?_, ?_, ?_, ?_⟩
  · rw [e2, g1]; intro o h1
    by_cases c : o = m
    · subst c; rw [ups_s, x1]
    · rw [ups_n c, o_ o 1 (by omega) (by omega) c]; exact S.ve o h1
  · rw [e2, g2]; intro o h1
    by_cases c : o = m
    · subst c
      rw [S.co o h1]
      unfold com
      rw [d, hd, x1]
    · rw [com_of (o_ o 2 (by omega) (by omega) c) (o_ o 1 (by omega) (by omega) c)]; exact S.co o h1
  · rw [e2, g3]; intro o h1
    by_cases c : o = m
    · subst c; rw [ups_s, end_f (by omega) (by omega), endU_3]
    · rw [ups_n c, o_ o 3 (by omega) (by omega) c]; exact S.un o h1
  · rw [e2, g4]; intro o h1
    by_cases c : o = m
    · subst c; rw [ups_s, end_f (by omega) (by omega), endU_4]
    · rw [ups_n c, o_ o 4 (by omega) (by omega) c]; exact S.me o h1
  · rw [e2, g7, S.ds, mk_clr (by omega) (by omega)]
    refine mk_eq fun o h1 => ?_
    by_cases c : o = m
    · subst c; rw [d]; simp
    · rw [isD_of (o_ o 2 (by omega) (by omega) c)]; simp [c]
  · rw [e2, g8, S.he]; exact mk_eq fun o h1 => by
      rw [end_f (by omega) (by omega), endU_o (by omega) (by omega)]
theorem c_beginChange {m : Nat} {v : Int32} (ha : a = 60 ∨ a = 67) (R : Rk C E s) (hE : E + 1 < 2 ^ 31) (X : CR a s h) (hm : m < nn (s 2)) (hv : isN v 7) (K : ∀ h', Fr (WS a) h h' → CR a (begS s m v) h' → kk (s 11 + s 8) h') : MetPM m_X8_beginChange [.ref a, .int (nI m), .int v] h (rI q kk) := by
  have hm2 := R.m.2
  obtain ⟨Y, S⟩ := X
  have S1 : gi h a 1 = s 11 := S.ck
  have Y15 : gi h 15 15 = s 8 := Y.tk
  refine t_X8_beginChange ha ⟨vp_in_nI (by omega) (by omega), ?_⟩
  rw [cl (by omega), gi_ob (by omega), gi_ob (by omega), S1, Y15]
  intro y1
  have ey : y1 = s 11 + s 8 := rfl
  clear_value y1
  refine ⟨vp_in_nI (by omega) (by omega), ?_⟩
  rw [gi_ob (by omega), gi_ob (by omega)]
  intro y2
  have ey2 : y2 = gi h a 7 ||| ((nI 1) <<< (nI m &&& 31)) := rfl
  clear_value y2
  rw [gi_ok (by omega), gi_ob (by omega), gi_ob (by omega), S1]
  have f2 : Fr (WS a) h (si (si (si h (a + 2) m v) (a + 3) m y1) a 7 y2) := ((Fr.wr h _ (WS_t (by omega) (by omega))).and _ (WS_t (by omega) (by omega))).and _ (WS_t (by omega) (by omega))
  have E1 : StE a (lyS (lyS s m 2 v) m 3 (s 11 + s 8)) (si (si (si h (a + 2) m v) (a + 3) m y1) a 7 y2).1 := by
    refine StE.congr (by rw [lyS_lo (by omega), lyS_lo (by omega)]) (fun i hi => ?_) ?_ ?_ S.2.2
    · unfold lyS; rw [ups_n (by omega), ups_n (by omega)]
    · rw [si_b (by omega), si_b (by omega), si_b (by omega)]
    · rw [si_b (by omega), si_b (by omega), si_b (by omega)]
  refine c_add ha E1 (by rw [lyS_lo (by omega), lyS_lo (by omega)]; exact R.ev) hE (by rw [lyS_lo (by omega), lyS_lo (by omega)]) (fun h3 f3 S3 => ⟨vp_in_nI (by omega) (by omega), ?_⟩)
  have g : ∀ b, b ≠ a + 5 → b ≠ a + 6 → h3.1 b = (si (si (si h (a + 2) m v) (a + 3) m y1) a 7 y2).1 b := fun b e e2 => WEc f3 e e2
  have fr : Fr (WS a) h h3 := f2.trans (f3.mono fun b k e => WE_WS e)
  have r3 : gi h3 (a + 3) m = s 11 + s 8 := by
    show h3.1 (a + 3) m = _
    rw [g (a + 3) (by omega) (by omega), si_b (by omega), si_a, ups_s]; exact ey
  rw [r3]
  refine K h3 fr ⟨(Y.fr ha fr).congr agL_beg R.1, ?_, ?_, S3⟩
  · refine StM.beg hm2 hm hv S.1 ?_ ?_ ?_ ?_ ?_ ?_
    · rw [g a (by omega) (by omega), si_a, ups_s]; exact ey2
    · rw [g a (by omega) (by omega), si_a, ups_n (by omega), si_b (by omega), si_b (by omega)]
    · rw [g (a + 1) (by omega) (by omega), si_b (by omega), si_b (by omega), si_b (by omega)]
    · rw [g (a + 2) (by omega) (by omega), si_b (by omega), si_b (by omega), si_a]
    · rw [g (a + 3) (by omega) (by omega), si_b (by omega), si_a, si_b (by omega), ey]
    · rw [g (a + 4) (by omega) (by omega), si_b (by omega), si_b (by omega), si_b (by omega)]
  · refine StT.congr (fun i hi => beg_lo (by omega) (by omega)) (fun k h1 h2 => ?_) S.2.1
    rw [g a (by omega) (by omega), si_a, ups_n (by omega), si_b (by omega), si_b (by omega)]
theorem endC_iff {i m : Nat} (R : RkE i C E s) (hC : C < 2 ^ 30) (hm : m < nn (s 2)) : endC s m = true ↔ mf s m 3 = s 11 := by
  have hck := R.2.1.1
  have h11 := hck.2
  have R1 := (R.2.1.2 m hm).2
  cases hd : isD s m
  · have e : endC s m = false := by simp [endC, hd]
    rw [e, R1.up hd]
    refine ⟨fun z => (by cases z), fun z => absurd z.symm hck.nm1⟩
  · have h1 := R1.un hd
    have h5 := h1.1.2
    have e : endC s m = decide (mf s m 3 ≤ s 11) := by simp [endC, hd]
    rw [e, decide_eq_true_eq, h1.1.1, hck.1, nI_leI (by omega) (by omega), nI_eq (by omega) (by omega)]
    omega
theorem l_endChanges {h0 : PH} (ha : a = 60 ∨ a = 67) (R : RkE 0 C E s) (hC : C < 2 ^ 30) (hE : E + 13 < 2 ^ 31) (K : ∀ h', Fr (WS a) h0 h' → CR a (endA (nn (s 2)) s) h' → kv h') :
    ∀ k i h, i + k = nn (s 2) → Fr (WS a) h0 h → CR a (endA i s) h → At m_X8_endChanges (rV q kv) 2 0 [some (.ref a), some (.int (nI i))] [] h := by
  have hm2 := R.1.m.2
  intro k
  induction k with
  | zero =>
    intro i h hi fr X
    refine u_X8_endChanges_2 ha ?_
    rw [show gi h 26 1 = _ from X.ly.nm, (endA_agL i).n2, R.1.m.1]
    refine pk_le (nn (s 2)) i (fun _ => ?_) (fun z => absurd z (by omega))
    have : i = nn (s 2) := by omega
    subst this
    exact K h fr X
  | succ k ih =>
    intro i h hi fr X
    have RE := R.endA hC (by omega) i (by omega)
    have n2 : endA i s 2 = s 2 := (endA_agL i).n2
    have hmi : i < nn (endA i s 2) := by rw [n2]; omega
    obtain ⟨Y, S⟩ := X
    have S1 : gi h a 1 = endA i s 11 := S.ck
    refine u_X8_endChanges_2 ha ?_
    rw [show gi h 26 1 = _ from Y.nm, n2, R.1.m.1]
    refine pk_le (nn (s 2)) i (fun z => absurd z (by omega)) (fun _ => ⟨vp_in_nI (by omega) (by omega), ?_⟩)
    rw [cl (by omega), show gi h (a + 3) i = mf (endA i s) i 3 from S.un i hmi, S1]
    refine ⟨fun c => ?_, fun c => ⟨vp_in_nI (by omega) (by omega), ?_⟩⟩
    · have e : endC (endA i s) i = false := by
        cases z : endC (endA i s) i
        · rfl
        · exact absurd ((endC_iff RE hC hmi).mp z) c
      rw [nI_add]
      exact ih (i + 1) h (by omega) fr (by rw [endA_f e]; exact ⟨Y, S⟩)
    · have e : endC (endA i s) i = true := (endC_iff RE hC hmi).mpr c
      have hd : isD (endA i s) i = true := by
        simp only [endC, Bool.and_eq_true] at e
        exact e.1
      intro y1
      have ey : y1 = gi (si h (a + 3) i (-(nI 1))) a 7 &&& (((nI 1) <<< (nI i &&& 31)) ^^^ (-(nI 1))) := rfl
      clear_value y1
      refine ⟨vp_in_nI (by omega) (by omega), vp_in_nI (by omega) (by omega), ?_⟩
      rw [gi_ob (by omega), gi_ob (by omega), show gi h (a + 2) i = com (endA i s) i from S.co i hmi, show com (endA i s) i = mf (endA i s) i 2 by unfold com; rw [hd]]
      intro h2
      have eh : h2 = si (si (si h (a + 3) i (-(nI 1))) a 7 y1) (a + 1) i (mf (endA i s) i 2) := rfl
      clear_value h2
      refine ⟨vp_in_nI (by omega) (by omega), vp_in_nI (by omega) (by omega), ?_⟩
      have ck2 : gi (si h2 (a + 4) i (nI 0)) a 1 = endA i s 11 := by
        rw [gi_ob (by omega), eh, gi_ob (by omega), gi_ok (by omega), gi_ob (by omega)]; exact S1
      have ve2 : gi (si h2 (a + 4) i (nI 0)) (a + 1) i = mf (endA i s) i 2 := by
        rw [gi_ob (by omega), eh, gi_same]
      rw [ck2, ve2]
      have cc : ∀ b, (si h2 (a + 4) i (nI 0)).1 b = (si (si (si (si h (a + 3) i (-(nI 1))) a 7 y1) (a + 1) i (mf (endA i s) i 2)) (a + 4) i (nI 0)).1 b := fun b => by rw [eh]
      have f2 : Fr (WS a) h0 (si h2 (a + 4) i (nI 0)) := by
        rw [eh]
        exact (((fr.and _ (WS_t (by omega) (by omega))).and _ (WS_t (by omega) (by omega))).and _ (WS_t (by omega) (by omega))).and _ (WS_t (by omega) (by omega))
      have E1 : StE a (endU (endA i s) i) (si h2 (a + 4) i (nI 0)).1 := by
        refine StE.congr (endU_lo (by omega)) (fun j hj => ?_) ?_ ?_ S.2.2
        · unfold endU lyS; rw [ups_n (by omega), ups_n (by omega), ups_n (by omega), ups_n (by omega)]
        · rw [cc, si_b (by omega), si_b (by omega), si_b (by omega), si_b (by omega)]
        · rw [cc, si_b (by omega), si_b (by omega), si_b (by omega), si_b (by omega)]
      refine c_add ha E1 (E := E + i) (by rw [endU_lo (by omega)]; exact RE.2.2.2) (by omega) (endU_lo (by omega)).symm (fun h3 f3 S3 => ?_)
      have g : ∀ b, b ≠ a + 5 → b ≠ a + 6 → h3.1 b = (si (si (si (si h (a + 3) i (-(nI 1))) a 7 y1) (a + 1) i (mf (endA i s) i 2)) (a + 4) i (nI 0)).1 b := fun b e e2 => (WEc f3 e e2).trans (cc b)
      have fr3 : Fr (WS a) h0 h3 := f2.trans (f3.mono fun b k e => WE_WS e)
      have frh : Fr (WS a) h h3 := by
        refine Fr.trans ?_ (f3.mono fun b k e => WE_WS e)
        rw [eh]
        exact (((Fr.wr h _ (WS_t (by omega) (by omega))).and _ (WS_t (by omega) (by omega))).and _ (WS_t (by omega) (by omega))).and _ (WS_t (by omega) (by omega))
      rw [nI_add]
      refine ih (i + 1) h3 (by omega) fr3 ?_
      rw [endA_t e]
      refine ⟨(Y.fr ha frh).congr agL_end RE.1, ?_, ?_, S3⟩
      · refine StM.endd (by rw [n2]; omega) hmi hd S.1 ?_ ?_ ?_ ?_ ?_ ?_
        · rw [g a (by omega) (by omega), si_b (by omega), si_b (by omega), si_a, ups_s, ey, gi_ob (by omega)]; rfl
        · rw [g a (by omega) (by omega), si_b (by omega), si_b (by omega), si_a, ups_n (by omega), si_b (by omega)]
        · rw [g (a + 1) (by omega) (by omega), si_b (by omega), si_a, si_b (by omega), si_b (by omega)]
        · rw [g (a + 2) (by omega) (by omega), si_b (by omega), si_b (by omega), si_b (by omega), si_b (by omega)]
        · rw [g (a + 3) (by omega) (by omega), si_b (by omega), si_b (by omega), si_b (by omega), si_a]
        · rw [g (a + 4) (by omega) (by omega), si_a, si_b (by omega), si_b (by omega), si_b (by omega)]
      · refine StT.congr (fun j hj => end_lo (by omega) (by omega)) (fun k h1 h2 => ?_) S.2.1
        rw [g a (by omega) (by omega), si_b (by omega), si_b (by omega), si_a, ups_n (by omega), si_b (by omega)]
theorem c_endChanges (ha : a = 60 ∨ a = 67) (R : RkE 0 C E s) (hC : C < 2 ^ 30) (hE : E + 13 < 2 ^ 31) (X : CR a s h) (K : ∀ h', Fr (WS a) h h' → CR a (endA (nn (s 2)) s) h' → kv h') : MetPM m_X8_endChanges [.ref a] h (rV q kv) :=
  t_X8_endChanges ha (l_endChanges ha R hC hE K _ 0 h (Nat.zero_add _) (Fr.refl _ _) X)
/-- a change of the plan's numbers alone, and an event -/
theorem CR.plan {u : RW} {h2 h3 : PH} {k m n : Int32} (ha : a = 60 ∨ a = 67) (R : Rk C E s) (X : CR a s h) (hu : ∀ i, (i < 12 ∨ 19 ≤ i) → u i = s i) (f2 : ∀ b, b ≠ a → h2.1 b = h.1 b) (g2 : ∀ k, (k = 1 ∨ k = 2 ∨ k = 7 ∨ k = 8) → h2.1 a k = h.1 a k) (T : StT a u h2.1) (f3 : Fr (WE a) h2 h3) (S3 : StE a (evS u k m n) h3.1) : CR a (evS u k m n) h3 := by
  obtain ⟨Y, S⟩ := X
  have hm2 := R.m.2
  have g : ∀ b, b ≠ a + 5 → b ≠ a + 6 → h3.1 b = h2.1 b := fun b e e2 => WEc f3 e e2
  have au : agL s u := fun i hi => hu i (by omega)
  have e2 : evS u k m n 2 = s 2 := by rw [evS_lo (by omega) (by omega)]; exact hu 2 (by omega)
  refine ⟨(Y.heap fun b h1 h2 => by rw [g b (by omega) (by omega), f2 b (by omega)]).congr (au.trans agL_ev) R.1, ?_, ?_, S3⟩
  · refine StM.congr e2 hm2 (fun o w h1 h3 h4 => by rw [mf_ev h1 (by omega)]; exact hu _ (by omega)) ?_ ?_ ?_ ?_ ?_ ?_ S.1
    · rw [g a (by omega) (by omega), g2 7 (by omega)]
    · rw [g a (by omega) (by omega), g2 8 (by omega)]
    · rw [g _ (by omega) (by omega), f2 _ (by omega)]
    · rw [g _ (by omega) (by omega), f2 _ (by omega)]
    · rw [g _ (by omega) (by omega), f2 _ (by omega)]
    · rw [g _ (by omega) (by omega), f2 _ (by omega)]
  · exact T.congr (fun i hi => evS_lo (by omega) (by omega)) (fun k _ _ => by rw [g a (by omega) (by omega)])
theorem CR.plan0 {u : RW} {h2 : PH} (ha : a = 60 ∨ a = 67) (R : Rk C E s) (X : CR a s h) (hu : ∀ i, (i < 12 ∨ 19 ≤ i) → u i = s i) (f2 : ∀ b, b ≠ a → h2.1 b = h.1 b) (g2 : ∀ k, (k = 1 ∨ k = 2 ∨ k = 7 ∨ k = 8) → h2.1 a k = h.1 a k) (T : StT a u h2.1) : CR a u h2 := by
  obtain ⟨Y, S⟩ := X
  have hm2 := R.m.2
  have au : agL s u := fun i hi => hu i (by omega)
  refine ⟨(Y.heap fun b h1 h2 => f2 b (by omega)).congr au R.1, ?_, T, ?_⟩
  · refine StM.congr au.n2 hm2 (fun o w h1 h3 h4 => hu _ (by omega)) (g2 7 (by omega)) (g2 8 (by omega)) (f2 _ (by omega)) (f2 _ (by omega)) (f2 _ (by omega)) (f2 _ (by omega)) S.1
  · exact StE.congr (hu 19 (by omega)) (fun i hi => hu i (by omega)) (f2 _ (by omega)) (f2 _ (by omega)) S.2.2
theorem CR.ev0 {u : RW} {h2 : PH} (X : CR a s h) (hu : ∀ i, (i < 12 ∨ 19 ≤ i) → u i = s i) (f2 : ∀ b, b ≠ a → h2.1 b = h.1 b) : StE a u h2.1 :=
  StE.congr (hu 19 (by omega)) (fun i hi => hu i (by omega)) (f2 _ (by omega)) (f2 _ (by omega)) X.2.2.2
theorem c_stopPlan (ha : a = 60 ∨ a = 67) (R : Rk C E s) (hE : E + 1 < 2 ^ 31) (hg : going s = true) (X : CR a s h) (K : ∀ h', Fr (WS a) h h' → CR a (stopS s) h' → kk (s 15) h') : MetPM m_X8_stopPlan [.ref a] h (rI q kk) := by
  have hp := going_P hg
  have pl := X.st.pl hp
  have hu : ∀ i, (i < 12 ∨ 19 ≤ i) → (ups (ups s 18 (s 12)) 12 (nI 3)) i = s i := fun i hi => by rw [ups_n (by omega), ups_n (by omega)]
  have f2 : ∀ b, b ≠ a → (si h a 9 (nI 3)).1 b = h.1 b := fun b e => si_b e
  have u12 : (ups (ups s 18 (s 12)) 12 (nI 3)) 12 = nI 3 := ups_s
  have un : ∀ i, i ≠ 12 → i ≠ 18 → (ups (ups s 18 (s 12)) 12 (nI 3)) i = s i := fun i h1 h2 => by rw [ups_n h1, ups_n h2]
  have hp2 : hasP (ups (ups s 18 (s 12)) 12 (nI 3)) = true := hasP_t u12 (by omega) (by omega)
  have T : StT a (ups (ups s 18 (s 12)) 12 (nI 3)) (si h a 9 (nI 3)).1 := by
    rw [StT, si_a]
    refine ⟨?_, ?_, ?_, ?_, ?_, ?_⟩
    · (repeat rw [ups_n (by omega)]); exact X.st.ib
    · rw [ups_n (by omega), un 11 (by omega) (by omega)]; exact X.st.ck
    · rw [ups_n (by omega), un 5 (by omega) (by omega)]; exact X.st.fo
    · rw [ups_s, u12]
    · intro _
      have gp : ∀ k, k ≠ 9 → ups (h.1 a) 9 (nI 3) k = h.1 a k := fun k e => ups_n e
      rw [gp 10 (by omega), gp 11 (by omega), gp 12 (by omega), gp 13 (by omega), un 13 (by omega) (by omega), un 14 (by omega) (by omega), un 17 (by omega) (by omega), un 15 (by omega) (by omega)]; exact pl
    · rw [ups_n (by omega), X.st.se]
      unfold soakE
      rw [u12, un 16 (by omega) (by omega), ups_n (by omega), ups_s]
      rcases going_t hg with e | e
      · rw [e, if_neg (by rintro (z | ⟨z, -⟩) <;> exact absurd z (by decide)), if_neg (by rintro (z | ⟨-, z⟩) <;> exact absurd z (by decide))]
      · rw [e, if_pos (Or.inl rfl), if_pos (Or.inr ⟨rfl, rfl⟩)]
  refine t_X8_stopPlan ha ?_
  rw [gi_ok (by omega), gi_ok (by omega), show gi h a 1 = s 11 from X.st.ck, show gi h a 13 = s 15 from pl.2.2.2]
  refine c_add ha (X.ev0 hu f2) (E := E) (by rw [hu 19 (by omega)]; exact R.ev) hE (hu 11 (by omega)).symm (fun h3 f3 S3 => ?_)
  have e13 : gi h3 a 13 = s 15 := by
    show h3.1 a 13 = _
    rw [WEc f3 (by omega) (by omega), si_a, ups_n (by omega)]; exact pl.2.2.2
  rw [e13]
  refine K h3 ((Fr.wr h _ (WS_t (by omega) (by omega))).trans (f3.mono fun b k e => WE_WS e)) (X.plan ha R hu f2 (fun k hk => ?_) T f3 S3)
  rw [si_a, ups_n (by omega)]
theorem soakE_n {n : Nat} (e : s 12 = nI n) (h : n = 0 ∨ n = 1 ∨ n = 4) : soakE s = -1 := by
  unfold soakE
  rw [e, if_neg]
  rcases h with rfl | rfl | rfl <;> rintro (z | ⟨z, -⟩) <;> exact absurd z (by decide)
theorem c_finishPlan (ha : a = 60 ∨ a = 67) (R : Rk C E s) (hE : E + 1 < 2 ^ 31) (X : CR a s h) (h10 : gi h a 10 = s 13) (K : ∀ h', Fr (WS a) h h' → CR a (doneS s) h' → kv h') : MetPM m_X8_finishPlan [.ref a] h (rV q kv) := by
  have hu : ∀ i, (i < 12 ∨ 19 ≤ i) → (ups s 12 (nI 4)) i = s i := fun i hi => ups_n (by omega)
  have f2 : ∀ b, b ≠ a → (si (si h a 9 (nI 4)) a 14 (-(nI 1))).1 b = h.1 b := fun b e => by rw [si_b e, si_b e]
  have hp2 : hasP (ups s 12 (nI 4)) = false := by simp [hasP, ups_s]
  have T : StT a (ups s 12 (nI 4)) (si (si h a 9 (nI 4)) a 14 (-(nI 1))).1 := by
    rw [StT, si_a, si_a]
    refine ⟨?_, ?_, ?_, ?_, ?_, ?_⟩
    · (repeat rw [ups_n (by omega)]); exact X.st.ib
    · rw [ups_n (by omega), ups_n (by omega), ups_n (by omega)]; exact X.st.ck
    · rw [ups_n (by omega), ups_n (by omega), ups_n (by omega)]; exact X.st.fo
    · rw [ups_n (by omega), ups_s, ups_s]
    · intro z; rw [hp2] at z; cases z
    · rw [ups_s, soakE_n (n := 4) ups_s (by omega), m1_eq]
  refine t_X8_finishPlan ha ?_
  rw [gi_ok (by omega), gi_ok (by omega), gi_ok (by omega), gi_ok (by omega), show gi h a 1 = s 11 from X.st.ck, h10]
  refine c_add ha (X.ev0 hu f2) (E := E) (by rw [hu 19 (by omega)]; exact R.ev) hE (hu 11 (by omega)).symm (fun h3 f3 S3 => ?_)
  refine K h3 (((Fr.wr h _ (WS_t (by omega) (by omega))).and _ (WS_t (by omega) (by omega))).trans (f3.mono fun b k e => WE_WS e)) (X.plan ha R hu f2 (fun k hk => ?_) T f3 S3)
  rw [si_a, ups_n (by omega), si_a, ups_n (by omega)]
end

