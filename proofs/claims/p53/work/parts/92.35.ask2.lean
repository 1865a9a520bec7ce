/-! ===== the public questions of the class, 1 ===== -/
section
variable {q : Nat → PH → Prop} {kk : Int32 → PH → Prop} {kv : PH → Prop} {h : PH} {s : RW} {C E : Nat} {a : Nat}
theorem c_partners {x : Int32} (R : Rk C E s) (X : CR 60 s h) (K0 : inM s x = false → q 2 h) (K1 : inM s x = true → kk (mk (nn (s 2)) (par s (nn x))) h) : MetPM m_X11_partners [.ref 0, .int x] h (rI q kk) := by
  have hm2 := R.m.2
  refine t_X11_partners ⟨Nat.le_of_ble_eq_true rfl, c_needMember R X.1 K0 (fun e => ?_)⟩
  have K := K1 e
  obtain ⟨e1, e2⟩ := inM_t R e
  generalize nn x = j at K e1 e2
  subst e1
  rw [cl (by omega), show gi h 29 j = _ from X.1.pa j e2]
  exact ⟨vp_in_nI (by omega) (by omega), K⟩
theorem c_readers {x : Int32} (R : Rk C E s) (X : CR 60 s h) (K0 : inR x 1 9 = false → q 1 h) (K1 : inR x 1 9 = true → kk (mk (nn (s 0)) (fun v => rds s v x)) h) : MetPM m_X11_readers [.ref 0, .int x] h (rI q kk) :=
  t_X11_readers ⟨Nat.le_of_ble_eq_true rfl, c_needFormat K0 (fun e => c_readersOf R X.1 (K1 e))⟩
theorem c_mayTalk {x y : Int32} (R : Rk C E s) (X : CR 60 s h) (K0 : (inV s x && inV s y) = false → q 2 h) (K1 : (inV s x && inV s y) = true → kk (b2i (tlk s (nn x) (nn y))) h) : MetPM m_X11_mayTalk [.ref 0, .int x, .int y] h (rI q kk) := by
  have hv8 := R.v.2
  refine t_X11_mayTalk ⟨Nat.le_of_ble_eq_true rfl, c_needVersion R X.1 (fun e => K0 (by rw [e]; rfl)) (fun e => ⟨Nat.le_of_ble_eq_true rfl, c_needVersion R X.1 (fun e5 => K0 (by rw [e, e5]; rfl)) (fun e5 => ?_)⟩)⟩
  have K := K1 (by rw [e, e5]; rfl)
  obtain ⟨e1, e2⟩ := inV_t R e
  obtain ⟨e3, e4⟩ := inV_t R e5
  generalize nn x = j at K e1 e2
  generalize nn y = k at K e3 e4
  subst e1 e3
  refine c_talkersOf (Or.inl rfl) R X.1 e2 (fun y hy => c_isIn (by omega) ⟨isB_b2i _, ?_⟩)
  rw [hy k (by omega)]; exact K
theorem l_openC {m : Nat} (R : Rk C E s) (X : CR 60 s h) (hm : m < nn (s 2)) (K : kk (mk (nn (s 0)) (fun v => decide (whyN s m v = 0))) h) : ∀ k i, i + k = nn (s 0) → At m_X11_open (rI q kk) 9 1 [some (.ref 0), some (.int (nI m)), some (.int (mk i (fun v => decide (whyN s m v = 0)))), some (.int (nI i))] [] h := by
  have hv8 := R.v.2
  intro k
  induction k with
  | zero =>
    intro i hi
    refine u_X11_open_9 (nv_le R X.1 (fun z => ?_) (fun z => absurd z (by omega)) (by omega))
    rw [z]; exact K
  | succ k ih =>
    intro i hi
    refine u_X11_open_9 (nv_le R X.1 (fun z => absurd z (by omega)) (fun z => ?_) (by omega))
    have ih2 := ih (i + 1) (by omega)
    refine c_whyNotBegin (Or.inl rfl) R X.1 X.2 hm z ?_
    have w := why_q (s := s) (m := m) (v := i) (A := At m_X11_open (rI q kk) 9 1 [some (.ref 0), some (.int (nI m)), some (.int (mk i (fun v => decide (whyN s m v = 0)) ||| ((nI 1) <<< (nI i &&& 31)))), some (.int (nI i + nI 1))] [] h) (B := At m_X11_open (rI q kk) 9 1 [some (.ref 0), some (.int (nI m)), some (.int (mk i (fun v => decide (whyN s m v = 0)))), some (.int (nI i + nI 1))] [] h) (fun e => by rw [mk_yes (p := fun v => decide (whyN s m v = 0)) e, nI_add]; exact ih2) (fun e => by rw [mk_no (p := fun v => decide (whyN s m v = 0)) e] at ih2; rw [nI_add]; exact ih2)
    exact ⟨w.2, w.1⟩
theorem c_open {x : Int32} (R : Rk C E s) (X : CR 60 s h) (K0 : inM s x = false → q 2 h) (K1 : inM s x = true → kk (mk (nn (s 0)) (fun v => decide (whyN s (nn x) v = 0))) h) : MetPM m_X11_open [.ref 0, .int x] h (rI q kk) := by
  refine t_X11_open ⟨Nat.le_of_ble_eq_true rfl, c_needMember R X.1 K0 (fun e => ?_)⟩
  have K := K1 e
  obtain ⟨e1, e2⟩ := inM_t R e
  generalize nn x = j at K e1 e2
  subst e1
  exact l_openC R X e2 K _ 0 (Nat.zero_add _)
theorem c_down {x : Int32} (R : Rk C E s) (X : CR 60 s h) (K0 : inP s x = false → q 2 h) (K1 : inP s x = true → kk (mk (nn (s 2)) (dnIn s x)) h) : MetPM m_X11_down [.ref 0, .int x] h (rI q kk) := by
  have hw5 := R.p.2
  have hm2 := R.m.2
  refine t_X11_down ?_
  rw [show gi h 21 1 = s 1 from X.1.np]
  refine inC R.p.1 (by omega) (fun e => ⟨Nat.le_of_ble_eq_true rfl, K0 e⟩) (fun e => ?_)
  have K := K1 e
  obtain ⟨e1, e2⟩ := inP_t R e
  generalize nn x = j at e1 e2
  subst e1
  rw [cl (by omega), show gi h 24 j = _ from X.1.ps j e2, show gi h 60 7 = _ from X.2.ds, mk_and (by omega)]
  exact ⟨vp_in_nI (by omega) (by omega), K⟩
theorem c_whyNotCommit {x : Int32} (R : Rk C E s) (X : CR 60 s h) (K0 : inR x 1 9 = false → q 1 h) (K1 : inR x 1 9 = true → kk (nI (whyF s x)) h) : MetPM m_X11_whyNotCommit [.ref 0, .int x] h (rI q kk) :=
  t_X11_whyNotCommit ⟨Nat.le_of_ble_eq_true rfl, c_needFormat K0 (fun e => c_whyNotFormat (Or.inl rfl) R X.1 X.2 (K1 e))⟩
theorem c_reason {x y : Int32} (R : Rk C E s) (X : CR 60 s h) (K0 : (inM s x && inV s y) = false → q 2 h) (K1 : (inM s x && inV s y) = true → kk (nI (whyN s (nn x) (nn y))) h) : MetPM m_X11_reason [.ref 0, .int x, .int y] h (rI q kk) := by
  refine t_X11_reason ⟨Nat.le_of_ble_eq_true rfl, c_needMember R X.1 (fun e => K0 (by rw [e]; rfl)) (fun e => ⟨Nat.le_of_ble_eq_true rfl, c_needVersion R X.1 (fun e5 => K0 (by rw [e, e5]; rfl)) (fun e5 => ?_)⟩)⟩
  have K := K1 (by rw [e, e5]; rfl)
  obtain ⟨e1, e2⟩ := inM_t R e
  obtain ⟨e3, e4⟩ := inV_t R e5
  generalize nn x = j at K e1 e2
  generalize nn y = k at K e3 e4
  subst e1 e3
  exact c_whyNotBegin (Or.inl rfl) R X.1 X.2 e2 e4 K
/-- a switch over small numbers -/
theorem sw_n {j n : Nat} (hj : j < n) (hn : n < 100) {A : Prop} : (∀ i : Nat, 0 ≤ i → i < n → ¬ nI j = nI i) → A := fun z => absurd rfl (z j (by omega) hj)
theorem sw_i {j i : Nat} (hj : j < 100) (hi : i < 100) {A : Prop} (f : j = i → A) : nI j = nI i → A := fun z => f ((nI_eq (by omega) (by omega)).mp z)
theorem c_numberOf {j : Nat} (X : LyR 15 s h.1) (hj : j < 11) (h5 : ¬ j = 5) (K : kk (s j) h) : MetPM m_X5_numberOf [.ref 15, .int (nI j)] h (rI q kk) := by
  refine t_X5_numberOf ⟨sw_n hj (by omega), sw_i (by omega) (by omega) ?_, sw_i (by omega) (by omega) ?_, sw_i (by omega) (by omega) ?_, sw_i (by omega) (by omega) ?_, sw_i (by omega) (by omega) ?_, sw_i (by omega) (by omega) ?_, sw_i (by omega) (by omega) ?_, sw_i (by omega) (by omega) ?_, sw_i (by omega) (by omega) ?_, sw_i (by omega) (by omega) ?_, sw_i (by omega) (by omega) ?_, trivial⟩
  all_goals (rintro rfl)
  · rw [show gi h 16 1 = s 0 from X.nv]; exact K
  · rw [show gi h 21 1 = s 1 from X.np]; exact K
  · rw [show gi h 26 1 = s 2 from X.nm]; exact K
  · rw [show gi h 15 12 = s 3 from X.wa]; exact K
  · rw [show gi h 15 11 = s 4 from X.li]; exact K
  · exact absurd rfl h5
  · rw [show gi h 15 13 = s 6 from X.sk]; exact K
  · rw [show gi h 15 14 = s 7 from X.dn]; exact K
  · rw [show gi h 15 15 = s 8 from X.tk]; exact K
  · rw [show gi h 15 16 = s 9 from X.so]; exact K
  · rw [show gi h 15 17 = s 10 from X.lm]; exact K
theorem c_setting {x : Int32} (X : CR 60 s h) (K0 : inR x 0 11 = false → q 1 h) (K1 : inR x 0 11 = true → kk (s (nn x)) h) : MetPM m_X11_setting [.ref 0, .int x] h (rI q kk) := by
  refine t_X11_setting (inL (a := 0) (b := 11) (by omega) rfl rfl (by omega) (fun e => ⟨Nat.le_of_ble_eq_true rfl, K0 e⟩) (fun e => ?_))
  have K := K1 e
  obtain ⟨e1, _, e2⟩ := inR_n (a := 0) (b := 11) (by omega) e
  generalize nn x = j at K e1 e2
  subst e1
  rw [nI_eq (by omega) (by omega), nI_eq (by omega) (by omega)]
  refine ⟨fun c => ⟨fun d => c_numberOf X.1 (by omega) c K, fun d => ?_⟩, fun c => ?_⟩
  · subst d; rw [show gi h 60 1 = s 11 from X.2.ck]; exact K
  · subst c; rw [show gi h 60 2 = s 5 from X.2.fo]; exact K
theorem c_numberOfMember {m j : Nat} (ha : a = 60 ∨ a = 67) (R : Rk C E s) (X : CR a s h) (hm : m < nn (s 2)) (hj : j < 7) (K : kk (mbV s m j) h) : MetPM m_X8_numberOfMember [.ref a, .int (nI m), .int (nI j)] h (rI q kk) := by
  have hm2 := R.m.2
  have vm : vp_in (nI m) 12 := vp_in_nI (by omega) (by omega)
  refine t_X8_numberOfMember ha ⟨sw_n hj (by omega), sw_i (by omega) (by omega) ?_, sw_i (by omega) (by omega) ?_, sw_i (by omega) (by omega) ?_, sw_i (by omega) (by omega) ?_, sw_i (by omega) (by omega) ?_, sw_i (by omega) (by omega) ?_, sw_i (by omega) (by omega) ?_, trivial⟩
  all_goals (rintro rfl)
  all_goals try rw [cl (by omega)]
  · rw [show gi h 28 m = mf s m 0 from X.1.po m hm]; exact ⟨vm, K⟩
  · rw [show gi h (a + 1) m = mf s m 1 from X.2.ve m hm]; exact ⟨vm, K⟩
  · refine c_isUp ha R X.2 hm ?_
    have K2 : kk (mf s m 2) h := K
    cases e : isD s m
    · have e2 : mf s m 2 = -(nI 1) := by
        rw [m1_eq]
        unfold isD at e
        rw [Bool.not_eq_false', decide_eq_true_eq] at e
        exact e
      rw [e2] at K2
      exact f1 K2
    · rw [show gi h (a + 2) m = com s m from X.2.co m hm]
      have e2 : com s m = mf s m 2 := by unfold com; rw [e]
      rw [e2]
      exact f0 ⟨vm, K2⟩
  · rw [show gi h (a + 3) m = mf s m 3 from X.2.un m hm]; exact ⟨vm, K⟩
  · rw [show gi h (a + 4) m = mf s m 4 from X.2.me m hm]; exact ⟨vm, K⟩
  · refine c_isIn (by omega) ?_
    rw [show gi h a 8 = _ from X.2.he, bt_mk_in (by omega) hm]
    have K2 : kk (mf s m 5) h := K
    refine bq (fun e => ?_) (fun e => ?_)
    · rcases R.he m hm with e2 | e2
      · rw [e2] at K2; exact K2
      · exact absurd e2 (of_decide_eq_false e)
    · rw [of_decide_eq_true e] at K2; exact K2
  · exact c_waveOf R X.1 hm K
theorem c_member {x y : Int32} (R : Rk C E s) (X : CR 60 s h) (K0 : inM s x = false → q 2 h) (K2 : inM s x = true → inR y 0 6 = false → q 1 h) (K1 : inM s x = true → inR y 0 6 = true → kk (mbV s (nn x) (nn y)) h) : MetPM m_X11_member [.ref 0, .int x, .int y] h (rI q kk) := by
  refine t_X11_member ⟨Nat.le_of_ble_eq_true rfl, c_needMember R X.1 K0 (fun e => inL (a := 0) (b := 6) (by omega) rfl rfl (by omega) (fun e5 => ⟨Nat.le_of_ble_eq_true rfl, K2 e e5⟩) (fun e5 => ?_))⟩
  have K := K1 e e5
  obtain ⟨e1, e2⟩ := inM_t R e
  obtain ⟨e3, _, e4⟩ := inR_n (a := 0) (b := 6) (by omega) e5
  generalize nn x = j at K e1 e2
  generalize nn y = k at K e3 e4
  subst e1 e3
  exact c_numberOfMember (Or.inl rfl) R X e2 (by omega) K
theorem sw_1 {j n : Nat} (h1 : 1 ≤ j) (hj : j < n) (hn : n < 100) {A : Prop} : (∀ i : Nat, 1 ≤ i → i < n → ¬ nI j = nI i) → A := fun z => absurd rfl (z j h1 hj)
theorem c_plan {x : Int32} (X : CR 60 s h) (K0 : inR x 0 4 = false → q 1 h) (K1 : inR x 0 4 = true → kk (plnV s (nn x)) h) : MetPM m_X11_plan [.ref 0, .int x] h (rI q kk) := by
  refine t_X11_plan (inL (a := 0) (b := 4) (by omega) rfl rfl (by omega) (fun e => ⟨Nat.le_of_ble_eq_true rfl, K0 e⟩) (fun e => ?_))
  have K := K1 e
  obtain ⟨e1, _, e2⟩ := inR_n (a := 0) (b := 4) (by omega) e
  generalize nn x = j at K e1 e2
  subst e1
  refine t_X8_numberOfPlan (Or.inl rfl) ?_
  rw [← nI_0, nI_eq (by omega) (by omega)]
  refine ⟨fun c => c_isUnderWay (Or.inl rfl) X.2 ?_, fun c => ?_⟩
  · unfold plnV at K
    rw [if_neg c] at K
    refine bp (fun e => ?_) (fun e => ?_)
    · have : (if j = 4 then soakE s else if hasP s = true then s (12 + j) else -(nI 1)) = -(nI 1) := by
        rw [e]
        split
        · unfold soakE
          rw [if_neg]
          · rfl
          · unfold hasP at e
            rw [Bool.and_eq_false_iff, Bool.not_eq_false', Bool.not_eq_false', decide_eq_true_eq, decide_eq_true_eq] at e
            rintro (z | z)
            · rw [z] at e; exact absurd e (by decide)
            · rw [z.1] at e; exact absurd e (by decide)
        · rfl
      rw [this] at K; exact K
    · have pl := X.2.pl e
      rw [if_pos e] at K
      refine ⟨sw_1 (by omega) (by omega) (by omega), sw_i (by omega) (by omega) ?_, sw_i (by omega) (by omega) ?_, sw_i (by omega) (by omega) ?_, sw_i (by omega) (by omega) ?_, trivial⟩
      all_goals (rintro rfl)
      · rw [show gi h 60 10 = s 13 from pl.1]; exact K
      · rw [show gi h 60 11 = s 14 from pl.2.1]; exact K
      · rw [show gi h 60 13 = s 15 from pl.2.2.2]; exact K
      · rw [show gi h 60 14 = soakE s from X.2.se]; exact K
  · subst c
    rw [show gi h 60 9 = s 12 from X.2.st]; exact K
theorem c_events (X : CR 60 s h) (K : kk (nI (kEv s)) h) : MetPM m_X11_events [.ref 0] h (rI q kk) := by
  refine t_X11_events ?_
  rw [show gi h 65 1 = nI (kEv s) from X.2.ev.1]; exact K
theorem fm30 : ∀ w, w < 30 → ∀ i, i < 30 → fmV (nI w - nI i) (nI 30) = nI ((w + 30 - i) % 30) := by decide +kernel
theorem c_event {x y : Int32} (X : CR 60 s h) (K0 : inE s x = false → q 2 h) (K2 : inE s x = true → inR y 0 3 = false → q 1 h) (K1 : inE s x = true → inR y 0 3 = true → kk (evtV s (nn x) (nn y)) h) : MetPM m_X11_event [.ref 0, .int x, .int y] h (rI q kk) := by
  have hk := kEv_le (s := s)
  obtain ⟨e7, w, hw, e8, e9⟩ := X.2.ev
  refine t_X11_event ?_
  rw [show gi h 65 1 = nI (kEv s) from e7]
  refine inC (n := kEv s) rfl (by omega) (fun e => ⟨Nat.le_of_ble_eq_true rfl, K0 e⟩) (fun e => inC (n := 4) rfl (by omega) (fun e5 => ⟨Nat.le_of_ble_eq_true rfl, K2 e e5⟩) (fun e5 => ?_))
  have K := K1 e e5
  obtain ⟨e1, e2⟩ := inE_t e
  obtain ⟨e3, _, e4⟩ := inR_n (a := 0) (b := 3) (by omega) e5
  generalize nn x = j at K e1 e2
  generalize nn y = k at K e3 e4
  subst e1 e3
  refine t_X3_cellOf ⟨by decide, ?_⟩
  rw [show gi h 65 2 = nI w from e8, fm30 w hw j (by omega), pk_mul, nI_add, cl (by omega)]
  refine ⟨vp_in_nI (by omega) (by omega), ?_⟩
  have e10 := e9 j e2 k (by omega)
  rw [show gi h 66 ((w + 30 - j) % 30 * 4 + k) = _ from e10]
  exact K
end

