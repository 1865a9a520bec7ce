/-! ===== the class's minute, 3 ===== -/
section
variable {q : Nat → PH → Prop} {kk : Int32 → PH → Prop} {kv : PH → Prop} {h : PH} {s t : RW} {C E : Nat} {a : Nat}
theorem c_leaveWave (ha : a = 60 ∨ a = 67) (R : Rk C E s) (hE : E + 1 < 2 ^ 31) (e12 : s 12 = nI 2) (X : CR a s h) (K : ∀ h', Fr (WS a) h h' → CR a (nextS s) h' → kv h') : MetPM m_X8_leaveWave [.ref a] h (rV q kv) := by
  have hp := hasP_t e12 (by omega) (by omega)
  have pl := X.st.pl hp
  have htu := R.tu hp
  have hse := R.se hp
  have hta := R.ta hp
  have hw := R.w.2
  have h15 := htu.1.2
  have p10 : gi h a 10 = s 13 := pl.1
  have p11 : gi h a 11 = s 14 := pl.2.1
  have p12 : gi h a 12 = s 17 := pl.2.2.1
  have p13 : gi h a 13 = s 15 := pl.2.2.2
  have e15 : s 15 + nI 1 = nI (nn (s 15) + 1) := by
    have : s 15 + nI 1 = nI (nn (s 15)) + nI 1 := by rw [← htu.1.1]
    rw [this, nI_add]
  have un : ∀ i, i ≠ 12 → i ≠ 15 → nextU s i = s i := fun i h1 h2 => by unfold nextU; rw [ups_n h1, ups_n h2]
  have u12 : nextU s 12 = nI 1 := ups_s
  have u15 : nextU s 15 = s 15 + nI 1 := by unfold nextU; rw [ups_n (by omega), ups_s]
  have hsk : soakE (nextU s) = -1 := soakE_n u12 (by omega)
  refine t_X8_leaveWave ha ?_
  rw [p13, p10, p11, show gi h 15 12 = s 3 from X.ly.wa, R.w.1, e15]
  refine pk_lt (nn (s 15) + 1) (nn (s 3)) (fun c => br_t rfl (u_X8_leaveWave_42 ha (br_t rfl (u_X8_leaveWave_67 ha (br_t rfl ?_))))) (fun c => br_f (by decide) ?_)
  · have e9 : nextS s = nextU s := by unfold nextS; rw [if_pos c]
    rw [e9] at K
    refine K _ (((Fr.wr h _ (WS_t (by omega) (by omega))).and _ (WS_t (by omega) (by omega))).and _ (WS_t (by omega) (by omega))) (X.plan0 ha R (fun i hi => un i (by omega) (by omega)) (fun b e => by rw [si_b e, si_b e, si_b e]) (fun k hk => by rw [si_a, si_a, si_a, ups_n (by omega), ups_n (by omega), ups_n (by omega)]) ?_)
    rw [StT, si_a, si_a, si_a]
    have gp : ∀ k v w x, k ≠ 9 → k ≠ 13 → k ≠ 14 → ups (ups (ups (h.1 a) 13 v) 14 w) 9 x k = h.1 a k := fun k v w x h1 h2 h3 => by rw [ups_n h1, ups_n h3, ups_n h2]
    refine ⟨?_, ?_, ?_, ?_, ?_, ?_⟩
    · (repeat rw [ups_n (by omega)]); exact X.st.ib
    · rw [gp 1 _ _ _ (by omega) (by omega) (by omega), un 11 (by omega) (by omega)]; exact X.st.ck
    · rw [gp 2 _ _ _ (by omega) (by omega) (by omega), un 5 (by omega) (by omega)]; exact X.st.fo
    · rw [ups_s, u12]
    · intro _
      rw [gp 10 _ _ _ (by omega) (by omega) (by omega), gp 11 _ _ _ (by omega) (by omega) (by omega), gp 12 _ _ _ (by omega) (by omega) (by omega), un 13 (by omega) (by omega), un 14 (by omega) (by omega), un 17 (by omega) (by omega), u15]
      refine ⟨pl.1, pl.2.1, pl.2.2.1, ?_⟩
      rw [ups_n (by omega), ups_n (by omega), ups_s, p13]
    · rw [ups_n (by omega), ups_s, hsk, m1_eq]
  · have e9 : nextS s = if s 14 = s 13 then doneS (ups (nextU s) 15 (nI 0)) else ups (ups (nextU s) 15 (nI 0)) 14 (s 14 + (if s 17 = nI 1 then nI 1 else -(nI 1))) := by
      unfold nextS; rw [if_neg (by omega)]
    rw [e9] at K
    refine ⟨fun c2 => ?_, fun c2 => ?_⟩
    · rw [if_neg c2] at K
      -- the step goes on
      have fin : ∀ (x : Int32), x = s 14 + (if s 17 = nI 1 then nI 1 else -(nI 1)) → At m_X8_leaveWave (rV q kv) 67 0 [some (.ref a), some (.int (nI 1))] [] (si h a 11 x) := fun x hx => by
        refine u_X8_leaveWave_67 ha (br_f (by decide) ?_)
        have ux : ∀ i, i ≠ 12 → i ≠ 14 → i ≠ 15 → (ups (ups (nextU s) 15 (nI 0)) 14 (s 14 + (if s 17 = nI 1 then nI 1 else -(nI 1)))) i = s i := fun i h1 h2 h3 => by rw [ups_n h2, ups_n h3, un i h1 h3]
        have v12 : (ups (ups (nextU s) 15 (nI 0)) 14 (s 14 + (if s 17 = nI 1 then nI 1 else -(nI 1)))) 12 = nI 1 := by rw [ups_n (by omega), ups_n (by omega), u12]
        refine K _ ((((Fr.wr h _ (WS_t (by omega) (by omega))).and _ (WS_t (by omega) (by omega))).and _ (WS_t (by omega) (by omega))).and _ (WS_t (by omega) (by omega))) (X.plan0 ha R (fun i hi => ux i (by omega) (by omega) (by omega)) (fun b e => by rw [si_b e, si_b e, si_b e, si_b e]) (fun k hk => by rw [si_a, si_a, si_a, si_a, ups_n (by omega), ups_n (by omega), ups_n (by omega), ups_n (by omega)]) ?_)
        rw [StT, si_a, si_a, si_a, si_a]
        have gp : ∀ k v w y, k ≠ 9 → k ≠ 11 → k ≠ 13 → k ≠ 14 → ups (ups (ups (ups (h.1 a) 11 x) 13 v) 14 w) 9 y k = h.1 a k := fun k v w y h1 h2 h3 h4 => by rw [ups_n h1, ups_n h4, ups_n h3, ups_n h2]
        refine ⟨?_, ?_, ?_, ?_, ?_, ?_⟩
        · (repeat rw [ups_n (by omega)]); exact X.st.ib
        · rw [gp 1 _ _ _ (by omega) (by omega) (by omega) (by omega), ux 11 (by omega) (by omega) (by omega)]; exact X.st.ck
        · rw [gp 2 _ _ _ (by omega) (by omega) (by omega) (by omega), ux 5 (by omega) (by omega) (by omega)]; exact X.st.fo
        · rw [ups_s, v12]
        · intro _
          refine ⟨?_, ?_, ?_, ?_⟩
          · rw [gp 10 _ _ _ (by omega) (by omega) (by omega) (by omega), ux 13 (by omega) (by omega) (by omega)]; exact pl.1
          · rw [ups_n (by omega), ups_n (by omega), ups_n (by omega), ups_s, ups_s, hx]
          · rw [gp 12 _ _ _ (by omega) (by omega) (by omega) (by omega), ux 17 (by omega) (by omega) (by omega)]; exact pl.2.2.1
          · rw [ups_n (by omega), ups_n (by omega), ups_s, ups_n (by omega), ups_s]
        · rw [ups_n (by omega), ups_s, soakE_n v12 (by omega), m1_eq]
      refine u_X8_leaveWave_42 ha (br_f (by decide) ?_)
      rw [p12, p11]
      rcases R.dr hp with ⟨h17, -⟩ | ⟨h17, -⟩
      · rw [h17]
        exact br_f (by decide) (fin _ (by rw [if_pos h17]))
      · rw [h17]
        exact br_t rfl (fin _ (by rw [if_neg (by rw [h17]; decide)]))
    · rw [if_pos c2] at K
      -- done: the wave stays as it was in the class
      have R1 : Rk C E (ups (nextU s) 15 (nI 0)) := by
        refine R.plan0 (fun i hi => by rw [ups_n (by omega), un i (by omega) (by omega)]) ?_
        have w12 : (ups (nextU s) 15 (nI 0)) 12 = nI 1 := by rw [ups_n (by omega), u12]
        have w : ∀ i, i ≠ 12 → i ≠ 15 → (ups (nextU s) 15 (nI 0)) i = s i := fun i h1 h2 => by rw [ups_n h2, un i h1 h2]
        refine ⟨?_, ?_, ?_, ?_, ?_, ?_, ?_, ?_⟩
        · rw [w 5 (by omega) (by omega)]; exact R.f
        · rw [w12]; exact isN_nI (by omega) (by omega)
        · intro _; rw [w 13 (by omega) (by omega), w 0 (by omega) (by omega)]; exact hta
        · intro _; rw [w 14 (by omega) (by omega), w 0 (by omega) (by omega)]; exact hse
        · intro _; rw [ups_s, w 3 (by omega) (by omega), nn_nI (n := 0) (by omega)]; exact ⟨isN_nI (by omega) (by omega), by omega⟩
        · intro _; rw [w 17 (by omega) (by omega), w 14 (by omega) (by omega), w 13 (by omega) (by omega)]; exact R.dr hp
        · rw [w12]; intro z; exact absurd z (by decide)
        · rw [w12]; rintro (z | ⟨z, -⟩) <;> exact absurd z (by decide)
      have hu : ∀ i, (i < 12 ∨ 19 ≤ i) → (ups (ups (nextU s) 15 (nI 0)) 12 (nI 4)) i = s i := fun i hi => by rw [ups_n (by omega), ups_n (by omega), un i (by omega) (by omega)]
      have f2 : ∀ b, b ≠ a → (si (si h a 9 (nI 4)) a 14 (-(nI 1))).1 b = h.1 b := fun b e => by rw [si_b e, si_b e]
      have z12 : (ups (ups (nextU s) 15 (nI 0)) 12 (nI 4)) 12 = nI 4 := ups_s
      have hp2 : hasP (ups (ups (nextU s) 15 (nI 0)) 12 (nI 4)) = false := by simp [hasP, z12]
      have T : StT a (ups (ups (nextU s) 15 (nI 0)) 12 (nI 4)) (si (si h a 9 (nI 4)) a 14 (-(nI 1))).1 := by
        rw [StT, si_a, si_a]
        refine ⟨?_, ?_, ?_, ?_, ?_, ?_⟩
        · (repeat rw [ups_n (by omega)]); exact X.st.ib
        · rw [ups_n (by omega), ups_n (by omega), hu 11 (by omega)]; exact X.st.ck
        · rw [ups_n (by omega), ups_n (by omega), hu 5 (by omega)]; exact X.st.fo
        · rw [ups_n (by omega), ups_s, z12]
        · intro z; rw [hp2] at z; cases z
        · rw [ups_s, soakE_n (n := 4) z12 (by omega), m1_eq]
      refine t_X8_finishPlan ha ?_
      rw [gi_ok (by omega), gi_ok (by omega), gi_ok (by omega), gi_ok (by omega), show gi h a 1 = s 11 from X.st.ck, p10]
      refine c_add ha (X.ev0 hu f2) (E := E) (by rw [hu 19 (by omega)]; exact R.ev) hE (hu 11 (by omega)).symm (fun h3 f3 S3 => ?_)
      have e13 : (ups (nextU s) 15 (nI 0)) 13 = s 13 := by rw [ups_n (by omega), un 13 (by omega) (by omega)]
      refine K h3 (((Fr.wr h _ (WS_t (by omega) (by omega))).and _ (WS_t (by omega) (by omega))).trans (f3.mono fun b k e => WE_WS e)) ?_
      unfold doneS
      rw [e13]
      refine X.plan ha R hu f2 (fun k hk => ?_) T f3 S3
      rw [si_a, ups_n (by omega), si_a, ups_n (by omega)]
/-! a member behind those that were gone through -/
theorem rolA_mf : ∀ n m w, n ≤ m → m < 12 → w < 7 → mf (rolA n s) m w = mf s m w
  | 0, _, _, _, _, _ => rfl
  | n + 1, m, w, h, h2, h3 => by
    have ih := rolA_mf n m w (by omega) h2 h3
    cases q : rolC (rolA n s) n
    · rw [(rolA_f q).1]; exact ih
    · rw [(rolA_t q).1, beg_o h2 h3 (by omega)]; exact ih
theorem rdy_of {m : Nat} (e1 : mf t m 1 = mf s m 1) (e2 : mf t m 2 = mf s m 2) (e14 : t 14 = s 14) (e17 : t 17 = s 17) : rdy t m = rdy s m := by
  unfold rdy vN
  rw [isD_of e2, e1, e14, e17]
theorem ofW_plnd (R : Rk C E s) (hp : hasP s = true) {m : Nat} (h : ofW s m (s 15) = true) : plnd s m = true := by
  have htu := (R.tu hp).1
  have e : wvOf s m = s 15 := by simpa [ofW] using h
  simp [plnd, e, htu.nm1]
theorem he_b (R : Rk C E s) {m : Nat} (hm : m < nn (s 2)) : decide (mf s m 5 = 0) = !decide (mf s m 5 = nI 1) := by
  rcases R.he m hm with e | e
  · rw [e]; decide
  · rw [e]; decide
def cand (s : RW) (m : Nat) : Bool := (lagM s m && !isD s m) && !decide (mf s m 5 = nI 1)
theorem rolC_eq (R : Rk C E s) (hp : hasP s = true) {i : Nat} (hi : i < nn (s 2)) : rolC (rolA i s) i = (cand s i && decide (whyN (rolA i s) i (nn (s 14)) = 0)) := by
  have hm2 := R.m.2
  have a := rolA_agL (s := s) i
  have e5 := rolA_mf (s := s) i i 5 (Nat.le_refl _) (by omega) (by omega)
  have e2 := rolA_mf (s := s) i i 2 (Nat.le_refl _) (by omega) (by omega)
  have e1 := rolA_mf (s := s) i i 1 (Nat.le_refl _) (by omega) (by omega)
  have x1 : ofW (rolA i s) i (rolA i s 15) = ofW s i (s 15) := by rw [a.ofW R.1 hi, rolA_lo i 15 (by omega) (by omega)]
  have x2 : free (rolA i s) i = (plnd s i && !decide (mf s i 5 = nI 1)) := by
    unfold free
    rw [a.plnd R.1 hi, e5, he_b R hi]
  have x3 : isD (rolA i s) i = isD s i := isD_of e2
  have x4 : rdy (rolA i s) i = rdy s i := rdy_of e1 e2 (rolA_lo i 14 (by omega) (by omega)) (rolA_lo i 17 (by omega) (by omega))
  have x5 : rolA i s 14 = s 14 := rolA_lo i 14 (by omega) (by omega)
  unfold rolC cand lagM
  rw [x1, x2, x3, x4, x5, hp]
  cases c : ofW s i (s 15)
  · simp
  · rw [ofW_plnd R hp c]
    cases isD s i <;> cases rdy s i <;> simp
theorem l_beginChanges {h0 : PH} (ha : a = 60 ∨ a = 67) (R : Rk C E s) (hC : C < 2 ^ 30) (hE : E + 14 < 2 ^ 31) (hp : hasP s = true) (K : ∀ h', Fr (WS a) h0 h' → CR a (rolA (nn (s 2)) s) h' → kk (nI (rolN (nn (s 2)) s)) h') :
    ∀ k i h, i + k = nn (s 2) → Fr (WS a) h0 h → CR a (rolA i s) h → At m_X8_beginChanges (rI q kk) 23 0 [some (.ref a), some (.int (nI (rolN i s))), some (.int (mk (nn (s 2)) (cand s))), some (.int (nI i))] [] h := by
  have hm2 := R.m.2
  intro k
  induction k with
  | zero =>
    intro i h hi fr X
    refine u_X8_beginChanges_23 ha ?_
    rw [show gi h 26 1 = _ from X.ly.nm, rolA_lo i 2 (by omega) (by omega), R.m.1]
    refine pk_le (nn (s 2)) i (fun _ => ?_) (fun z => absurd z (by omega))
    have : i = nn (s 2) := by omega
    subst this
    exact K h fr X
  | succ k ih =>
    intro i h hi fr X
    have Ri := R.rolA hC (by omega) hp i (by omega)
    have n2 : rolA i s 2 = s 2 := rolA_lo i 2 (by omega) (by omega)
    have n0 : rolA i s 0 = s 0 := rolA_lo i 0 (by omega) (by omega)
    have e14 : rolA i s 14 = s 14 := rolA_lo i 14 (by omega) (by omega)
    have hpi : hasP (rolA i s) = true := (hasP_of (rolA_lo i 12 (by omega) (by omega))).trans hp
    have hmi : i < nn (rolA i s 2) := by rw [n2]; omega
    have hse := R.se hp
    have h14 := hse.1.2
    have hv8 := R.v.2
    have hrc := rolC_eq R hp (i := i) (by omega)
    have p11 : gi h a 11 = s 14 := by rw [← e14]; exact (X.st.pl hpi).2.1
    refine u_X8_beginChanges_23 ha ?_
    have e26 : gi h 26 1 = nI (nn (s 2)) := (X.ly.nm.trans n2).trans R.m.1
    rw [e26]
    refine pk_le (nn (s 2)) i (fun z => absurd z (by omega)) (fun hlt => ?_)
    have no : rolC (rolA i s) i = false → At m_X8_beginChanges (rI q kk) 23 0 [some (.ref a), some (.int (nI (rolN i s))), some (.int (mk (nn (s 2)) (cand s))), some (.int (nI (i + 1)))] [] h := fun c => by
      have := ih (i + 1) h (by omega) fr (by rw [(rolA_f c).1]; exact X)
      rw [(rolA_f c).2] at this; exact this
    refine c_isIn (by omega) ?_
    rw [bt_mk_in (by omega) hlt, nI_add]
    refine bq (fun c => no (by rw [hrc, c]; rfl)) (fun c => ?_)
    rw [p11, hse.1.1]
    refine c_whyNotBegin ha Ri X.ly X.st hmi (by rw [n0]; exact hse.2) ⟨fun c2 => no ?_, fun c2 => ?_⟩
    · have : ¬ whyN (rolA i s) i (nn (s 14)) = 0 := fun z => c2 (by rw [z]; rfl)
      rw [hrc, decide_eq_false this, Bool.and_false]
    · have c5 : whyN (rolA i s) i (nn (s 14)) = 0 := by
        have hle : whyN (rolA i s) i (nn (s 14)) < 8 := by unfold whyN; repeat' split <;> first | omega | skip
        rw [← nI_0, nI_eq (by omega) (by omega)] at c2
        exact c2
      have cc : rolC (rolA i s) i = true := by rw [hrc, c, decide_eq_true c5]; rfl
      rw [p11]
      refine c_beginChange ha Ri (by omega) X hmi hse.1 (fun h1 f1 X1 => ?_)
      have := ih (i + 1) h1 (by omega) (fr.trans f1) (by rw [(rolA_t cc).1]; exact X1)
      rw [(rolA_t cc).2] at this
      rw [nI_add]; exact this
theorem c_beginChanges (ha : a = 60 ∨ a = 67) (R : Rk C E s) (hC : C < 2 ^ 30) (hE : E + 14 < 2 ^ 31) (hp : hasP s = true) (X : CR a s h) (K : ∀ h', Fr (WS a) h h' → CR a (rolA (nn (s 2)) s) h' → kk (nI (rolN (nn (s 2)) s)) h') : MetPM m_X8_beginChanges [.ref a] h (rI q kk) := by
  have hm2 := R.m.2
  refine t_X8_beginChanges ha (c_laggards ha R X.ly X.st ?_)
  rw [show gi h a 7 = mk (nn (s 2)) (isD s) from X.st.ds, mk_dif (by omega), show gi h a 8 = mk (nn (s 2)) (fun m => decide (mf s m 5 = nI 1)) from X.st.he, mk_dif (by omega)]
  exact l_beginChanges (h0 := h) ha R hC hE hp K _ 0 h (Nat.zero_add _) (Fr.refl _ _) X
theorem c_soakIfComplete (ha : a = 60 ∨ a = 67) (R : Rk C E s) (hE : E + 1 < 2 ^ 31) (hp : hasP s = true) (X : CR a s h) (K : ∀ h', Fr (WS a) h h' → CR a (if cmpl s = true then soakS s else s) h' → kv h') : MetPM m_X8_soakIfComplete [.ref a] h (rV q kv) := by
  have hm2 := R.m.2
  have pl := X.st.pl hp
  refine t_X8_soakIfComplete ha (c_laggards ha R X.ly X.st ?_)
  rw [show gi h a 8 = mk (nn (s 2)) (fun m => decide (mf s m 5 = nI 1)) from X.st.he, mk_dif (by omega), mk_z (by omega)]
  have hc : anyN (nn (s 2)) (fun i => lagM s i && !decide (mf s i 5 = nI 1)) = !cmpl s := by
    have hx : ∀ i, i < nn (s 2) → (lagM s i && !decide (mf s i 5 = nI 1)) = !(!ofW s i (s 15) || (!free s i || rdy s i)) := fun i hi => by
      unfold lagM free
      rw [hp, he_b R hi]
      cases c : ofW s i (s 15)
      · simp
      · rw [ofW_plnd R hp c]
        cases rdy s i <;> simp
    rw [anyN_eq hx]
    cases c : cmpl s
    · cases c2 : anyN (nn (s 2)) (fun i => !(!ofW s i (s 15) || (!free s i || rdy s i)))
      · have : cmpl s = true := allN_iff.mpr fun i hi => by
          have := anyN_f.mp c2 i hi
          cases u : (!ofW s i (s 15) || (!free s i || rdy s i))
          · rw [u] at this; cases this
          · rfl
        rw [this] at c; cases c
      · rfl
    · exact anyN_f.mpr fun i hi => by rw [allN_iff.mp c i hi]; rfl
  rw [hc]
  refine ⟨fun c => ?_, fun c => ?_⟩
  · have c2 : cmpl s = false := by
      cases z : cmpl s
      · rfl
      · rw [z] at c; exact absurd rfl c
    rw [if_neg (by rw [c2]; decide)] at K
    exact K h (Fr.refl _ _) X
  · have c2 : cmpl s = true := by
      cases z : cmpl s
      · rw [z] at c; cases c
      · rfl
    rw [if_pos c2] at K
    have hu : ∀ i, (i < 12 ∨ 19 ≤ i) → (ups (ups s 12 (nI 2)) 16 (s 11 + s 9)) i = s i := fun i hi => by rw [ups_n (by omega), ups_n (by omega)]
    have e0 : gi (si h a 9 (nI 2)) a 1 + gi (si h a 9 (nI 2)) 15 16 = s 11 + s 9 := by
      rw [gi_ok (by omega), gi_ob (by omega), show gi h a 1 = s 11 from X.st.ck, show gi h 15 16 = s 9 from X.ly.so]
    rw [e0, gi_ok (by omega), gi_ok (by omega), gi_ok (by omega), gi_ok (by omega), show gi h a 1 = s 11 from X.st.ck, show gi h a 13 = s 15 from pl.2.2.2]
    intro y3 y4
    have f2 : ∀ b, b ≠ a → (si (si h a 9 (nI 2)) a 14 (s 11 + s 9)).1 b = h.1 b := fun b e => by rw [si_b e, si_b e]
    have u12 : (ups (ups s 12 (nI 2)) 16 (s 11 + s 9)) 12 = nI 2 := by rw [ups_n (by omega), ups_s]
    have un : ∀ i, i ≠ 12 → i ≠ 16 → (ups (ups s 12 (nI 2)) 16 (s 11 + s 9)) i = s i := fun i h1 h2 => by rw [ups_n h2, ups_n h1]
    have T : StT a (ups (ups s 12 (nI 2)) 16 (s 11 + s 9)) (si (si h a 9 (nI 2)) a 14 (s 11 + s 9)).1 := by
      rw [StT, si_a, si_a]
      have gp : ∀ k v w, k ≠ 9 → k ≠ 14 → ups (ups (h.1 a) 9 v) 14 w k = h.1 a k := fun k v w h1 h2 => by rw [ups_n h2, ups_n h1]
      refine ⟨?_, ?_, ?_, ?_, ?_, ?_⟩
      · (repeat rw [ups_n (by omega)]); exact X.st.ib
      · rw [gp 1 _ _ (by omega) (by omega), un 11 (by omega) (by omega)]; exact X.st.ck
      · rw [gp 2 _ _ (by omega) (by omega), un 5 (by omega) (by omega)]; exact X.st.fo
      · rw [ups_n (by omega), ups_s, u12]
      · intro _
        rw [gp 10 _ _ (by omega) (by omega), gp 11 _ _ (by omega) (by omega), gp 12 _ _ (by omega) (by omega), gp 13 _ _ (by omega) (by omega), un 13 (by omega) (by omega), un 14 (by omega) (by omega), un 17 (by omega) (by omega), un 15 (by omega) (by omega)]; exact pl
      · rw [ups_s]
        unfold soakE
        rw [u12, if_pos (Or.inl rfl), ups_s]
    refine c_add ha (X.ev0 hu f2) (E := E) (by rw [hu 19 (by omega)]; exact R.ev) hE (hu 11 (by omega)).symm (fun h3 f3 S3 => ?_)
    refine K h3 (((Fr.wr h _ (WS_t (by omega) (by omega))).and _ (WS_t (by omega) (by omega))).trans (f3.mono fun b k e => WE_WS e)) (X.plan ha R hu f2 (fun k hk => ?_) T f3 S3)
    rw [si_a, si_a, ups_n (by omega), ups_n (by omega)]
theorem CR.tick (ha : a = 60 ∨ a = 67) (R : Rk C E s) (X : CR a s h) : CR a (ups s 11 (s 11 + nI 1)) (si h a 1 (s 11 + nI 1)) := by
  have ag : agL s (ups s 11 (s 11 + nI 1)) := agL_up (by omega)
  have un : ∀ i, i ≠ 11 → (ups s 11 (s 11 + nI 1)) i = s i := fun i e => ups_n e
  refine ⟨(X.ly.heap fun b h1 h2 => si_b (by omega)).congr ag R.1, ?_, ?_, ?_⟩
  · refine StM.congr ag.n2 R.m.2 (fun o w h1 h3 h4 => mf_up (by omega)) ?_ ?_ (si_b (by omega)) (si_b (by omega)) (si_b (by omega)) (si_b (by omega)) X.st.1
    · rw [si_a, ups_n (by omega)]
    · rw [si_a, ups_n (by omega)]
  · rw [StT, si_a]
    refine ⟨?_, ?_, ?_, ?_, ?_, ?_⟩
    · (repeat rw [ups_n (by omega)]); exact X.st.ib
    · rw [ups_s, ups_s]
    · rw [ups_n (by omega), un 5 (by omega)]; exact X.st.fo
    · rw [ups_n (by omega), un 12 (by omega)]; exact X.st.st
    · rw [hasP_of (un 12 (by omega))]
      intro z
      have gp : ∀ k, k ≠ 1 → ups (h.1 a) 1 (s 11 + nI 1) k = h.1 a k := fun k e => ups_n e
      rw [gp 10 (by omega), gp 11 (by omega), gp 12 (by omega), gp 13 (by omega), un 13 (by omega), un 14 (by omega), un 17 (by omega), un 15 (by omega)]
      exact X.st.pl z
    · rw [ups_n (by omega), soakE_of (un 12 (by omega)) (un 16 (by omega)) (un 18 (by omega))]; exact X.st.se
  · exact StE.congr (un 19 (by omega)) (fun i hi => un i (by omega)) (si_b (by omega)) (si_b (by omega)) X.st.2.2
theorem c_passMinute (ha : a = 60 ∨ a = 67) (R : Rk C E s) (hC : C < 2 ^ 29) (hE : E + 30 < 2 ^ 31) (X : CR a s h) (K : ∀ h', Fr (WS a) h h' → CR a (minS s) h' → kk (nI (minN s)) h') : MetPM m_X8_passMinute [.ref a] h (rI q kk) := by
  have R1 := R.min1 hC (by omega)
  have R2 := R.min2 hC (by omega)
  have R3 := R.min3 hC (by omega)
  refine t_X8_passMinute ha ?_
  rw [show gi h a 1 = s 11 from X.st.ck]
  have e2 : (ups s 11 (s 11 + nI 1)) 2 = s 2 := ups_n (by omega)
  refine c_endChanges ha (R.tick (by omega)) (by omega) (by omega) (X.tick ha R) (fun h1 f1 X1 => ?_)
  rw [e2] at X1
  have X1 : CR a (min1 s) h1 := X1
  have f1' : Fr (WS a) h h1 := (Fr.wr h _ (WS_t (by omega) (by omega))).trans f1
  have three : ∀ h3, Fr (WS a) h h3 → CR a (min3 s) h3 → At m_X8_passMinute (rI q kk) 58 0 [some (.ref a), some (.int (nI 0))] [] h3 := fun h3 f3 X3 => by
    refine u_X8_passMinute_58 ha ?_
    rw [show gi h3 a 9 = _ from X3.st.st]
    refine ⟨fun c => u_X8_passMinute_75 ha ?_, fun c => ?_⟩
    · have e1 : minS s = min3 s := by unfold minS; rw [if_neg c]
      have e2 : minN s = 0 := by unfold minN; rw [if_neg c]
      rw [e1, e2] at K
      exact K h3 f3 X3
    · have hp := hasP_t c (by omega) (by omega)
      have hm2 := R3.m.2
      refine c_beginChanges ha R3 (by omega) (by omega) hp X3 (fun h4 f4 X4 => ?_)
      have R4 := R3.rolA (by omega) (by omega) hp _ (Nat.le_refl _)
      refine c_soakIfComplete ha R4 (by omega) ((hasP_of (rolA_lo _ 12 (by omega) (by omega))).trans hp) X4 (fun h5 f5 X5 => u_X8_passMinute_75 ha ?_)
      have e1 : minS s = rolS (min3 s) := by unfold minS; rw [if_pos c]
      have e2 : minN s = rolN (nn (min3 s 2)) (min3 s) := by unfold minN; rw [if_pos c]
      rw [e1, e2] at K
      exact K h5 ((f3.trans f4).trans f5) X5
  have two : ∀ h2, Fr (WS a) h h2 → CR a (min2 s) h2 → At m_X8_passMinute (rI q kk) 35 0 [some (.ref a), some (.int (nI 0))] [] h2 := fun h2 f2 X2 => by
    refine u_X8_passMinute_35 ha ?_
    rw [show gi h2 a 9 = _ from X2.st.st]
    refine ⟨fun c => three h2 f2 ?_, fun c => ?_⟩
    · unfold min3; rw [if_neg (fun z => c z.1)]; exact X2
    · have e14 : gi h2 a 14 = min2 s 16 := by
        rw [show gi h2 a 14 = _ from X2.st.se]
        unfold soakE; rw [if_pos (Or.inl c)]
      rw [show gi h2 a 1 = _ from X2.st.ck, e14]
      refine cq (fun c2 => three h2 f2 ?_) (fun c2 => c_leaveWave ha R2 (by omega) c X2 (fun h3 f3 X3 => three h3 (f2.trans f3) ?_))
      · unfold min3; rw [if_neg (fun z => z.2 c2)]; exact X2
      · unfold min3; rw [if_pos ⟨c, c2⟩]; exact X3
  refine c_isActive ha X1.st (bq (fun c => two h1 f1' ?_) (fun c => c_isOverLimit ha R1 X1.ly X1.st (going_P c) (bq (fun c2 => two h1 f1' ?_) (fun c2 => c_stopPlan ha R1 (by omega) c X1 (fun h2 f2 X2 => two h2 (f1'.trans f2) ?_)))))
  · unfold min2; rw [if_neg (fun z => by rw [c] at z; cases z.1)]; exact X1
  · unfold min2; rw [if_neg (fun z => by rw [c2] at z; cases z.2)]; exact X1
  · unfold min2; rw [if_pos ⟨c, c2⟩]; exact X2
end

