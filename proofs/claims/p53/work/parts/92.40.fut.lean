/-! ===== what will be: minutes that go on, both sides ===== -/
section
variable {q : Nat → PH → Prop} {kk : Int32 → PH → Prop} {kv : PH → Prop} {h : PH} {s t : RW} {C E : Nat} {a : Nat} {f g : FI}
/-! rows that agree in their cells -/
def eqR (s t : RW) : Prop := ∀ i, i < 253 → t i = s i
theorem eqR.refl (s : RW) : eqR s s := fun _ _ => rfl
theorem eqR.symm (e : eqR s t) : eqR t s := fun i hi => (e i hi).symm
theorem eqR.trans {u : RW} (e : eqR s t) (e2 : eqR t u) : eqR s u := fun i hi => (e2 i hi).trans (e i hi)
theorem eqR.ag (e : eqR s t) : agL s t := fun i hi => e i (by omega)
theorem eqR.mf (e : eqR s t) {m w : Nat} (hm : m < 12) (hw : w < 7) : mf t m w = mf s m w := e _ (by omega)
theorem Rk.eqR (e : eqR s t) (R : Rk C E s) : Rk C E t := by
  have hm2 := R.m.2
  have ag := e.ag
  refine ⟨R.1.congr ag, ⟨by rw [e 11 (by omega)]; exact R.ck, fun o ho => ?_⟩, R.2.2.1.congr ag.n0 ag.n3 (e 5 (by omega)) (fun i _ _ => e i (by omega)), by rw [e 19 (by omega)]; exact R.ev⟩
  rw [ag.n2] at ho
  exact (R.2.1.2 o ho).congr ag.n0 (e 11 (by omega)) (fun w _ _ => e.mf (by omega) (by omega))
theorem StM.eqR (hm2 : nn (s 2) ≤ 12) (e : eqR s t) (S : StM a s f) : StM a t f := S.congr (e 2 (by omega)) hm2 (fun m w hm h1 h2 => e.mf hm (by omega)) rfl rfl rfl rfl rfl rfl
theorem StT.eqR (e : eqR s t) (S : StT a s f) : StT a t f := S.congr (fun i hi => e i (by omega)) (fun _ _ _ => rfl)
theorem StE.eqR (e : eqR s t) (S : StE a s f) : StE a t f := by
  obtain ⟨h1, w, hw, h2, h3⟩ := S
  have e19 := e 19 (by omega)
  refine ⟨by rw [kEv_of e19]; exact h1, w, hw, h2, fun i hi j hj => ?_⟩
  rw [kEv_of e19] at hi
  rw [e19, e _ (by unfold evM; omega)]
  exact h3 i hi j hj
theorem StR.eqR (hm2 : nn (s 2) ≤ 12) (e : eqR s t) (S : StR a s f) : StR a t f := ⟨S.1.eqR hm2 e, S.2.1.eqR e, S.2.2.eqR e⟩
theorem CR.eqR (R : Rk C E s) (e : eqR s t) (X : CR a s h) : CR a t h := ⟨X.1.congr e.ag R.1, X.2.eqR R.m.2 e⟩
/-! a plan that doesn't go on -/
theorem endA_lo : ∀ n i, i < 49 → i ≠ 19 → endA n s i = s i
  | 0, _, _, _ => rfl
  | n + 1, i, h, h2 => by
    have ih := endA_lo n i h h2
    cases c : endC (endA n s) n
    · rw [endA_f c]; exact ih
    · rw [endA_t c, end_lo h h2]; exact ih
theorem min1_12 : min1 s 12 = s 12 := by
  unfold min1
  rw [endA_lo _ _ (by omega) (by omega), ups_n (by omega)]
theorem idle (e : going s = false) : minS s 12 = s 12 ∧ minN s = 0 := by
  have hn : ¬ s 12 = nI 1 ∧ ¬ s 12 = nI 2 := by
    unfold going at e
    rw [Bool.or_eq_false_iff, decide_eq_false_iff_not, decide_eq_false_iff_not] at e
    exact e
  have g1 : going (min1 s) = false := by rw [going_of min1_12]; exact e
  have e2 : min2 s = min1 s := by unfold min2; rw [if_neg (by rw [g1]; rintro ⟨z, -⟩; cases z)]
  have e3 : min3 s = min1 s := by
    unfold min3
    rw [e2, if_neg]
    rintro ⟨z, -⟩
    rw [min1_12] at z
    exact hn.2 z
  constructor
  · unfold minS
    rw [e3, if_neg (by rw [min1_12]; exact hn.1)]
    exact min1_12
  · unfold minN
    rw [e3, if_neg (by rw [min1_12]; exact hn.1)]
theorem going_n (e : going s = false) : ∀ n, itS n s 12 = s 12 ∧ minN (itS n s) = 0
  | 0 => ⟨rfl, (idle e).2⟩
  | n + 1 => by
    have ih := (going_n e n).1
    have g : going (itS n s) = false := by rw [going_of ih]; exact e
    have e12 : itS (n + 1) s 12 = s 12 := (idle g).1.trans ih
    have g2 : going (itS (n + 1) s) = false := by rw [going_of e12]; exact e
    exact ⟨e12, (idle g2).2⟩
/-- with nobody down and nothing begun a rolling plan meets the same reasons for ever -/
def Stk (s : RW) : Prop := s 12 = nI 1 ∧ (∀ m, m < nn (s 2) → isD s m = false ∧ rolC s m = false) ∧ cmpl s = false
theorem rolA_0 (h : ∀ m, m < nn (s 2) → rolC s m = false) : ∀ n, n ≤ nn (s 2) → rolA n s = s ∧ rolN n s = 0
  | 0, _ => ⟨rfl, rfl⟩
  | n + 1, hn => by
    have ih := rolA_0 h n (by omega)
    have c : rolC (rolA n s) n = false := by rw [ih.1]; exact h n (by omega)
    have e := rolA_f c
    exact ⟨e.1.trans ih.1, e.2.trans ih.2⟩
theorem rolN_0 : ∀ n, rolN n s = 0 → rolA n s = s ∧ ∀ m, m < n → rolC s m = false
  | 0, _ => ⟨rfl, fun m hm => absurd hm (Nat.not_lt_zero m)⟩
  | n + 1, h => by
    cases c : rolC (rolA n s) n
    · have e := rolA_f c
      rw [e.2] at h
      have ih := rolN_0 n h
      refine ⟨e.1.trans ih.1, fun m hm => ?_⟩
      rcases Nat.lt_or_ge m n with q1 | q1
      · exact ih.2 m q1
      · have : m = n := by omega
        subst this
        rw [ih.1] at c; exact c
    · have e := rolA_t c
      rw [e.2] at h
      omega
theorem whyN_tick {x : Int32} {m v : Nat} : whyN (ups s 11 x) m v = whyN s m v := by
  have e : ∀ o w, mf (ups s 11 x) o w = mf s o w := fun o w => mf_up (by omega)
  have u : ∀ i, i ≠ 11 → (ups s 11 x) i = s i := fun i hi => ups_n hi
  have d : ∀ o, isD (ups s 11 x) o = isD s o := fun o => isD_of (e o 2)
  have cm : ∀ o, com (ups s 11 x) o = com s o := fun o => com_of (e o 2) (e o 1)
  have cn : ∀ o, cN (ups s 11 x) o = cN s o := fun o => by unfold cN; rw [cm]
  have tk : ∀ b c, b < 100 → tlk (ups s 11 x) b c = tlk s b c := fun b c hb => by unfold tlk; rw [u _ (by omega)]
  have tk2 : ∀ b c, tlk (ups s 11 x) b c = tlk s b c := fun b c => by unfold tlk; rw [u _ (by omega)]
  have rd2 : ∀ b c, rds (ups s 11 x) b c = rds s b c := fun b c => by unfold rds; rw [u _ (by omega), u _ (by omega)]
  have pr : ∀ b c, par (ups s 11 x) b c = par s b c := fun b c => by unfold par; rw [e, e, e]
  have dn : dnIn (ups s 11 x) (mf s m 0) = dnIn s (mf s m 0) := funext fun o => by unfold dnIn; rw [e, d]
  have fr : farM (ups s 11 x) m v = farM s m v := by
    unfold farM
    rw [u 2 (by omega), u 6 (by omega)]
    exact anyN_eq fun o ho => by rw [cn]
  have sl : slnt (ups s 11 x) m v = slnt s m v := funext fun o => by unfold slnt; rw [pr, cn, tk2]
  have vn : vN (ups s 11 x) m = vN s m := by unfold vN; rw [e]
  unfold whyN
  rw [e, e, d, vn, rd2, u 5 (by omega), u 7 (by omega), u 2 (by omega), dn, fr, sl]
theorem Stk.next (hm2 : nn (s 2) ≤ 12) (K : Stk s) : (minS s 12 = nI 3 ∧ minN s = 0) ∨ (Stk (minS s) ∧ minN s = 0 ∧ (minS s) 2 = s 2) := by
  obtain ⟨k1, k2, k3⟩ := K
  have u : ∀ i, i ≠ 11 → (ups s 11 (s 11 + nI 1)) i = s i := fun i hi => ups_n hi
  have e : ∀ o w, mf (ups s 11 (s 11 + nI 1)) o w = mf s o w := fun o w => mf_up (by omega)
  have d : ∀ o, isD (ups s 11 (s 11 + nI 1)) o = isD s o := fun o => isD_of (e o 2)
  have e1 : min1 s = ups s 11 (s 11 + nI 1) := by
    unfold min1
    have : ∀ n, n ≤ nn (s 2) → endA n (ups s 11 (s 11 + nI 1)) = ups s 11 (s 11 + nI 1) := by
      intro n
      induction n with
      | zero => intro _; rfl
      | succ n ih =>
        intro hn
        rw [endA, ih (by omega)]
        have : endC (ups s 11 (s 11 + nI 1)) n = false := by
          unfold endC
          rw [d, (k2 n (by omega)).1]; rfl
        rw [this]
    exact this _ (Nat.le_refl _)
  have m12 : min1 s 12 = nI 1 := min1_12.trans k1
  by_cases ov : over (min1 s) = true
  · refine Or.inl ?_
    have g : going (min1 s) = true := by unfold going; rw [m12]; decide
    have e2 : min2 s = stopS (min1 s) := by unfold min2; rw [if_pos ⟨g, ov⟩]
    have s12 : stopS (min1 s) 12 = nI 3 := by
      unfold stopS
      rw [evS_lo (by omega) (by omega), ups_s]
    have e3 : min3 s = stopS (min1 s) := by
      unfold min3
      rw [e2, if_neg]
      rintro ⟨z, -⟩
      rw [s12] at z
      exact absurd z (by decide)
    constructor
    · unfold minS
      rw [e3, if_neg (by rw [s12]; decide)]
      exact s12
    · unfold minN
      rw [e3, if_neg (by rw [s12]; decide)]
  · refine Or.inr ?_
    have e2 : min2 s = min1 s := by unfold min2; rw [if_neg (fun z => ov z.2)]
    have e3 : min3 s = ups s 11 (s 11 + nI 1) := by
      unfold min3
      rw [e2, if_neg, e1]
      rintro ⟨z, -⟩
      rw [m12] at z
      exact absurd z (by decide)
    have h12 : (ups s 11 (s 11 + nI 1)) 12 = nI 1 := (u 12 (by omega)).trans k1
    have vn : ∀ o, vN (ups s 11 (s 11 + nI 1)) o = vN s o := fun o => by unfold vN; rw [e]
    have wv : ∀ o, wvOf (ups s 11 (s 11 + nI 1)) o = wvOf s o := fun o => by
      have hp : pN (ups s 11 (s 11 + nI 1)) o = pN s o := by unfold pN; rw [e]
      unfold wvOf
      rw [hp, u _ (by omega)]
    have ow : ∀ o w, ofW (ups s 11 (s 11 + nI 1)) o w = ofW s o w := fun o w => by unfold ofW; rw [wv]
    have fe : ∀ o, free (ups s 11 (s 11 + nI 1)) o = free s o := fun o => by unfold free plnd; rw [wv, e]
    have rd2 : ∀ o, rdy (ups s 11 (s 11 + nI 1)) o = rdy s o := fun o => by unfold rdy; rw [d, vn, u 17 (by omega), u 14 (by omega)]
    have rc : ∀ o, rolC (ups s 11 (s 11 + nI 1)) o = rolC s o := fun o => by
      unfold rolC
      rw [u 15 (by omega), u 14 (by omega), ow, fe, d, rd2, whyN_tick]
    have cm : cmpl (ups s 11 (s 11 + nI 1)) = false := by
      rw [← k3]
      unfold cmpl
      rw [u 2 (by omega), u 15 (by omega)]
      exact allN_eq fun o ho => by rw [ow, fe, rd2]
    have r0 := rolA_0 (s := ups s 11 (s 11 + nI 1)) (fun m hm => by
      rw [u 2 (by omega)] at hm
      rw [rc]; exact (k2 m hm).2) _ (Nat.le_refl _)
    have eS : minS s = ups s 11 (s 11 + nI 1) := by
      unfold minS
      rw [e3, if_pos h12]
      unfold rolS
      rw [r0.1, cm]; rfl
    refine ⟨⟨?_, ?_, ?_⟩, ?_, ?_⟩
    · rw [eS]; exact h12
    · rw [eS]
      intro m hm
      rw [u 2 (by omega)] at hm
      rw [d, rc]; exact k2 m hm
    · rw [eS]; exact cm
    · unfold minN
      rw [e3, if_pos h12]
      exact r0.2
    · rw [eS]; exact u 2 (by omega)
theorem Stk.ever (hm2 : nn (s 2) ≤ 12) (K : Stk s) : ∀ n, (itS n s 12 = nI 3 ∨ (Stk (itS n s) ∧ (itS n s) 2 = s 2)) ∧ minN (itS n s) = 0 := by
  have key : ∀ u : RW, u 2 = s 2 → Stk u → minN u = 0 := fun u e k => by
    rcases k.next (by rw [e]; exact hm2) with z | z
    · exact z.2
    · exact z.2.1
  have key3 : ∀ u : RW, u 12 = nI 3 → minS u 12 = nI 3 ∧ minN u = 0 := fun u e => by
    have g : going u = false := by unfold going; rw [e]; decide
    have := idle g
    exact ⟨this.1.trans e, this.2⟩
  intro n
  induction n with
  | zero => exact ⟨Or.inr ⟨K, rfl⟩, key s rfl K⟩
  | succ n ih =>
    rcases ih.1 with z | ⟨z, e⟩
    · have h1 := key3 _ z
      have h2 : itS (n + 1) s 12 = nI 3 := h1.1
      exact ⟨Or.inl h2, (key3 _ h2).2⟩
    · rcases z.next (by rw [e]; exact hm2) with y | y
      · have h2 : itS (n + 1) s 12 = nI 3 := y.1
        exact ⟨Or.inl h2, (key3 _ h2).2⟩
      · have h2 : Stk (itS (n + 1) s) := y.1
        have h3 : itS (n + 1) s 2 = s 2 := y.2.2.trans e
        exact ⟨Or.inr ⟨h2, h3⟩, key _ h3 h2⟩
theorem Stk.of (h12 : minS s 12 = nI 1) (h0 : minN s = 0) (hd : ∀ m, m < nn ((minS s) 2) → isD (minS s) m = false) : Stk (minS s) := by
  have e12 : min3 s 12 = nI 1 := by
    apply Classical.byContradiction
    intro c
    unfold minS at h12
    rw [if_neg c] at h12
    exact c h12
  have e1 : minS s = rolS (min3 s) := by unfold minS; rw [if_pos e12]
  have e0 : rolN (nn ((min3 s) 2)) (min3 s) = 0 := by
    unfold minN at h0
    rw [if_pos e12] at h0; exact h0
  have r := rolN_0 _ e0
  have cm : cmpl (min3 s) = false := by
    cases c : cmpl (min3 s)
    · rfl
    · rw [e1] at h12
      unfold rolS at h12
      rw [r.1, c, if_pos rfl] at h12
      unfold soakS at h12
      rw [evS_lo (by omega) (by omega), ups_n (by omega), ups_s] at h12
      exact absurd h12 (by decide)
  have e3 : minS s = min3 s := by
    rw [e1]
    unfold rolS
    rw [r.1, cm]; rfl
  rw [e3] at h12 hd ⊢
  exact ⟨h12, fun m hm => ⟨hd m hm, r.2 m hm⟩, cm⟩
theorem it_add (m : Nat) : ∀ n, itS (m + n) s = itS n (itS m s)
  | 0 => rfl
  | n + 1 => by
    show minS (itS (m + n) s) = minS (itS n (itS m s))
    rw [it_add m n]
/-! to the end -/
/-- the first minute, of n, at which the plan is done, one more; 0: none -/
def endF (s : RW) (n : Nat) : Nat := fst1 (n + 1) (fun k => decide (itS k s 12 = nI 4))
def stkB (s : RW) (b : Nat) : Bool := decide (s 12 = nI 1) && (decide (b = 0) && !anyN (nn (s 2)) (isD s))
theorem c_isStuck {b : Nat} (ha : a = 60 ∨ a = 67) (R : Rk C E s) (X : CR a s h) (hb : b < 100) (K : kk (b2i (stkB s b)) h) : MetPM m_X8_isStuck [.ref a, .int (nI b)] h (rI q kk) := by
  have hm2 := R.m.2
  refine t_X8_isStuck ha ?_
  rw [show gi h a 9 = s 12 from X.2.st, show gi h a 7 = _ from X.2.ds, mk_z (by omega), ← nI_0, nI_eq (by omega) (by omega)]
  unfold stkB at K
  refine ⟨fun c => ⟨isB_0, ?_⟩, fun c => ⟨fun d => ⟨isB_0, ?_⟩, fun d => ⟨fun e => ⟨isB_0, ?_⟩, fun e => ⟨isB_1, ?_⟩⟩⟩⟩
  · rw [decide_eq_false c] at K; exact K
  · rw [decide_eq_true c, decide_eq_false d] at K; exact K
  · have : anyN (nn (s 2)) (isD s) = true := by
      cases z : anyN (nn (s 2)) (isD s)
      · exact absurd z e
      · rfl
    rw [decide_eq_true c, decide_eq_true d, this] at K; exact K
  · rw [decide_eq_true c, decide_eq_true d, e] at K; exact K
theorem minN_le (R : Rk C E s) (hC : C < 2 ^ 29) (hE : E + 30 < 2 ^ 31) : minN s ≤ 12 := by
  have R3 := R.min3 hC (by omega)
  unfold minN
  split
  · have := rolN_le (s := min3 s) (nn ((min3 s) 2))
    have := R3.m.2
    omega
  · omega
theorem stk_of (e : stkB (minS s) (minN s) = true) : Stk (minS s) := by
  unfold stkB at e
  rw [Bool.and_eq_true, Bool.and_eq_true, decide_eq_true_eq, decide_eq_true_eq, Bool.not_eq_true', anyN_f] at e
  exact Stk.of e.1 e.2.1 e.2.2
theorem endF_0 {n i : Nat} (h1 : ∀ j, j < i → ¬ itS j s 12 = nI 4) (h2 : ∀ k, ¬ itS (i + k) s 12 = nI 4) : endF s n = 0 := fst1_no (fun j _ => decide_eq_false (by
  rcases Nat.lt_or_ge j i with q1 | q1
  · exact h1 j q1
  · have := h2 (j - i)
    rw [show i + (j - i) = j by omega] at this
    exact this))
theorem l_toDone {h0 : PH} {n : Nat} (ha : a = 60 ∨ a = 67) (R : Rk C E s) (hn : n ≤ 2000) (hC : C + n + 1 < 2 ^ 29) (hE : E + 30 * n + 30 < 2 ^ 31) (K : ∀ h', Fr (WS a) h0 h' → kk (pre1 (endF s n)) h') : ∀ k i h x2, i + k = n + 1 → (∀ j, j < i → ¬ itS j s 12 = nI 4) → Fr (WS a) h0 h → CR a (itS i s) h → At m_X8_minutesToDone (rI q kk) 4 0 [some (.ref a), some (.int (nI n)), some (.int x2), some (.int (nI i))] [] h := by
  intro k
  induction k with
  | zero =>
    intro i h x2 hi hj F X
    refine u_X8_minutesToDone_4 ha (pk_lt n i (fun _ => ?_) (fun z => absurd z (by omega)))
    have : endF s n = 0 := fst1_no (fun j h1 => decide_eq_false (hj j (by omega)))
    have K := K h F
    rw [this] at K; exact K
  | succ k ih =>
    intro i h x2 hi hj F X
    have Ri := R.it i (by omega) (by omega)
    refine u_X8_minutesToDone_4 ha (pk_lt n i (fun z => absurd z (by omega)) (fun _ => ?_))
    rw [show gi h a 9 = _ from X.2.st]
    refine ⟨fun c => c_isActive ha X.2 ?_, fun c => ?_⟩
    · refine bp (fun e => ?_) (fun e => ?_)
      · have gn := going_n e
        have : endF s n = 0 := endF_0 hj (fun k => by
          rw [it_add, (gn k).1]; exact c)
        have K := K h F
        rw [this] at K; exact K
      · refine c_passMinute ha Ri (by omega) (by omega) X (fun h1 f1 X1 => ?_)
        have Ri1 := R.it (i + 1) (by omega) (by omega)
        refine c_isStuck ha Ri1 X1 (by have := minN_le Ri (by omega) (by omega); omega) ?_
        refine bq (fun e2 => ?_) (fun e2 => ?_)
        · rw [nI_add]
          refine ih (i + 1) h1 _ (by omega) (fun j h2 => ?_) (F.trans f1) X1
          rcases Nat.lt_or_ge j i with q1 | q1
          · exact hj j q1
          · have : j = i := by omega
            subst this; exact c
        · have st := (stk_of e2).ever (show nn ((itS (i + 1) s) 2) ≤ 12 from Ri1.m.2)
          have : endF s n = 0 := endF_0 (i := i + 1) (fun j h2 => by
            rcases Nat.lt_or_ge j i with q1 | q1
            · exact hj j q1
            · have : j = i := by omega
              subst this; exact c) (fun k => by
            rw [it_add]
            intro z
            rcases (st k).1 with y | y
            · rw [show itS k (itS (i + 1) s) 12 = nI 3 from y] at z; exact absurd z (by decide)
            · rw [show itS k (itS (i + 1) s) 12 = nI 1 from y.1.1] at z; exact absurd z (by decide))
          have K := K h1 (F.trans f1)
          rw [this] at K; exact K
    · have : endF s n = i + 1 := fst1_yes (decide_eq_true c) (fun j h1 => decide_eq_false (hj j h1)) (by omega)
      have K := K h F
      rw [this] at K; exact K
theorem c_toDone {n : Nat} (ha : a = 60 ∨ a = 67) (R : Rk C E s) (hn : n ≤ 2000) (hC : C + n + 1 < 2 ^ 29) (hE : E + 30 * n + 30 < 2 ^ 31) (X : CR a s h) (K : ∀ h', Fr (WS a) h h' → kk (pre1 (endF s n)) h') : MetPM m_X8_minutesToDone [.ref a, .int (nI n)] h (rI q kk) := t_X8_minutesToDone ha (l_toDone ha R hn hC hE K _ 0 h _ (Nat.zero_add _) (fun j hj => absurd hj (Nat.not_lt_zero j)) (Fr.refl _ _) X)
/-! changes that will begin -/
def chN (s : RW) : Nat → Nat
  | 0 => 0
  | n + 1 => chN s n + minN (itS n s)
theorem chN_0 {i : Nat} (h : ∀ k, minN (itS (i + k) s) = 0) : ∀ k, chN s (i + k) = chN s i
  | 0 => rfl
  | k + 1 => by
    show chN s (i + k) + minN (itS (i + k) s) = chN s i
    rw [h k, chN_0 h k]; rfl
end

