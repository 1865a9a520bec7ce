/-! ===== the class's questions, 2 ===== -/
section
variable {q : Nat → PH → Prop} {kk : Int32 → PH → Prop} {h : PH} {s : RW} {C E : Nat} {a : Nat}
theorem cN_lt (R : Rk C E s) {m : Nat} (hm : m < nn (s 2)) : com s m = nI (cN s m) ∧ cN s m < 8 ∧ cN s m < nn (s 0) := by
  have h1 := R.co hm
  have h2 := R.v.2
  exact ⟨h1.1.1, by omega, h1.2⟩
theorem vN_lt (R : Rk C E s) {m : Nat} (hm : m < nn (s 2)) : mf s m 1 = nI (vN s m) ∧ vN s m < 8 ∧ vN s m < nn (s 0) := by
  have h1 := R.ve m hm
  have h2 := R.v.2
  exact ⟨h1.1.1, by omega, h1.2⟩
/-- the loops over members: the head's test -/
theorem nm_le {i : Nat} {A B : Prop} (R : Rk C E s) (Y : LyR 15 s h.1) (f : i = nn (s 2) → A) (g : i < nn (s 2) → B) (hi : i ≤ nn (s 2)) : ((gi h 26 1) ≤ nI i → A) ∧ (¬ (gi h 26 1) ≤ nI i → B) := by
  have hm2 := R.m.2
  rw [show gi h 26 1 = s 2 from Y.nm, R.m.1]
  exact pk_le (nn (s 2)) i (fun z => f (by omega)) (fun z => g z)
theorem ld {f : Nat → Int32} {b k : Nat} (hk : k < 2 ^ 31) (e : h.1 b = f) : gi h b (nI k).toNatClampNeg = f k := by rw [nI_clamp hk]; exact congrFun e k
theorem cl {k : Nat} (hk : k < 2 ^ 31) : (nI k).toNatClampNeg = k := nI_clamp hk
theorem l_opponents (ha : a = 60 ∨ a = 67) (R : Rk C E s) (Y : LyR 15 s h.1) (S : StR a s h.1) {m v : Nat} {x : Int32} {p1 : Int32} (hx : ∀ i, i < 32 → bt x i = tlk s v i) (K : kk (mk (nn (s 2)) (slnt s m v)) h) : ∀ k i, i + k = nn (s 2) → At m_X8_opponents (rI q kk) 23 0 [some (.ref a), some (.int p1), some (.int (nI v)), some (.int x), some (.int (mk (nn (s 2)) (fun j => par s m j && !(decide (j < i) && tlk s v (cN s j))))), some (.int (nI i))] [] h := by
  have hm2 := R.m.2
  intro k
  induction k with
  | zero =>
    intro i hi
    refine u_X8_opponents_23 ha (nm_le R Y (fun z => ?_) (fun z => absurd z (by omega)) (by omega))
    have e : mk (nn (s 2)) (fun j => par s m j && !(decide (j < i) && tlk s v (cN s j))) = mk (nn (s 2)) (slnt s m v) := mk_eq fun j hj => by
      rw [decide_eq_true (show j < i by omega), Bool.true_and]; rfl
    rw [e]; exact K
  | succ k ih =>
    intro i hi
    refine u_X8_opponents_23 ha (nm_le R Y (fun z => absurd z (by omega)) (fun z => ⟨vp_in_nI (by omega) (by omega), ?_⟩) (by omega))
    have hc := cN_lt R z
    rw [cl (by omega), show gi h (a + 2) i = com s i from S.co i z, hc.1]
    refine c_isIn (by omega) ?_
    rw [hx _ (by omega), nI_add]
    have ih2 := ih (i + 1) (by omega)
    refine bq (fun e => ?_) (fun e => ?_)
    · have e2 : mk (nn (s 2)) (fun j => par s m j && !(decide (j < i) && tlk s v (cN s j))) = mk (nn (s 2)) (fun j => par s m j && !(decide (j < i + 1) && tlk s v (cN s j))) := mk_eq fun j hj => by
        by_cases q1 : j = i
        · subst q1; simp [e]
        · have : (j < i) = (j < i + 1) := by apply propext; omega
          simp only [this]
      rw [e2]; exact ih2
    · rw [mk_clr (by omega) (by omega)]
      have e2 : mk (nn (s 2)) (fun j => (par s m j && !(decide (j < i) && tlk s v (cN s j))) && !decide (j = i)) = mk (nn (s 2)) (fun j => par s m j && !(decide (j < i + 1) && tlk s v (cN s j))) := mk_eq fun j hj => by
        by_cases q1 : j = i
        · subst q1; simp [e]
        · have : (j < i) = (j < i + 1) := by apply propext; omega
          simp [this, q1]
      rw [e2]; exact ih2
theorem c_opponents (ha : a = 60 ∨ a = 67) (R : Rk C E s) (Y : LyR 15 s h.1) (S : StR a s h.1) {m v : Nat} (hm : m < nn (s 2)) (hv : v < nn (s 0)) (K : kk (mk (nn (s 2)) (slnt s m v)) h) : MetPM m_X8_opponents [.ref a, .int (nI m), .int (nI v)] h (rI q kk) := by
  have hm2 := R.m.2
  refine t_X8_opponents ha (c_talkersOf (Or.inl rfl) R Y hv (fun x hx => ⟨vp_in_nI (by omega) (by omega), ?_⟩))
  rw [cl (by omega), show gi h 29 m = mk (nn (s 2)) (par s m) from Y.pa m hm]
  have e : mk (nn (s 2)) (par s m) = mk (nn (s 2)) (fun j => par s m j && !(decide (j < 0) && tlk s v (cN s j))) := mk_eq fun j _ => by simp
  rw [e]
  exact l_opponents ha R Y S hx K _ 0 (Nat.zero_add _)
theorem l_whyNotBegin (ha : a = 60 ∨ a = 67) (R : Rk C E s) (Y : LyR 15 s h.1) (S : StR a s h.1) {m v : Nat} {x : Int32} (hm : m < nn (s 2)) (hv : v < nn (s 0)) (K : kk (nI (if farM s m v = true then 6 else if anyN (nn (s 2)) (slnt s m v) = true then 7 else 0)) h) :
    ∀ k i, i + k = nn (s 2) → (∀ o, o < i → (!decide (o = m) && decide (nn (s 6) < apt v (cN s o))) = false) → At m_X8_whyNotBegin (rI q kk) 85 0 [some (.ref a), some (.int (nI m)), some (.int (nI v)), some (.int x), some (.int (nI i))] [] h := by
  have hm2 := R.m.2
  have hv8 := R.v.2
  have hs6 := R.sk.2
  intro k
  induction k with
  | zero =>
    intro i hi hno
    refine u_X8_whyNotBegin_85 ha (nm_le R Y (fun z => ?_) (fun z => absurd z (by omega)) (by omega))
    have e : farM s m v = false := anyN_f.mpr fun o ho => hno o (by omega)
    rw [e, if_neg (by decide)] at K
    refine c_opponents ha R Y S hm hv ⟨fun e1 => ?_, fun e1 => ?_⟩
    · rw [mk_z (by omega)] at e1
      have e7 : anyN (nn (s 2)) (slnt s m v) = true := by
        cases q9 : anyN (nn (s 2)) (slnt s m v)
        · exact absurd q9 e1
        · rfl
      rw [if_pos e7] at K; exact K
    · rw [mk_z (by omega)] at e1
      rw [e1, if_neg (by decide)] at K; exact K
  | succ k ih =>
    intro i hi hno
    refine u_X8_whyNotBegin_85 ha (nm_le R Y (fun z => absurd z (by omega)) (fun z => ?_) (by omega))
    refine pk_eq i m (fun e1 => ?_) (fun e1 => ⟨vp_in_nI (by omega) (by omega), ?_⟩)
    · refine u_X8_whyNotBegin_131 ha ?_
      rw [nI_add]
      refine ih (i + 1) (by omega) (fun o ho => ?_)
      rcases Nat.lt_or_ge o i with q1 | q1
      · exact hno o q1
      · have : o = m := by omega
        simp [this]
    · have hc := cN_lt R z
      have e0 : (if 0 ≤ ((gi h (a + 2) (nI i).toNatClampNeg) - nI v) then ((gi h (a + 2) (nI i).toNatClampNeg) - nI v) else 0 - ((gi h (a + 2) (nI i).toNatClampNeg) - nI v)) = nI (apt v (cN s i)) := by
        rw [cl (by omega), show gi h (a + 2) i = com s i from S.co i z, hc.1]
        exact abs_apt (by omega) (by omega)
      intro y3
      have e1' : y3 = nI (apt v (cN s i)) := e0
      rw [e1', show gi h 15 13 = s 6 from Y.sk, R.sk.1]
      have h10 : apt v (cN s i) < 200 := by unfold apt; split <;> omega
      refine pk_le (apt v (cN s i)) (nn (s 6)) (fun e2 => ?_) (fun e2 => ?_)
      · refine u_X8_whyNotBegin_131 ha ?_
        rw [nI_add]
        refine ih (i + 1) (by omega) (fun o ho => ?_)
        rcases Nat.lt_or_ge o i with q1 | q1
        · exact hno o q1
        · have : o = i := by omega
          subst this
          simp [Nat.not_lt.mpr e2]
      · have e : farM s m v = true := anyN_iff.mpr ⟨i, z, by simp [e1, e2]⟩
        rw [if_pos e] at K; exact K
theorem c_whyNotBegin (ha : a = 60 ∨ a = 67) (R : Rk C E s) (Y : LyR 15 s h.1) (S : StR a s h.1) {m v : Nat} (hm : m < nn (s 2)) (hv : v < nn (s 0)) (K : kk (nI (whyN s m v)) h) : MetPM m_X8_whyNotBegin [.ref a, .int (nI m), .int (nI v)] h (rI q kk) := by
  have hm2 := R.m.2
  have hv8 := R.v.2
  have hvm := vN_lt R hm
  unfold whyN at K
  refine t_X8_whyNotBegin ha ?_
  rw [show gi h a 8 = mk (nn (s 2)) (fun m => decide (mf s m 5 = nI 1)) from S.he]
  refine c_isIn (by omega) ?_
  rw [bt_mk_in (by omega) hm]
  refine bq (fun e => c_isUp ha R S hm ?_) (fun e => ?_)
  · rw [if_neg (of_decide_eq_false e)] at K
    refine bp (fun e1 => ?_) (fun e1 => ⟨vp_in_nI (by omega) (by omega), ?_⟩)
    · rw [if_pos (by simpa using e1)] at K; exact K
    · have e1 : isD s m = false := by simpa using e1
      rw [if_neg (by rw [e1]; decide)] at K
      rw [cl (by omega), show gi h (a + 1) m = mf s m 1 from S.ve m hm, hvm.1]
      have e9 := pk_eq (x := nI (vN s m)) (y := nI v) (A := kk (nI 3) h) (B := ¬ vN s m = v) (vN s m) v (fun e2 => by rw [if_pos e2] at K; exact K) (fun e2 => e2)
      refine ⟨fun e2 => ?_, e9.1⟩
      rw [if_neg (e9.2 e2)] at K
      rw [show gi h a 2 = s 5 from S.fo]
      refine c_isReader (Or.inl rfl) R Y hv (bp (fun e3 => ?_) (fun e3 => ?_))
      · rw [if_pos e3] at K; exact K
      · rw [if_neg (by rw [e3]; decide)] at K
        refine c_neighboursOf R Y hm ?_
        rw [show gi h a 7 = mk (nn (s 2)) (isD s) from S.ds, mk_and (by omega)]
        refine c_bitMk hm2 ?_
        rw [show gi h 15 14 = s 7 from Y.dn, R.dn.1]
        have h8 := cnt_le (dnIn s (mf s m 0)) (nn (s 2))
        have h9 := R.dn.2
        refine pk_lt (cnt (nn (s 2)) (dnIn s (mf s m 0))) (nn (s 7)) (fun e4 => ?_) (fun e4 => ?_)
        · rw [if_neg (by omega)] at K
          exact l_whyNotBegin ha R Y S hm hv K _ 0 (Nat.zero_add _) (fun o ho => absurd ho (Nat.not_lt_zero o))
        · rw [if_pos e4] at K; exact K
  · rw [if_pos (of_decide_eq_true e)] at K; exact K
theorem l_isReadByAll (ha : a = 60 ∨ a = 67) (R : Rk C E s) (Y : LyR 15 s h.1) (S : StR a s h.1) {f : Int32} (K : kk (b2i (allR s f)) h) : ∀ k i, i + k = nn (s 2) → (∀ j, j < i → rds s (cN s j) f = true) → At m_X8_isReadByAll (rI q kk) 11 0 [some (.ref a), some (.int f), some (.int (mk (nn (s 0)) (fun v => rds s v f))), some (.int (nI i))] [] h := by
  have hm2 := R.m.2
  have hv8 := R.v.2
  intro k
  induction k with
  | zero =>
    intro i hi hy
    refine u_X8_isReadByAll_11 ha (nm_le R Y (fun z => ⟨isB_1, ?_⟩) (fun z => absurd z (by omega)) (by omega))
    rw [show allR s f = true from allN_iff.mpr fun j hj => hy j (by omega)] at K; exact K
  | succ k ih =>
    intro i hi hy
    refine u_X8_isReadByAll_11 ha (nm_le R Y (fun z => absurd z (by omega)) (fun z => ⟨vp_in_nI (by omega) (by omega), ?_⟩) (by omega))
    have hc := cN_lt R z
    rw [cl (by omega), show gi h (a + 2) i = com s i from S.co i z, hc.1]
    refine c_isIn (by omega) ?_
    rw [bt_mk_in (by omega) hc.2.2, nI_add]
    refine bp (fun e => ⟨isB_0, ?_⟩) (fun e => ih (i + 1) (by omega) (fun j hj => ?_))
    · have e2 : allR s f = false := by
        cases q9 : allR s f
        · rfl
        · have := allN_iff.mp q9 i z
          rw [e] at this; cases this
      rw [e2] at K; exact K
    · rcases Nat.lt_or_ge j i with q1 | q1
      · exact hy j q1
      · have : j = i := by omega
        subst this; exact e
theorem c_isReadByAll (ha : a = 60 ∨ a = 67) (R : Rk C E s) (Y : LyR 15 s h.1) (S : StR a s h.1) {f : Int32} (K : kk (b2i (allR s f)) h) : MetPM m_X8_isReadByAll [.ref a, .int f] h (rI q kk) :=
  t_X8_isReadByAll ha (c_readersOf R Y (l_isReadByAll ha R Y S K _ 0 (Nat.zero_add _) (fun j hj => absurd hj (Nat.not_lt_zero j))))
theorem c_whyNotFormat (ha : a = 60 ∨ a = 67) (R : Rk C E s) (Y : LyR 15 s h.1) (S : StR a s h.1) {f : Int32} (K : kk (nI (whyF s f)) h) : MetPM m_X8_whyNotFormat [.ref a, .int f] h (rI q kk) := by
  refine t_X8_whyNotFormat ha ?_
  rw [show gi h a 2 = s 5 from S.fo]
  unfold whyF at K
  refine cq (fun e => c_isReadByAll ha R Y S (bq (fun e2 => ?_) (fun e2 => ?_))) (fun e => ?_)
  · rw [if_pos e, if_neg (by rw [e2]; decide)] at K; exact K
  · rw [if_pos e, if_pos e2] at K; exact K
  · rw [if_neg e] at K; exact K
theorem c_isActive (ha : a = 60 ∨ a = 67) (S : StR a s h.1) (K : kk (b2i (going s)) h) : MetPM m_X8_isActive [.ref a] h (rI q kk) := by
  refine t_X8_isActive ha ?_
  rw [show gi h a 9 = s 12 from S.st]
  refine cq (fun e => ⟨isB_1, ?_⟩) (fun e => ⟨fun e2 => ⟨isB_0, ?_⟩, fun e2 => ⟨isB_1, ?_⟩⟩)
  · rw [show going s = true by simp [going, e]] at K; exact K
  · rw [show going s = false by simp [going, e, e2]] at K; exact K
  · rw [show going s = true by simp [going, e2]] at K; exact K
theorem c_isUnderWay (ha : a = 60 ∨ a = 67) (S : StR a s h.1) (K : kk (b2i (hasP s)) h) : MetPM m_X8_isUnderWay [.ref a] h (rI q kk) := by
  refine t_X8_isUnderWay ha ?_
  rw [show gi h a 9 = s 12 from S.st]
  refine cq (fun e => ⟨isB_0, ?_⟩) (fun e => cq (fun e2 => ⟨isB_0, ?_⟩) (fun e2 => ⟨isB_1, ?_⟩))
  · rw [show hasP s = false by simp [hasP, e]] at K; exact K
  · rw [show hasP s = false by simp [hasP, e2]] at K; exact K
  · rw [show hasP s = true by simp [hasP, e, e2]] at K; exact K
theorem l_reachedOf (ha : a = 60 ∨ a = 67) (R : Rk C E s) (Y : LyR 15 s h.1) (S : StR a s h.1) (hp : hasP s = true) {p : Nat → Bool} {x : Int32} (K : kk (mk (nn (s 2)) (fun j => p j && rdy s j)) h) :
    ∀ k i, i + k = nn (s 2) → At m_X8_reachedOf (rI q kk) 11 0 [some (.ref a), some (.int x), some (.int (mk (nn (s 2)) (fun j => (p j && !isD s j) && (!decide (j < i) || rdy s j)))), some (.int (nI i))] [] h := by
  have hm2 := R.m.2
  have hpl := S.pl hp
  have hse := R.se hp
  have h7 := hse.1.2
  intro k
  induction k with
  | zero =>
    intro i hi
    refine u_X8_reachedOf_11 ha (nm_le R Y (fun z => ?_) (fun z => absurd z (by omega)) (by omega))
    have e : mk (nn (s 2)) (fun j => (p j && !isD s j) && (!decide (j < i) || rdy s j)) = mk (nn (s 2)) (fun j => p j && rdy s j) := mk_eq fun j hj => by
      rw [decide_eq_true (show j < i by omega)]
      cases p j <;> cases q9 : isD s j <;> simp [rdy, q9]
    rw [e]; exact K
  | succ k ih =>
    intro i hi
    refine u_X8_reachedOf_11 ha (nm_le R Y (fun z => absurd z (by omega)) (fun z => ?_) (by omega))
    have hvm := vN_lt R z
    have ih2 := ih (i + 1) (by omega)
    rw [cl (by omega), show gi h (a + 1) i = mf s i 1 from S.ve i z, hvm.1, show gi h a 11 = s 14 from hpl.2.1, show gi h a 12 = s 17 from hpl.2.2.1, hse.1.1, nI_add]
    have yes : (isD s i = false → rdy s i = true) → At m_X8_reachedOf (rI q kk) 11 0 [some (.ref a), some (.int x), some (.int (mk (nn (s 2)) (fun j => (p j && !isD s j) && (!decide (j < i) || rdy s j)))), some (.int (nI (i + 1)))] [] h := fun hy => by
      have e : mk (nn (s 2)) (fun j => (p j && !isD s j) && (!decide (j < i) || rdy s j)) = mk (nn (s 2)) (fun j => (p j && !isD s j) && (!decide (j < i + 1) || rdy s j)) := mk_eq fun j hj => by
        by_cases q1 : j = i
        · subst q1
          cases q9 : isD s j
          · simp [hy q9]
          · simp
        · have : (j < i) = (j < i + 1) := by apply propext; omega
          simp only [this]
      rw [e]; exact ih2
    have no : rdy s i = false → At m_X8_reachedOf (rI q kk) 11 0 [some (.ref a), some (.int x), some (.int (mk (nn (s 2)) (fun j => (p j && !isD s j) && (!decide (j < i) || rdy s j)) &&& (((nI 1) <<< (nI i &&& 31)) ^^^ (-(nI 1))))), some (.int (nI (i + 1)))] [] h := fun hy => by
      rw [mk_clr (by omega) (by omega)]
      have e : mk (nn (s 2)) (fun j => ((p j && !isD s j) && (!decide (j < i) || rdy s j)) && !decide (j = i)) = mk (nn (s 2)) (fun j => (p j && !isD s j) && (!decide (j < i + 1) || rdy s j)) := mk_eq fun j hj => by
        by_cases q1 : j = i
        · subst q1; simp [hy]
        · have : (j < i) = (j < i + 1) := by apply propext; omega
          simp [this, q1]
      rw [e]; exact ih2
    rcases R.dr hp with ⟨e17, -⟩ | ⟨e17, -⟩
    · rw [e17]
      refine br_f (by decide) ⟨vp_in_nI (by omega) (by omega), pk_le _ _ (fun e => yes (fun q9 => ?_)) (fun e => no ?_)⟩
      · simp [rdy, q9, e17, e]
      · simp [rdy, e17, Nat.not_le.mpr e]
    · rw [e17]
      have e18 : ¬ ((0 : Int32) = nI 1) := by decide
      refine br_t rfl ⟨vp_in_nI (by omega) (by omega), pk_le _ _ (fun e => yes (fun q9 => ?_)) (fun e => no ?_)⟩
      · simp [rdy, q9, e17, e18, e]
      · simp [rdy, e17, e18, Nat.not_le.mpr e]
theorem c_reachedOf (ha : a = 60 ∨ a = 67) (R : Rk C E s) (Y : LyR 15 s h.1) (S : StR a s h.1) (hp : hasP s = true) {p : Nat → Bool} (K : kk (mk (nn (s 2)) (fun j => p j && rdy s j)) h) : MetPM m_X8_reachedOf [.ref a, .int (mk (nn (s 2)) p)] h (rI q kk) := by
  have hm2 := R.m.2
  refine t_X8_reachedOf ha ?_
  rw [show gi h a 7 = mk (nn (s 2)) (isD s) from S.ds, mk_dif (by omega)]
  have e : mk (nn (s 2)) (fun i => p i && !isD s i) = mk (nn (s 2)) (fun j => (p j && !isD s j) && (!decide (j < 0) || rdy s j)) := mk_eq fun j _ => by simp
  rw [e]
  exact l_reachedOf ha R Y S hp K _ 0 (Nat.zero_add _)
theorem l_plannedMembers (R : Rk C E s) (Y : LyR 15 s h.1) (K : kk (mk (nn (s 2)) (plnd s)) h) : ∀ k i, i + k = nn (s 3) → At m_X5_plannedMembers (rI q kk) 4 0 [some (.ref 15), some (.int (mk (nn (s 2)) (fun j => anyN i (fun w => ofW s j (nI w))))), some (.int (nI i))] [] h := by
  have hm2 := R.m.2
  have hw5 := R.w.2
  intro k
  induction k with
  | zero =>
    intro i hi
    refine u_X5_plannedMembers_4 ?_
    rw [show gi h 15 12 = s 3 from Y.wa, R.w.1]
    refine pk_le (nn (s 3)) i (fun _ => ?_) (fun z => absurd z (by omega))
    have e : mk (nn (s 2)) (fun j => anyN i (fun w => ofW s j (nI w))) = mk (nn (s 2)) (plnd s) := mk_eq fun j hj => by
      have hp := R.pl j hj
      rcases R.wv (pN s j) hp.2 with e1 | ⟨e1, e2⟩
      · have e3 : plnd s j = false := by simp [plnd, wvOf, e1]
        rw [e3]
        refine anyN_f.mpr fun w hw => ?_
        simp only [ofW, wvOf, e1]
        refine decide_eq_false ?_
        intro z
        exact (isN_nI (n := w) (b := 5) (by omega) (by omega)).nm1 z.symm
      · have e3 : plnd s j = true := by simp [plnd, wvOf, e1.nm1]
        rw [e3]
        refine anyN_iff.mpr ⟨nn (s (44 + pN s j)), by omega, ?_⟩
        simp only [ofW, wvOf]
        exact decide_eq_true e1.1
    rw [e]; exact K
  | succ k ih =>
    intro i hi
    refine u_X5_plannedMembers_4 ?_
    rw [show gi h 15 12 = s 3 from Y.wa, R.w.1]
    refine pk_le (nn (s 3)) i (fun z => absurd z (by omega)) (fun _ => ⟨vp_in_nI (by omega) (by omega), ?_⟩)
    rw [cl (by omega), show gi h 25 i = mk (nn (s 2)) (fun m => ofW s m (nI i)) from Y.ws i (by omega), mk_or (by omega), nI_add]
    exact ih (i + 1) (by omega)
theorem c_plannedMembers (R : Rk C E s) (Y : LyR 15 s h.1) (K : kk (mk (nn (s 2)) (plnd s)) h) : MetPM m_X5_plannedMembers [.ref 15] h (rI q kk) := by
  refine t_X5_plannedMembers ?_
  have e := l_plannedMembers (q := q) R Y K _ 0 (Nat.zero_add _)
  rw [mk_0 (p := fun j => anyN 0 (fun w => ofW s j (nI w))) (fun j _ => rfl)] at e
  exact e
theorem c_measuredSet (ha : a = 60 ∨ a = 67) (R : Rk C E s) (Y : LyR 15 s h.1) (S : StR a s h.1) (hp : hasP s = true) (K : kk (mk (nn (s 2)) (mesd s)) h) : MetPM m_X8_measuredSet [.ref a] h (rI q kk) :=
  t_X8_measuredSet ha (c_plannedMembers R Y (c_reachedOf ha R Y S hp K))
theorem l_sumOfMeasures (ha : a = 60 ∨ a = 67) (R : Rk C E s) (Y : LyR 15 s h.1) (S : StR a s h.1) {p : Nat → Bool} (K : kk (sumI (nn (s 2)) p (fun m => mf s m 4)) h) : ∀ k i, i + k = nn (s 2) → At m_X8_sumOfMeasures (rI q kk) 4 0 [some (.ref a), some (.int (mk (nn (s 2)) p)), some (.int (sumI i p (fun m => mf s m 4))), some (.int (nI i))] [] h := by
  have hm2 := R.m.2
  intro k
  induction k with
  | zero =>
    intro i hi
    refine u_X8_sumOfMeasures_4 ha (nm_le R Y (fun z => ?_) (fun z => absurd z (by omega)) (by omega))
    rw [z]; exact K
  | succ k ih =>
    intro i hi
    refine u_X8_sumOfMeasures_4 ha (nm_le R Y (fun z => absurd z (by omega)) (fun z => ?_) (by omega))
    have ih2 := ih (i + 1) (by omega)
    unfold sumI at ih2
    refine c_isIn (by omega) ?_
    rw [bt_mk_in (by omega) z, nI_add]
    refine bq (fun e => ?_) (fun e => ⟨vp_in_nI (by omega) (by omega), ?_⟩)
    · rw [e] at ih2
      rw [show nI 0 = (0 : Int32) from rfl, Int32.add_zero]; exact ih2
    · rw [e] at ih2
      rw [cl (by omega), show gi h (a + 4) i = mf s i 4 from S.me i z]; exact ih2
theorem c_sumOfMeasures (ha : a = 60 ∨ a = 67) (R : Rk C E s) (Y : LyR 15 s h.1) (S : StR a s h.1) {p : Nat → Bool} (K : kk (sumI (nn (s 2)) p (fun m => mf s m 4)) h) : MetPM m_X8_sumOfMeasures [.ref a, .int (mk (nn (s 2)) p)] h (rI q kk) := t_X8_sumOfMeasures ha (l_sumOfMeasures ha R Y S K _ 0 (Nat.zero_add _))
theorem c_isOverLimit (ha : a = 60 ∨ a = 67) (R : Rk C E s) (Y : LyR 15 s h.1) (S : StR a s h.1) (hp : hasP s = true) (K : kk (b2i (over s)) h) : MetPM m_X8_isOverLimit [.ref a] h (rI q kk) := by
  refine t_X8_isOverLimit ha (c_measuredSet ha R Y S hp (c_sumOfMeasures ha R Y S (c_bitMk R.m.2 ?_)))
  rw [show gi h 15 17 = s 10 from Y.lm]
  refine cq (fun e => ⟨isB_0, ?_⟩) (fun e => ⟨isB_1, ?_⟩)
  · rw [show over s = false by simp only [over]; rw [decide_eq_true (show mSum s ≤ s 10 * nI (mCnt s) from e)]; rfl] at K; exact K
  · rw [show over s = true by simp only [over]; rw [decide_eq_false (show ¬ mSum s ≤ s 10 * nI (mCnt s) from e)]; rfl] at K; exact K
theorem c_laggards (ha : a = 60 ∨ a = 67) (R : Rk C E s) (Y : LyR 15 s h.1) (S : StR a s h.1) (K : kk (mk (nn (s 2)) (lagM s)) h) : MetPM m_X8_laggards [.ref a] h (rI q kk) := by
  have hm2 := R.m.2
  have hw5 := R.w.2
  refine t_X8_laggards ha (c_isUnderWay ha S (bq (fun e => ?_) (fun e => ?_)))
  · rw [mk_0 (p := lagM s) (fun j _ => by simp [lagM, e])] at K; exact K
  · have htu := R.tu e
    have hpl := S.pl e
    rw [show gi h a 13 = s 15 from hpl.2.2.2, show gi h 15 12 = s 3 from Y.wa, R.w.1]
    have h5 := htu.1.2
    have e15 := htu.1.1
    rw [e15]
    refine br_f (nI_pos (by omega)) (br_t (nI_lt htu.2 (by omega)) ⟨vp_in_nI (by omega) (by omega), ?_⟩)
    rw [cl (by omega), show gi h 25 (nn (s 15)) = mk (nn (s 2)) (fun m => ofW s m (nI (nn (s 15)))) from Y.ws _ htu.2, ← e15]
    refine c_reachedOf ha R Y S e ?_
    rw [mk_dif (by omega)]
    have e2 : mk (nn (s 2)) (fun i => ofW s i (s 15) && !(ofW s i (s 15) && rdy s i)) = mk (nn (s 2)) (lagM s) := mk_eq fun j _ => by
      simp only [lagM, e]
      cases ofW s j (s 15) <;> simp
    rw [e2]; exact K
end

