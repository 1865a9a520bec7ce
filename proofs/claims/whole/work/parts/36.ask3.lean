/-! ===== ways, mixed pairs, the highest format: both sides ===== -/
section
variable {q : Nat → PH → Prop} {kk : Int32 → PH → Prop} {kv : PH → Prop} {h : PH} {s : RW} {C E : Nat} {a : Nat}
theorem s_wayOf {x y : Int32} (R : Rk C E s) (hs : h.1 132 = s) (K0 : (inV s x && inV s y) = false → kk (nI 0) (si h 130 0 (nI 1))) (K1 : (inV s x && inV s y) = true → ∀ h', Fr WF (si h 130 0 (nI 0)) h' → kk (pre1 (wayN s (nn x) (nn y))) h') : MetPM m_X12_wayOf [.ref 130, .int x, .int y] h (rI q kk) := by
  have hv8 := R.v.2
  refine t_X12_wayOf (s_isV R hs (bq (fun e => ?_) (fun e => s_isV R hs (bq (fun e2 => ?_) (fun e2 => ?_)))))
  · exact s_gate (b := false) (fun _ => g0 (K0 (by rw [e]; rfl))) (fun z => by cases z)
  · exact s_gate (b := false) (fun _ => g0 (K0 (by rw [e, e2]; rfl))) (fun z => by cases z)
  · refine s_gate (b := true) (fun z => by cases z) (fun _ => g1 ?_)
    have K := K1 (by rw [e, e2]; rfl)
    obtain ⟨e1, e5⟩ := inV_t R e
    obtain ⟨e3, e4⟩ := inV_t R e2
    generalize nn x = j at K e1 e5
    generalize nn y = k at K e3 e4
    subst e1 e3
    refine s_laysWays R (hs0 hs) e4 (fun h' a1 a2 a3 => ⟨vp_in_nI (by omega) (by omega), ?_⟩)
    rw [cl (by omega), a3 j e5]
    exact K h' a1
theorem l_next {x y : Nat} (R : Rk C E s) (hs : h.1 132 = s) (hx : x < nn (s 0)) (hF : ∀ v, v < nn (s 0) → gi h 140 v = pre1 (wayN s v y)) (hw : ¬ wayN s x y ≤ 1) (K : kk (pre1 (nxtW s x y)) h) :
    ∀ k i, i + k = nn (s 0) → (∀ c, c < i → (folw s x c && decide (wayN s c y + 1 = wayN s x y)) = false) → At m_X12_nextOnWay (rI q kk) 48 0 [some (.ref 130), some (.int (nI x)), some (.int (nI y)), some (.int (nI i))] [] h := by
  have hv8 := R.v.2
  have hw8 := wayN_le R (x := x) (y := y)
  have hd : nxtW s x y = fst1 (nn (s 0)) (fun c => folw s x c && decide (wayN s c y + 1 = wayN s x y)) := by
    unfold nxtW; rw [if_neg hw]
  intro k
  induction k with
  | zero =>
    intro i hi hn
    refine u_X12_nextOnWay_48 ⟨rv (by omega), ?_⟩
    rw [rd hs 0 (by omega), R.v.1]
    refine pk_le (nn (s 0)) i (fun _ => ?_) (fun z => absurd z (by omega))
    have : i = nn (s 0) := by omega
    subst this
    rw [hd, fst1_no hn] at K; exact K
  | succ k ih =>
    intro i hi hn
    have next : (folw s x i && decide (wayN s i y + 1 = wayN s x y)) = false → At m_X12_nextOnWay (rI q kk) 86 0 [some (.ref 130), some (.int (nI x)), some (.int (nI y)), some (.int (nI i))] [] h := fun e => by
      refine u_X12_nextOnWay_86 ?_
      rw [nI_add]
      refine ih (i + 1) (by omega) (fun c hc => ?_)
      rcases Nat.lt_or_ge c i with q1 | q1
      · exact hn c q1
      · have : c = i := by omega
        subst this; exact e
    refine u_X12_nextOnWay_48 ⟨rv (by omega), ?_⟩
    rw [rd hs 0 (by omega), R.v.1]
    refine pk_le (nn (s 0)) i (fun z => absurd z (by omega)) (fun hlt => ?_)
    have hi8 := wayN_le R (x := i) (y := y)
    refine s_mayFollow R hs (by omega) (by omega) (bq (fun c => next (by rw [c]; rfl)) (fun c => ⟨vp_in_nI (by omega) (by omega), vp_in_nI (by omega) (by omega), ?_⟩))
    obtain ⟨w, ew⟩ : ∃ w, wayN s x y = w + 2 := ⟨wayN s x y - 2, by omega⟩
    rw [cl (by omega), cl (by omega), hF i hlt, hF x hx, ew, pre1_s, pk_sub (by omega), show w + 1 - 1 = w by omega, pre1_eq (by omega) (by omega)]
    refine ⟨fun c2 => next ?_, fun c2 => ?_⟩
    · rw [decide_eq_false (by omega), Bool.and_false]
    · rw [hd, fst1_yes (by rw [c, decide_eq_true (by omega)]; rfl) hn hlt] at K; exact K
theorem s_nextOnWay {x y : Int32} (R : Rk C E s) (hs : h.1 132 = s) (K0 : (inV s x && inV s y) = false → kk (nI 0) (si h 130 0 (nI 1))) (K1 : (inV s x && inV s y) = true → ∀ h', Fr WF (si h 130 0 (nI 0)) h' → kk (pre1 (nxtW s (nn x) (nn y))) h') : MetPM m_X12_nextOnWay [.ref 130, .int x, .int y] h (rI q kk) := by
  have hv8 := R.v.2
  refine t_X12_nextOnWay (s_isV R hs (bq (fun e => ?_) (fun e => s_isV R hs (bq (fun e2 => ?_) (fun e2 => ?_)))))
  · exact s_gate (b := false) (fun _ => g0 (K0 (by rw [e]; rfl))) (fun z => by cases z)
  · exact s_gate (b := false) (fun _ => g0 (K0 (by rw [e, e2]; rfl))) (fun z => by cases z)
  · refine s_gate (b := true) (fun z => by cases z) (fun _ => g1 ?_)
    have K := K1 (by rw [e, e2]; rfl)
    obtain ⟨e1, e5⟩ := inV_t R e
    obtain ⟨e3, e4⟩ := inV_t R e2
    generalize nn x = j at K e1 e5
    generalize nn y = k at K e3 e4
    subst e1 e3
    refine s_laysWays R (hs0 hs) e4 (fun h' a1 a2 a3 => ⟨vp_in_nI (by omega) (by omega), ?_⟩)
    rw [cl (by omega), a3 j e5]
    have hw8 := wayN_le R (x := j) (y := k)
    by_cases c : wayN s j k ≤ 1
    · have e : nxtW s j k = 0 := by unfold nxtW; rw [if_pos c]
      have K' := K h' a1
      rw [e] at K'
      have : ¬ 0 < pre1 (wayN s j k) := by
        rcases (by omega : wayN s j k = 0 ∨ wayN s j k = 1) with e | e
        · rw [e]; decide
        · rw [e]; decide
      exact br_f this K'
    · obtain ⟨w, ew⟩ : ∃ w, wayN s j k = w + 2 := ⟨wayN s j k - 2, by omega⟩
      have : 0 < pre1 (wayN s j k) := by
        rw [ew, pre1_s]
        exact nI_lt (a := 0) (by omega) (by omega)
      exact br_t this (l_next R a2 e5 a3 c (K h' a1) _ 0 (Nat.zero_add _) (fun d hd => absurd hd (Nat.not_lt_zero d)))
theorem c_wayOf {x y : Int32} (R : Rk C E s) (X : CR 60 s h) (K0 : (inV s x && inV s y) = false → q 2 h) (K1 : (inV s x && inV s y) = true → kk (pre1 (wayN s (nn x) (nn y))) h) : MetPM m_X11_wayOf [.ref 0, .int x, .int y] h (rI q kk) := by
  refine t_X11_wayOf ⟨Nat.le_of_ble_eq_true rfl, c_needVersion R X.1 (fun e => K0 (by rw [e]; rfl)) (fun e => ⟨Nat.le_of_ble_eq_true rfl, c_needVersion R X.1 (fun e5 => K0 (by rw [e, e5]; rfl)) (fun e5 => ?_)⟩)⟩
  have K := K1 (by rw [e, e5]; rfl)
  obtain ⟨e1, e2⟩ := inV_t R e
  obtain ⟨e3, e4⟩ := inV_t R e5
  generalize nn x = j at K e1 e2
  generalize nn y = k at K e3 e4
  subst e1 e3
  exact c_changesOnWay (Or.inl rfl) R X e2 e4 K
theorem c_nextOnWay {x y : Int32} (R : Rk C E s) (X : CR 60 s h) (K0 : (inV s x && inV s y) = false → q 2 h) (K1 : (inV s x && inV s y) = true → kk (pre1 (nxtW s (nn x) (nn y))) h) : MetPM m_X11_nextOnWay [.ref 0, .int x, .int y] h (rI q kk) := by
  refine t_X11_nextOnWay ⟨Nat.le_of_ble_eq_true rfl, c_needVersion R X.1 (fun e => K0 (by rw [e]; rfl)) (fun e => ⟨Nat.le_of_ble_eq_true rfl, c_needVersion R X.1 (fun e5 => K0 (by rw [e, e5]; rfl)) (fun e5 => ?_)⟩)⟩
  have K := K1 (by rw [e, e5]; rfl)
  obtain ⟨e1, e2⟩ := inV_t R e
  obtain ⟨e3, e4⟩ := inV_t R e5
  generalize nn x = j at K e1 e2
  generalize nn y = k at K e3 e4
  subst e1 e3
  exact c_firstOnWay (Or.inl rfl) R X e2 e4 K
/-! mixed pairs -/
def mixP (s : RW) (a b : Nat) : Bool := !isD s a && ((par s a b && !isD s b) && !decide (vN s a = vN s b))
def tri (P : Nat → Nat → Bool) : Nat → Nat
  | 0 => 0
  | n + 1 => tri P n + cnt n (P n)
def sqr (P : Nat → Nat → Bool) (m : Nat) : Nat → Nat
  | 0 => 0
  | n + 1 => sqr P m n + cnt m (P n)
theorem sqr_s {P : Nat → Nat → Bool} {m : Nat} : ∀ n, sqr P (m + 1) n = sqr P m n + cnt n (fun a => P a m)
  | 0 => rfl
  | n + 1 => by
    rw [sqr, sqr, cnt, cnt, sqr_s n]
    omega
theorem sqr_tri {P : Nat → Nat → Bool} : ∀ n, (∀ a b, a < n → b < n → P a b = P b a) → (∀ a, a < n → P a a = false) → sqr P n n = 2 * tri P n
  | 0, _, _ => rfl
  | n + 1, hs, hi => by
    rw [sqr, sqr_s, sqr_tri n (fun a b h1 h2 => hs a b (by omega) (by omega)) (fun a h1 => hi a (by omega)), tri, cnt, hi n (by omega), cnt_eq (p := fun a => P a n) (q := P n) (fun i hi => hs i n (by omega) (by omega))]
    show 2 * tri P n + cnt n (P n) + (cnt n (P n) + 0) = 2 * (tri P n + cnt n (P n))
    omega
theorem sqr_le {P : Nat → Nat → Bool} {m : Nat} (hm : m ≤ 12) : ∀ n, sqr P m n ≤ 12 * n
  | 0 => Nat.le_refl _
  | n + 1 => by
    have := sqr_le (P := P) hm n
    have := cnt_le (P n) m
    rw [sqr]; omega
theorem tri_le {P : Nat → Nat → Bool} : ∀ n, n ≤ 12 → tri P n ≤ 12 * n
  | 0, _ => Nat.le_refl _
  | n + 1, hn => by
    have := tri_le (P := P) n (by omega)
    have := cnt_le (P n) n
    rw [tri]; omega
def mixN (s : RW) : Nat := tri (mixP s) (nn (s 2))
theorem mix_tw (R : Rk C E s) : sqr (mixP s) (nn (s 2)) (nn (s 2)) = 2 * mixN s := sqr_tri _ (fun a b h1 h2 => by
  unfold mixP
  rw [R.sy a b h1 h2]
  have : decide (vN s a = vN s b) = decide (vN s b = vN s a) := decide_eq_decide.mpr ⟨fun z => z.symm, fun z => z.symm⟩
  rw [this]
  cases isD s a <;> cases isD s b <;> cases par s b a <;> rfl) (fun a h1 => by
  unfold mixP
  rw [decide_eq_true (p := vN s a = vN s a) rfl]
  simp)
theorem l_mixIn {i : Nat} (R : Rk C E s) (hs : h.1 132 = s) (hi : i < nn (s 2)) (K : At m_X12_mixed (rI q kk) 9 0 [some (.ref 130), some (.int (nI (tri (mixP s) (i + 1)))), some (.int (nI (i + 1))), some (.int (nI i))] [] h) :
    ∀ k j, j + k = i → At m_X12_mixed (rI q kk) 21 0 [some (.ref 130), some (.int (nI (tri (mixP s) i + cnt j (mixP s i)))), some (.int (nI i)), some (.int (nI j))] [] h := by
  have hm2 := R.m.2
  intro k
  induction k with
  | zero =>
    intro j hj
    refine u_X12_mixed_21 (pk_le i j (fun _ => ?_) (fun z => absurd z (by omega)))
    have : j = i := by omega
    subst this
    rw [nI_add]; exact K
  | succ k ih =>
    intro j hj
    refine u_X12_mixed_21 (pk_le i j (fun z => absurd z (by omega)) (fun hlt => ?_))
    have ih2 := ih (j + 1) (by omega)
    have step : ∀ b : Bool, mixP s i j = b → At m_X12_mixed (rI q kk) 21 0 [some (.ref 130), some (.int (nI (tri (mixP s) i + cnt j (mixP s i)) + b2i b)), some (.int (nI i)), some (.int (nI j + nI 1))] [] h := fun b e => by
      rw [nI_b2i, nI_add, Nat.add_assoc]
      rw [cnt, e] at ih2; exact ih2
    have vi := vN_lt R hi
    have vj := vN_lt R (m := j) (by omega)
    refine s_arePartners hs (by omega) (by omega) (bq (fun e => s_truth0 (step false ?_)) (fun e => s_isDown hs (by omega) (bp (fun e2 => s_isDown hs (by omega) (bp (fun e3 => s_of hs (by omega) (s_of hs (by omega) ?_)) (fun e3 => s_truth0 (step false ?_)))) (fun e2 => s_truth0 (step false ?_)))))
    · unfold mixP; rw [e]; simp
    · rw [vi.1, vj.1]
      refine pk_eq (vN s i) (vN s j) (fun e4 => s_truth0 (step false ?_)) (fun e4 => s_truth1 (step true ?_))
      · unfold mixP; rw [decide_eq_true e4]; simp
      · unfold mixP; rw [e, e2, e3, decide_eq_false e4]; rfl
    · unfold mixP; rw [e3]; simp
    · unfold mixP; rw [e2]; simp
theorem l_mix (R : Rk C E s) (hs : h.1 132 = s) (K : kk (nI (mixN s)) h) : ∀ k i o3, i + k = nn (s 2) → At m_X12_mixed (rI q kk) 9 0 [some (.ref 130), some (.int (nI (tri (mixP s) i))), some (.int (nI i)), o3] [] h := by
  have hm2 := R.m.2
  intro k
  induction k with
  | zero =>
    intro i o3 hi
    refine u_X12_mixed_9 ⟨rv (by omega), ?_⟩
    rw [rd hs 2 (by omega), R.m.1]
    refine pk_le (nn (s 2)) i (fun _ => ?_) (fun z => absurd z (by omega))
    have : i = nn (s 2) := by omega
    subst this; exact K
  | succ k ih =>
    intro i o3 hi
    refine u_X12_mixed_9 ⟨rv (by omega), ?_⟩
    rw [rd hs 2 (by omega), R.m.1]
    refine pk_le (nn (s 2)) i (fun z => absurd z (by omega)) (fun hlt => ?_)
    exact l_mixIn R hs hlt (ih (i + 1) _ (by omega)) _ 0 (Nat.zero_add _)
theorem s_mixed (R : Rk C E s) (hs : h.1 132 = s) (K : kk (nI (mixN s)) (si h 130 0 (nI 0))) : MetPM m_X12_mixed [.ref 130] h (rI q kk) := t_X12_mixed (l_mix R (hs0 hs) K _ 0 none (Nat.zero_add _))
theorem l_mixC (R : Rk C E s) (X : CR 60 s h) (K : kk (nI (mixN s)) h) : ∀ k i o3, i + k = nn (s 2) → At m_X8_mixedPairs (rI q kk) 4 0 [some (.ref 60), some (.int (nI (sqr (mixP s) (nn (s 2)) i))), some (.int (nI i)), o3] [] h := by
  have hm2 := R.m.2
  intro k
  induction k with
  | zero =>
    intro i o3 hi
    refine u_X8_mixedPairs_4 (Or.inl rfl) (nm_le R X.1 (fun z => ⟨by decide, ?_⟩) (fun z => absurd z (by omega)) (by omega))
    have hle := sqr_le (P := mixP s) hm2 (nn (s 2))
    rw [z, pk_div (by omega) (by omega) (by omega), mix_tw R, show 2 * mixN s / 2 = mixN s by omega]
    exact K
  | succ k ih =>
    intro i o3 hi
    refine u_X8_mixedPairs_4 (Or.inl rfl) (nm_le R X.1 (fun z => absurd z (by omega)) (fun z => ?_) (by omega))
    have ih2 := fun o3 => ih (i + 1) o3 (by omega)
    have vi := vN_lt R z
    refine c_isUp (Or.inl rfl) R X.2 z ?_
    refine bq (fun e => ?_) (fun e => ⟨vp_in_nI (by omega) (by omega), vp_in_nI (by omega) (by omega), ?_⟩)
    · have e2 : cnt (nn (s 2)) (mixP s i) = 0 := by
        have : cnt (nn (s 2)) (mixP s i) = cnt 0 (mixP s i) := cnt_ge (Nat.zero_le _) (fun j _ _ => by unfold mixP; rw [e]; rfl)
        exact this
      rw [sqr, e2] at ih2
      rw [nI_add]; exact ih2 _
    · rw [cl (by omega), show gi h (60 + 1) i = mf s i 1 from X.2.ve i z, vi.1, show gi h 29 i = _ from X.1.pa i z, show gi h 60 7 = _ from X.2.ds, mk_dif (by omega)]
      refine c_upWith (Or.inl rfl) R X.1 X.2 (by omega) ?_
      rw [mk_dif (by omega)]
      refine c_bitMk (by omega) ?_
      have e2 : cnt (nn (s 2)) (fun j => (par s i j && !isD s j) && !upW s (vN s i) j) = cnt (nn (s 2)) (mixP s i) := cnt_eq fun j hj => by
        unfold mixP upW
        rw [e]
        have : decide (vN s i = vN s j) = decide (vN s j = vN s i) := decide_eq_decide.mpr ⟨fun z => z.symm, fun z => z.symm⟩
        rw [this]
        cases isD s j <;> simp
      rw [e2, nI_add, nI_add]
      exact ih2 _
theorem c_mixed (R : Rk C E s) (X : CR 60 s h) (K : kk (nI (mixN s)) h) : MetPM m_X11_mixed [.ref 0] h (rI q kk) := t_X11_mixed (t_X8_mixedPairs (Or.inl rfl) (l_mixC R X K _ 0 none (Nat.zero_add _)))
/-! the highest format -/
def lst (s : RW) : Nat → Int32
  | 0 => -(nI 1)
  | n + 1 => if allR s (nI (n + 1)) = true then nI (n + 1) else lst s n
def hfm (s : RW) : Int32 := if nn (s 2) = 0 then -(nI 1) else lst s 9
theorem l_hfM (R : Rk C E s) (hs : h.1 132 = s) (h0 : ¬ nn (s 2) = 0) (K : kk (lst s 9) h) : ∀ k i, i + k = 9 → At m_X12_highestFormat (rI q kk) 9 0 [some (.ref 130), some (.int (lst s i)), some (.int (nI (i + 1)))] [] h := by
  have hm2 := R.m.2
  intro k
  induction k with
  | zero =>
    intro i hi
    refine u_X12_highestFormat_9 (pk_le 10 (i + 1) (fun _ => ?_) (fun z => absurd z (by omega)))
    have : i = 9 := by omega
    subst this; exact K
  | succ k ih =>
    intro i hi
    refine u_X12_highestFormat_9 (pk_le 10 (i + 1) (fun z => absurd z (by omega)) (fun _ => ⟨rv (by omega), ?_⟩))
    rw [rd hs 2 (by omega), R.m.1]
    have ih2 := ih (i + 1) (by omega)
    refine br_f (nI_nle (by omega) (by omega)) (s_allRead R hs (bq (fun e => ?_) (fun e => ?_)))
    · rw [lst, if_neg (by rw [e]; decide)] at ih2
      rw [nI_add]; exact ih2
    · rw [lst, if_pos e] at ih2
      rw [nI_add]; exact ih2
theorem s_highestFormat (R : Rk C E s) (hs : h.1 132 = s) (K : kk (hfm s) (si h 130 0 (nI 0))) : MetPM m_X12_highestFormat [.ref 130] h (rI q kk) := by
  refine t_X12_highestFormat ?_
  unfold hfm at K
  by_cases c : nn (s 2) = 0
  · rw [if_pos c] at K
    refine u_X12_highestFormat_9 (pk_le 10 1 (fun z => absurd z (by omega)) (fun _ => ⟨rv (by omega), ?_⟩))
    rw [rd (hs0 hs) 2 (by omega), R.m.1, c]
    exact br_t (by decide) K
  · rw [if_neg c] at K
    exact l_hfM R (hs0 hs) c K _ 0 (Nat.zero_add _)
theorem l_hfC (R : Rk C E s) (X : CR 60 s h) : ∀ n, n < 10 → kk (lst s n) h → At m_X11_highestFormat (rI q kk) 21 0 [some (.ref 0), some (.int (nI n))] [] h := by
  intro n
  induction n with
  | zero => intro _ K; exact u_X11_highestFormat_21 (br_t (by decide) K)
  | succ n ih =>
    intro hn K
    refine u_X11_highestFormat_21 (pk_lt (n + 1) 1 (fun z => absurd z (by omega)) (fun _ => c_isReadByAll (Or.inl rfl) R X.1 X.2 ?_))
    rw [lst] at K
    refine bq (fun e => ?_) (fun e => ?_)
    · rw [if_neg (by rw [e]; decide)] at K
      rw [m1_eq, pk_m1]
      exact ih (by omega) K
    · rw [if_pos e] at K; exact K
theorem c_highestFormat (R : Rk C E s) (X : CR 60 s h) (K : kk (hfm s) h) : MetPM m_X11_highestFormat [.ref 0] h (rI q kk) := by
  have hm2 := R.m.2
  refine t_X11_highestFormat ?_
  have e26 : gi h 26 1 = nI (nn (s 2)) := X.1.nm.trans R.m.1
  rw [e26, ← nI_0, nI_eq (by omega) (by omega)]
  unfold hfm at K
  refine ⟨fun c => ?_, fun c => ?_⟩
  · rw [if_neg c] at K
    exact l_hfC R X 9 (by omega) K
  · rw [if_pos c] at K; exact K
end
