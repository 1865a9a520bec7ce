/-! ===== the public questions of the reference, 1 ===== -/
section
variable {q : Nat → PH → Prop} {kk : Int32 → PH → Prop} {kv : PH → Prop} {h : PH} {s : RW} {C E : Nat} {a : Nat}
def inV (s : RW) (x : Int32) : Bool := inR x 0 ((nn (s 0) : Int) - 1)
def inP (s : RW) (x : Int32) : Bool := inR x 0 ((nn (s 1) : Int) - 1)
def inM (s : RW) (x : Int32) : Bool := inR x 0 ((nn (s 2) : Int) - 1)
def inW (s : RW) (x : Int32) : Bool := inR x 0 ((nn (s 3) : Int) - 1)
theorem inN_t {x : Int32} {n : Nat} (hn : n < 100) (e : inR x 0 ((n : Int) - 1) = true) : x = nI (nn x) ∧ nn x < n := by
  obtain ⟨j, hj, e2⟩ := inR_t (by omega) e
  subst e2
  rw [nn_nI (by omega)]
  exact ⟨rfl, hj⟩
theorem inV_t {x : Int32} (R : Rk C E s) (e : inV s x = true) : x = nI (nn x) ∧ nn x < nn (s 0) := inN_t (by have := R.v.2; omega) e
theorem inP_t {x : Int32} (R : Rk C E s) (e : inP s x = true) : x = nI (nn x) ∧ nn x < nn (s 1) := inN_t (by have := R.p.2; omega) e
theorem inM_t {x : Int32} (R : Rk C E s) (e : inM s x = true) : x = nI (nn x) ∧ nn x < nn (s 2) := inN_t (by have := R.m.2; omega) e
theorem inW_t {x : Int32} (R : Rk C E s) (e : inW s x = true) : x = nI (nn x) ∧ nn x < nn (s 3) := inN_t (by have := R.w.2; omega) e
theorem inR_n {x : Int32} {a b : Nat} (hb : b < 2 ^ 31) (e : inR x a b = true) : x = nI (nn x) ∧ a ≤ nn x ∧ nn x ≤ b := by
  have e2 : inR x 0 (((b + 1 : Nat) : Int) - 1) = true := by
    simp only [inR, Bool.and_eq_true, decide_eq_true_eq] at e ⊢
    omega
  have h3 : ∃ j, j < b + 1 ∧ x = nI j := by
    simp only [inR, Bool.and_eq_true, decide_eq_true_eq] at e
    have hx : ¬ x < 0 := by
      rw [Int32.lt_iff_toInt_lt, show (0 : Int32).toInt = 0 by decide]; omega
    obtain ⟨j, hj, e3⟩ := nI_of hx
    subst e3
    rw [nI_toInt hj] at e
    exact ⟨j, by omega, rfl⟩
  obtain ⟨j, hj, e3⟩ := h3
  subst e3
  simp only [inR, Bool.and_eq_true, decide_eq_true_eq] at e
  rw [nI_toInt (by omega)] at e
  rw [nn_nI (by omega)]
  exact ⟨rfl, by omega, by omega⟩
/-- the class's two tests of a range -/
theorem inC {x y : Int32} {n : Nat} {A B : Prop} (hy : y = nI n) (hn : n < 2 ^ 31) (g : inR x 0 ((n : Int) - 1) = false → B) (f : inR x 0 ((n : Int) - 1) = true → A) : (x < 0 → B) ∧ (¬ x < 0 → ((x < y → A) ∧ (¬ x < y → B))) := by
  subst hy
  have t0 : (0 : Int32).toInt = 0 := by decide
  simp only [inR, Bool.and_eq_true, Bool.and_eq_false_iff, decide_eq_true_eq, decide_eq_false_iff_not] at f g
  rw [Int32.lt_iff_toInt_lt, Int32.lt_iff_toInt_lt, t0, nI_toInt hn]
  exact ⟨fun c => g (by omega), fun c => ⟨fun d => f (by omega), fun d => g (by omega)⟩⟩
theorem inL {x y z : Int32} {a b : Nat} {A B : Prop} (hb : b < 2 ^ 31) (hy : y = nI a) (hz : z = nI b) (ha : a < 2 ^ 31) (g : inR x a b = false → B) (f : inR x a b = true → A) : (x < y → B) ∧ (¬ x < y → ((x ≤ z → A) ∧ (¬ x ≤ z → B))) := by
  subst hy hz
  simp only [inR, Bool.and_eq_true, Bool.and_eq_false_iff, decide_eq_true_eq, decide_eq_false_iff_not] at f g
  rw [Int32.lt_iff_toInt_lt, Int32.le_iff_toInt_le, nI_toInt ha, nI_toInt hb]
  exact ⟨fun c => g (by omega), fun c => ⟨fun d => f (by omega), fun d => g (by omega)⟩⟩
theorem c_needVersion {x : Int32} (R : Rk C E s) (Y : LyR 15 s h.1) (K0 : inV s x = false → q 2 h) (K1 : inV s x = true → kv h) : MetPM m_X11_needVersion [.ref 0, .int x] h (rV q kv) := by
  refine t_X11_needVersion ?_
  rw [show gi h 16 1 = s 0 from Y.nv]
  exact inC R.v.1 (by have := R.v.2; omega) (fun e => ⟨Nat.le_of_ble_eq_true rfl, K0 e⟩) K1
theorem c_needMember {x : Int32} (R : Rk C E s) (Y : LyR 15 s h.1) (K0 : inM s x = false → q 2 h) (K1 : inM s x = true → kv h) : MetPM m_X11_needMember [.ref 0, .int x] h (rV q kv) := by
  refine t_X11_needMember ?_
  rw [show gi h 26 1 = s 2 from Y.nm]
  exact inC R.m.1 (by have := R.m.2; omega) (fun e => ⟨Nat.le_of_ble_eq_true rfl, K0 e⟩) K1
theorem c_needFormat {x : Int32} (K0 : inR x 1 9 = false → q 1 h) (K1 : inR x 1 9 = true → kv h) : MetPM m_X11_needFormat [.int x] h (rV q kv) :=
  t_X11_needFormat (inL (a := 1) (b := 9) (by omega) rfl rfl (by omega) (fun e => ⟨Nat.le_of_ble_eq_true rfl, K0 e⟩) K1)
theorem c_needMeasure {x : Int32} (K0 : inR x 0 999 = false → q 1 h) (K1 : inR x 0 999 = true → kv h) : MetPM m_X11_needMeasure [.int x] h (rV q kv) :=
  t_X11_needMeasure (inL (a := 0) (b := 999) (by omega) rfl rfl (by omega) (fun e => ⟨Nat.le_of_ble_eq_true rfl, K0 e⟩) K1)
theorem c_needAhead {x : Int32} (K0 : inR x 0 2000 = false → q 1 h) (K1 : inR x 0 2000 = true → kv h) : MetPM m_X11_needAhead [.int x] h (rV q kv) :=
  t_X11_needAhead (inL (a := 0) (b := 2000) (by omega) rfl rfl (by omega) (fun e => ⟨Nat.le_of_ble_eq_true rfl, K0 e⟩) K1)
theorem hs0 (hs : h.1 132 = s) {k : Nat} {x : Int32} : (si h 130 k x).1 132 = s := (si_b (by omega)).trans hs
theorem g1 {A B : Prop} (x : A) : (¬ nI 1 = 0 → A) ∧ (nI 1 = 0 → B) := ⟨fun _ => x, fun z => absurd z (by decide)⟩
theorem g0 {A B : Prop} (x : B) : (¬ nI 0 = 0 → A) ∧ (nI 0 = 0 → B) := ⟨fun z => absurd rfl z, fun _ => x⟩
theorem f1 {A B : Prop} (x : A) : (nI 1 = 0 → B) ∧ (¬ nI 1 = 0 → A) := ⟨fun z => absurd z (by decide), fun _ => x⟩
theorem f0 {A B : Prop} (x : B) : (nI 0 = 0 → B) ∧ (¬ nI 0 = 0 → A) := ⟨fun _ => x, fun z => absurd rfl z⟩
theorem s_gate {b : Bool} (g : b = false → kk (nI 0) (si h 130 0 (nI 1))) (f : b = true → kk (nI 1) (si h 130 0 (nI 0))) : MetPM m_X12_goes [.ref 130, .int (b2i b)] h (rI q kk) := by
  refine s_goes ?_
  cases b
  · exact g rfl
  · exact f rfl
theorem s_gate2 {b c : Bool} (g1 : b = false → kk (nI 0) (si h 130 0 (nI 1))) (g2 : b = true → c = false → kk (nI 0) (si h 130 0 (nI 2))) (f : b = true → c = true → kk (nI 1) (si h 130 0 (nI 0))) : MetPM m_X12_goesBoth [.ref 130, .int (b2i b), .int (b2i c)] h (rI q kk) := by
  refine s_goesBoth ?_
  cases b
  · exact g1 rfl
  · cases c
    · exact g2 rfl rfl
    · exact f rfl rfl
theorem s_isV {x : Int32} (R : Rk C E s) (hs : h.1 132 = s) (K : kk (b2i (inV s x)) h) : MetPM m_X12_isVersion [.ref 130, .int x] h (rI q kk) := s_isVersion hs R.v K
theorem s_isP {x : Int32} (R : Rk C E s) (hs : h.1 132 = s) (K : kk (b2i (inP s x)) h) : MetPM m_X12_isPlace [.ref 130, .int x] h (rI q kk) := s_isPlace hs R.p K
theorem s_isM {x : Int32} (R : Rk C E s) (hs : h.1 132 = s) (K : kk (b2i (inM s x)) h) : MetPM m_X12_isMember [.ref 130, .int x] h (rI q kk) := s_isMember hs R.m K
theorem l_partners {j : Nat} (R : Rk C E s) (hs : h.1 132 = s) (hj : j < nn (s 2)) (K : kk (mk (nn (s 2)) (par s j)) h) : ∀ k i, i + k = nn (s 2) → At m_X12_partners (rI q kk) 18 0 [some (.ref 130), some (.int (nI j)), some (.int (mk i (par s j))), some (.int (nI i))] [] h := by
  have hm2 := R.m.2
  have hv8 := R.v.2
  intro k
  induction k with
  | zero =>
    intro i hi
    refine u_X12_partners_18 ⟨rv (by omega), ?_⟩
    rw [rd hs 2 (by omega), R.m.1]
    refine pk_le (nn (s 2)) i (fun _ => ?_) (fun z => absurd z (by omega))
    have : i = nn (s 2) := by omega
    rw [this]; exact K
  | succ k ih =>
    intro i hi
    refine u_X12_partners_18 ⟨rv (by omega), ?_⟩
    rw [rd hs 2 (by omega), R.m.1]
    refine pk_le (nn (s 2)) i (fun z => absurd z (by omega)) (fun hlt => ?_)
    have ih2 := ih (i + 1) (by omega)
    refine s_arePartners hs (by omega) (by omega) (s_truth ?_)
    rw [nI_add]; exact ih2
theorem s_partners {x : Int32} (R : Rk C E s) (hs : h.1 132 = s) (K0 : inM s x = false → kk (nI 0) (si h 130 0 (nI 1))) (K1 : inM s x = true → kk (mk (nn (s 2)) (par s (nn x))) (si h 130 0 (nI 0))) : MetPM m_X12_partners [.ref 130, .int x] h (rI q kk) := by
  have hm2 := R.m.2
  have hv8 := R.v.2
  refine t_X12_partners (s_isM R hs (s_gate (fun e => g0 (K0 e)) (fun e => g1 ?_)))
  have K := K1 e
  obtain ⟨e1, e2⟩ := inM_t R e
  generalize nn x = j at K e1 e2
  subst e1
  exact l_partners R (hs0 hs) e2 K _ 0 (Nat.zero_add _)
theorem l_with {j : Nat} (R : Rk C E s) (hs : h.1 132 = s) (hj : j < nn (s 0)) (K : kk (mk (nn (s 2)) (upW s j)) h) : ∀ k i, i + k = nn (s 2) → At m_X12_with (rI q kk) 18 0 [some (.ref 130), some (.int (nI j)), some (.int (mk i (upW s j))), some (.int (nI i))] [] h := by
  have hm2 := R.m.2
  have hv8 := R.v.2
  intro k
  induction k with
  | zero =>
    intro i hi
    refine u_X12_with_18 ⟨rv (by omega), ?_⟩
    rw [rd hs 2 (by omega), R.m.1]
    refine pk_le (nn (s 2)) i (fun _ => ?_) (fun z => absurd z (by omega))
    have : i = nn (s 2) := by omega
    rw [this]; exact K
  | succ k ih =>
    intro i hi
    refine u_X12_with_18 ⟨rv (by omega), ?_⟩
    rw [rd hs 2 (by omega), R.m.1]
    refine pk_le (nn (s 2)) i (fun z => absurd z (by omega)) (fun hlt => ?_)
    have ih2 := ih (i + 1) (by omega)
    refine s_isUpWith R hs hlt (by omega) (s_truth ?_)
    rw [nI_add]; exact ih2
theorem s_with {x : Int32} (R : Rk C E s) (hs : h.1 132 = s) (K0 : inV s x = false → kk (nI 0) (si h 130 0 (nI 1))) (K1 : inV s x = true → kk (mk (nn (s 2)) (upW s (nn x))) (si h 130 0 (nI 0))) : MetPM m_X12_with [.ref 130, .int x] h (rI q kk) := by
  have hm2 := R.m.2
  have hv8 := R.v.2
  refine t_X12_with (s_isV R hs (s_gate (fun e => g0 (K0 e)) (fun e => g1 ?_)))
  have K := K1 e
  obtain ⟨e1, e2⟩ := inV_t R e
  generalize nn x = j at K e1 e2
  subst e1
  exact l_with R (hs0 hs) e2 K _ 0 (Nat.zero_add _)
theorem l_readers {f : Int32} (R : Rk C E s) (hs : h.1 132 = s)  (K : kk (mk (nn (s 0)) (fun v => rds s v f)) h) : ∀ k i, i + k = nn (s 0) → At m_X12_readers (rI q kk) 22 0 [some (.ref 130), some (.int f), some (.int (mk i (fun v => rds s v f))), some (.int (nI i))] [] h := by
  have hm2 := R.m.2
  have hv8 := R.v.2
  intro k
  induction k with
  | zero =>
    intro i hi
    refine u_X12_readers_22 ⟨rv (by omega), ?_⟩
    rw [rd hs 0 (by omega), R.v.1]
    refine pk_le (nn (s 0)) i (fun _ => ?_) (fun z => absurd z (by omega))
    have : i = nn (s 0) := by omega
    rw [this]; exact K
  | succ k ih =>
    intro i hi
    refine u_X12_readers_22 ⟨rv (by omega), ?_⟩
    rw [rd hs 0 (by omega), R.v.1]
    refine pk_le (nn (s 0)) i (fun z => absurd z (by omega)) (fun hlt => ?_)
    have ih2 := ih (i + 1) (by omega)
    refine s_reads hs (by omega) (s_truth ?_)
    rw [nI_add]; exact ih2
theorem s_readers {x : Int32} (R : Rk C E s) (hs : h.1 132 = s) (K0 : inR x 1 9 = false → kk (nI 0) (si h 130 0 (nI 1))) (K1 : inR x 1 9 = true → kk (mk (nn (s 0)) (fun v => rds s v x)) (si h 130 0 (nI 0))) : MetPM m_X12_readers [.ref 130, .int x] h (rI q kk) :=
  t_X12_readers (s_isInR (a := 1) (b := 9) (by omega) (by omega) (s_gate (fun e => g0 (K0 e)) (fun e => g1 (l_readers R (hs0 hs) (K1 e) _ 0 (Nat.zero_add _)))))
theorem whyN_le {m v : Nat} : whyN s m v ≤ 7 := by
  unfold whyN
  repeat' split
  all_goals omega
theorem why_q {m v : Nat} {A B : Prop} (f : decide (whyN s m v = 0) = true → A) (g : decide (whyN s m v = 0) = false → B) : (nI (whyN s m v) = 0 → A) ∧ (¬ nI (whyN s m v) = 0 → B) := by
  have h7 := whyN_le (s := s) (m := m) (v := v)
  rw [← nI_0, nI_eq (by omega) (by omega)]
  exact ⟨fun z => f (decide_eq_true z), fun z => g (decide_eq_false z)⟩
theorem l_open {m : Nat} (R : Rk C E s) (hs : h.1 132 = s) (hm : m < nn (s 2)) (K : kk (mk (nn (s 0)) (fun v => decide (whyN s m v = 0))) h) : ∀ k i, i + k = nn (s 0) → At m_X12_open (rI q kk) 18 0 [some (.ref 130), some (.int (nI m)), some (.int (mk i (fun v => decide (whyN s m v = 0)))), some (.int (nI i))] [] h := by
  have hm2 := R.m.2
  have hv8 := R.v.2
  intro k
  induction k with
  | zero =>
    intro i hi
    refine u_X12_open_18 ⟨rv (by omega), ?_⟩
    rw [rd hs 0 (by omega), R.v.1]
    refine pk_le (nn (s 0)) i (fun _ => ?_) (fun z => absurd z (by omega))
    have : i = nn (s 0) := by omega
    rw [this]; exact K
  | succ k ih =>
    intro i hi
    refine u_X12_open_18 ⟨rv (by omega), ?_⟩
    rw [rd hs 0 (by omega), R.v.1]
    refine pk_le (nn (s 0)) i (fun z => absurd z (by omega)) (fun hlt => ?_)
    have ih2 := ih (i + 1) (by omega)
    refine s_why R hs hm (by omega) ?_
    have w := why_q (s := s) (m := m) (v := i) (A := MetPM m_X12_truth [.int (nI 1)] h (rI q fun x6 h5 => At m_X12_open (rI q kk) 18 0 [some (.ref 130), some (.int (nI m)), some (.int (mk i (fun v => decide (whyN s m v = 0)) ||| (x6 <<< (nI i &&& 31)))), some (.int (nI i + nI 1))] [] h5)) (B := MetPM m_X12_truth [.int (nI 0)] h (rI q fun x6 h5 => At m_X12_open (rI q kk) 18 0 [some (.ref 130), some (.int (nI m)), some (.int (mk i (fun v => decide (whyN s m v = 0)) ||| (x6 <<< (nI i &&& 31)))), some (.int (nI i + nI 1))] [] h5)) (fun e => s_truth1 (by rw [mk_t (p := fun v => decide (whyN s m v = 0)) e, nI_add]; exact ih2)) (fun e => s_truth0 (by rw [mk_f (p := fun v => decide (whyN s m v = 0)) e, nI_add]; exact ih2))
    exact ⟨w.2, w.1⟩
theorem s_open {x : Int32} (R : Rk C E s) (hs : h.1 132 = s) (K0 : inM s x = false → kk (nI 0) (si h 130 0 (nI 1))) (K1 : inM s x = true → kk (mk (nn (s 0)) (fun v => decide (whyN s (nn x) v = 0))) (si h 130 0 (nI 0))) : MetPM m_X12_open [.ref 130, .int x] h (rI q kk) := by
  have hm2 := R.m.2
  have hv8 := R.v.2
  refine t_X12_open (s_isM R hs (s_gate (fun e => g0 (K0 e)) (fun e => g1 ?_)))
  have K := K1 e
  obtain ⟨e1, e2⟩ := inM_t R e
  generalize nn x = j at K e1 e2
  subst e1
  exact l_open R (hs0 hs) e2 K _ 0 (Nat.zero_add _)
def blkM (s : RW) (m : Nat) : Bool := lagM s m && (!isD s m && !decide (whyN s m (nn (s 14)) = 0))
theorem l_blocked {L : Int32} (R : Rk C E s) (hs : h.1 132 = s) (hL : ∀ i, i < nn (s 2) → bt L i = lagM s i) (K : kk (mk (nn (s 2)) (blkM s)) h) : ∀ k i, i + k = nn (s 2) → At m_X12_blocked (rI q kk) 14 0 [some (.ref 130), some (.int (mk i (blkM s))), some (.int L), some (.int (nI i))] [] h := by
  have hm2 := R.m.2
  have hv8 := R.v.2
  intro k
  induction k with
  | zero =>
    intro i hi
    refine u_X12_blocked_14 ⟨rv (by omega), ?_⟩
    rw [rd hs 2 (by omega), R.m.1]
    refine pk_le (nn (s 2)) i (fun _ => ?_) (fun z => absurd z (by omega))
    have : i = nn (s 2) := by omega
    rw [this]; exact K
  | succ k ih =>
    intro i hi
    refine u_X12_blocked_14 ⟨rv (by omega), ?_⟩
    rw [rd hs 2 (by omega), R.m.1]
    refine pk_le (nn (s 2)) i (fun z => absurd z (by omega)) (fun hlt => ?_)
    have ih2 := ih (i + 1) (by omega)
    refine s_hasBit (by omega) ?_
    rw [hL i hlt]
    refine bq (fun e => s_truth0 ?_) (fun e => s_isDown hs (by omega) (bp (fun e2 => ?_) (fun e2 => s_truth0 ?_)))
    · rw [mk_f (by simp [blkM, e]), nI_add]; exact ih2
    · have hp : hasP s = true := by
        unfold lagM at e
        rw [Bool.and_eq_true] at e; exact e.1
      have hse := R.se hp
      refine ⟨rv (by omega), ?_⟩
      rw [rd hs 14 (by omega), hse.1.1]
      refine s_why R hs hlt (by omega) (why_q (fun e3 => s_truth0 ?_) (fun e3 => s_truth1 ?_))
      · rw [mk_f (by simp only [blkM, e, e2, e3]; rfl), nI_add]; exact ih2
      · rw [mk_t (by simp only [blkM, e, e2, e3]; rfl), nI_add]; exact ih2
    · rw [mk_f (by simp [blkM, e2]), nI_add]; exact ih2
theorem s_blocked (R : Rk C E s) (hs : h.1 132 = s) (K : kk (mk (nn (s 2)) (blkM s)) (si h 130 0 (nI 0))) : MetPM m_X12_blocked [.ref 130] h (rI q kk) :=
  t_X12_blocked (s_lags R (hs0 hs) (l_blocked R (hs0 hs) (fun i hi => bt_mk_in (by have := R.m.2; omega) hi) K _ 0 (Nat.zero_add _)))
theorem l_inWave {w : Int32} (R : Rk C E s) (hs : h.1 132 = s)  (K : kk (mk (nn (s 2)) (fun m => ofW s m w)) h) : ∀ k i, i + k = nn (s 2) → At m_X12_inWave (rI q kk) 28 0 [some (.ref 130), some (.int w), some (.int (mk i (fun m => ofW s m w))), some (.int (nI i))] [] h := by
  have hm2 := R.m.2
  have hv8 := R.v.2
  intro k
  induction k with
  | zero =>
    intro i hi
    refine u_X12_inWave_28 ⟨rv (by omega), ?_⟩
    rw [rd hs 2 (by omega), R.m.1]
    refine pk_le (nn (s 2)) i (fun _ => ?_) (fun z => absurd z (by omega))
    have : i = nn (s 2) := by omega
    rw [this]; exact K
  | succ k ih =>
    intro i hi
    refine u_X12_inWave_28 ⟨rv (by omega), ?_⟩
    rw [rd hs 2 (by omega), R.m.1]
    refine pk_le (nn (s 2)) i (fun z => absurd z (by omega)) (fun hlt => ?_)
    have ih2 := ih (i + 1) (by omega)
    refine s_isOfWave R hs hlt (s_truth ?_)
    rw [nI_add]; exact ih2
theorem s_inWave {x : Int32} (R : Rk C E s) (hs : h.1 132 = s) (K0 : inW s x = false → kk (nI 0) (si h 130 0 (nI 1))) (K1 : inW s x = true → kk (mk (nn (s 2)) (fun m => ofW s m x)) (si h 130 0 (nI 0))) : MetPM m_X12_inWave [.ref 130, .int x] h (rI q kk) := by
  refine t_X12_inWave ⟨rv (by omega), ?_⟩
  rw [rd hs 3 (by omega)]
  exact s_isInC (n := nn (s 3)) (by have := R.w.2; omega) R.w.1 (s_gate (b := inW s x) (fun e => g0 (K0 e)) (fun e => g1 (l_inWave R (hs0 hs) (K1 e) _ 0 (Nat.zero_add _))))
theorem tlk_mk {v : Nat} (hv : v < 32) : s (36 + v) ||| ((nI 1) <<< (nI v &&& 31)) = mk 32 (tlk s v) := mk_of (Nat.le_refl _) fun i hi => by
  rw [b_or, bt_one hv hi, decide_eq_true hi, Bool.true_and]
  unfold tlk
  by_cases c : i = v
  · subst c; simp
  · have c2 : ¬ v = i := fun z => c z.symm
    simp [c, c2]
theorem s_talkers {x : Int32} (R : Rk C E s) (hs : h.1 132 = s) (K0 : inV s x = false → kk (nI 0) (si h 130 0 (nI 1))) (K1 : inV s x = true → kk (mk 32 (tlk s (nn x))) (si h 130 0 (nI 0))) : MetPM m_X12_talkers [.ref 130, .int x] h (rI q kk) := by
  have hm2 := R.m.2
  have hv8 := R.v.2
  refine t_X12_talkers (s_isV R hs (s_gate (fun e => f0 (K0 e)) (fun e => f1 ?_)))
  have K := K1 e
  obtain ⟨e1, e2⟩ := inV_t R e
  generalize nn x = j at K e1 e2
  subst e1
  rw [nI_add, rd (hs0 hs) _ (by omega), tlk_mk (by omega)]
  exact ⟨rv (by omega), K⟩
theorem s_down {x : Int32} (R : Rk C E s) (hs : h.1 132 = s) (K0 : inP s x = false → kk (nI 0) (si h 130 0 (nI 1))) (K1 : inP s x = true → kk (mk (nn (s 2)) (dnIn s x)) (si h 130 0 (nI 0))) : MetPM m_X12_down [.ref 130, .int x] h (rI q kk) := by
  have hm2 := R.m.2
  have hv8 := R.v.2
  refine t_X12_down (s_isP R hs (s_gate (fun e => f0 (K0 e)) (fun e => f1 ?_)))
  have K := K1 e
  obtain ⟨e1, e2⟩ := inP_t R e
  generalize nn x = j at K e1 e2
  subst e1
  exact s_downIn R (hs0 hs) K
theorem s_whyNotCommit {x : Int32} (R : Rk C E s) (hs : h.1 132 = s) (K0 : inR x 1 9 = false → kk (nI 0) (si h 130 0 (nI 1))) (K1 : inR x 1 9 = true → kk (nI (whyF s x)) (si h 130 0 (nI 0))) : MetPM m_X12_whyNotCommit [.ref 130, .int x] h (rI q kk) :=
  t_X12_whyNotCommit (s_isInR (a := 1) (b := 9) (by omega) (by omega) (s_gate (fun e => f0 (K0 e)) (fun e => f1 (s_whyCommit R (hs0 hs) (K1 e)))))
theorem s_setting {x : Int32} (hs : h.1 132 = s) (K0 : inR x 0 11 = false → kk (nI 0) (si h 130 0 (nI 1))) (K1 : inR x 0 11 = true → kk (s (nn x)) (si h 130 0 (nI 0))) : MetPM m_X12_setting [.ref 130, .int x] h (rI q kk) := by
  refine t_X12_setting (s_isInR (a := 0) (b := 11) (by omega) (by omega) (s_gate (fun e => f0 (K0 e)) (fun e => f1 ?_)))
  have K := K1 e
  obtain ⟨e1, _, e2⟩ := inR_n (a := 0) (b := 11) (by omega) e
  generalize nn x = j at K e1 e2
  subst e1
  rw [rd (hs0 hs) _ (by omega)]
  exact ⟨rv (by omega), K⟩
theorem s_lagging (R : Rk C E s) (hs : h.1 132 = s) (K : kk (mk (nn (s 2)) (lagM s)) (si h 130 0 (nI 0))) : MetPM m_X12_lagging [.ref 130] h (rI q kk) := t_X12_lagging (s_lags R (hs0 hs) K)
theorem s_areThere {x y : Int32} (R : Rk C E s) (hs : h.1 132 = s) (K : kk (b2i (inM s x && inV s y)) h) : MetPM m_X12_areThere [.ref 130, .int x, .int y] h (rI q kk) := by
  refine t_X12_areThere (s_isM R hs (bq (fun e => ⟨isB_0, ?_⟩) (fun e => s_isV R hs (bq (fun e2 => ⟨isB_0, ?_⟩) (fun e2 => ⟨isB_1, ?_⟩)))))
  · rw [e] at K; exact K
  · rw [e, e2] at K; exact K
  · rw [e, e2] at K; exact K
theorem s_reason {x y : Int32} (R : Rk C E s) (hs : h.1 132 = s) (K0 : (inM s x && inV s y) = false → kk (nI 0) (si h 130 0 (nI 1))) (K1 : (inM s x && inV s y) = true → kk (nI (whyN s (nn x) (nn y))) (si h 130 0 (nI 0))) : MetPM m_X12_reason [.ref 130, .int x, .int y] h (rI q kk) := by
  have hv8 := R.v.2
  refine t_X12_reason (s_areThere R hs (s_gate (fun e => f0 (K0 e)) (fun e => f1 ?_)))
  have K := K1 e
  rw [Bool.and_eq_true] at e
  obtain ⟨e1, e2⟩ := inM_t R e.1
  obtain ⟨e3, e4⟩ := inV_t R e.2
  generalize nn x = j at K e1 e2
  generalize nn y = k at K e3 e4
  subst e1 e3
  exact s_why R (hs0 hs) e2 (by omega) K
theorem s_against {x y : Int32} (R : Rk C E s) (hs : h.1 132 = s) (K0 : (inM s x && inV s y) = false → kk (nI 0) (si h 130 0 (nI 1))) (K1 : (inM s x && inV s y) = true → kk (mk (nn (s 2)) (slnt s (nn x) (nn y))) (si h 130 0 (nI 0))) : MetPM m_X12_against [.ref 130, .int x, .int y] h (rI q kk) := by
  have hv8 := R.v.2
  have hm2 := R.m.2
  refine t_X12_against (s_areThere R hs (s_gate (fun e => f0 (K0 e)) (fun e => f1 ?_)))
  have K := K1 e
  rw [Bool.and_eq_true] at e
  obtain ⟨e1, e2⟩ := inM_t R e.1
  obtain ⟨e3, e4⟩ := inV_t R e.2
  generalize nn x = j at K e1 e2
  generalize nn y = k at K e3 e4
  subst e1 e3
  exact s_silent R (hs0 hs) (by omega) (by omega) K
theorem s_mayTalk {x y : Int32} (R : Rk C E s) (hs : h.1 132 = s) (K0 : (inV s x && inV s y) = false → kk (nI 0) (si h 130 0 (nI 1))) (K1 : (inV s x && inV s y) = true → kk (b2i (tlk s (nn x) (nn y))) (si h 130 0 (nI 0))) : MetPM m_X12_mayTalk [.ref 130, .int x, .int y] h (rI q kk) := by
  have hv8 := R.v.2
  refine t_X12_mayTalk (s_isV R hs (bq (fun e => ?_) (fun e => s_isV R hs (bq (fun e2 => ?_) (fun e2 => ?_)))))
  · exact s_gate (b := false) (fun _ => f0 ⟨isB_0, K0 (by rw [e]; rfl)⟩) (fun z => by cases z)
  · exact s_gate (b := false) (fun _ => f0 ⟨isB_0, K0 (by rw [e, e2]; rfl)⟩) (fun z => by cases z)
  · refine s_gate (b := true) (fun z => by cases z) (fun _ => f1 ?_)
    have K := K1 (by rw [e, e2]; rfl)
    obtain ⟨e1, e5⟩ := inV_t R e
    obtain ⟨e3, e4⟩ := inV_t R e2
    generalize nn x = j at K e1 e5
    generalize nn y = k at K e3 e4
    subst e1 e3
    refine s_talk (hs0 hs) (by omega) (by omega) (bq (fun c => ⟨isB_0, ?_⟩) (fun c => ⟨isB_1, ?_⟩))
    · rw [c] at K; exact K
    · rw [c] at K; exact K
def mbV (s : RW) (m w : Nat) : Int32 := if w = 6 then wvOf s m else mf s m w
theorem s_member {x y : Int32} (R : Rk C E s) (hs : h.1 132 = s) (K0 : inM s x = false → kk (nI 0) (si h 130 0 (nI 1))) (K2 : inM s x = true → inR y 0 6 = false → kk (nI 0) (si h 130 0 (nI 2))) (K1 : inM s x = true → inR y 0 6 = true → kk (mbV s (nn x) (nn y)) (si h 130 0 (nI 0))) : MetPM m_X12_member [.ref 130, .int x, .int y] h (rI q kk) := by
  have hm2 := R.m.2
  refine t_X12_member (s_isM R hs (s_isInR (a := 0) (b := 6) (by omega) (by omega) (s_gate2 (fun e => g0 (K0 e)) (fun e e2 => g0 (K2 e e2)) (fun e e2 => g1 ?_))))
  have K := K1 e e2
  obtain ⟨e1, e3⟩ := inM_t R e
  obtain ⟨e4, _, e5⟩ := inR_n (a := 0) (b := 6) (by omega) e2
  generalize nn x = j at K e1 e3
  generalize nn y = k at K e4 e5
  subst e1 e4
  unfold mbV at K
  rw [nI_eq (by omega) (by omega)]
  refine ⟨fun c => s_of (hs0 hs) (by omega) ?_, fun c => s_of (hs0 hs) (by omega) ?_⟩
  · rw [if_neg c] at K; exact K
  · rw [if_pos c] at K
    have hp := R.pm e3
    rw [hp.1, nI_add, rd (hs0 hs) _ (by omega)]
    exact ⟨rv (by omega), K⟩
def plnV (s : RW) (w : Nat) : Int32 := if w = 0 then s 12 else if w = 4 then soakE s else if hasP s = true then s (12 + w) else -(nI 1)
theorem s_plan {x : Int32} (hs : h.1 132 = s) (K0 : inR x 0 4 = false → kk (nI 0) (si h 130 0 (nI 1))) (K1 : inR x 0 4 = true → kk (plnV s (nn x)) (si h 130 0 (nI 0))) : MetPM m_X12_plan [.ref 130, .int x] h (rI q kk) := by
  refine t_X12_plan (s_isInR (a := 0) (b := 4) (by omega) (by omega) (s_gate (fun e => g0 (K0 e)) (fun e => g1 ?_)))
  have K := K1 e
  obtain ⟨e1, _, e2⟩ := inR_n (a := 0) (b := 4) (by omega) e
  generalize nn x = j at K e1 e2
  subst e1
  have rest : (¬ j = 0 → ¬ j = 4 → MetPM m_X12_hasPlan [.ref 130] (si h 130 0 (nI 0)) (rI q fun x2 h1 => (x2 = 0 → rI q kk (.inl (some (.int (-(nI 1))))) h1) ∧ (¬ x2 = 0 → vp_in (nI 12 + nI j) 253 ∧ rI q kk (.inl (some (.int (gi h1 132 (nI 12 + nI j).toNatClampNeg)))) h1))) := fun c c4 => by
    refine s_hasPlan (hs0 hs) ?_
    unfold plnV at K
    rw [if_neg c, if_neg c4] at K
    rw [nI_add, rd (hs0 hs) _ (by omega)]
    refine bq (fun e3 => ?_) (fun e3 => ⟨rv (by omega), ?_⟩)
    · rw [if_neg (by rw [e3]; decide)] at K; exact K
    · rw [if_pos e3] at K; exact K
  have zero : j = 0 → (vp_in (nI 12) 253 ∧ rI q kk (.inl (some (.int (gi (si h 130 0 (nI 0)) 132 (nI 12).toNatClampNeg)))) (si h 130 0 (nI 0))) := fun c => by
    subst c
    rw [rd (hs0 hs) 12 (by omega)]
    exact ⟨rv (by omega), K⟩
  have p51 : (s 12 = nI 2 ∨ (s 12 = nI 3 ∧ s 18 = nI 2)) → At m_X12_plan (rI q kk) 51 0 [some (.ref 130), some (.int (nI j)), none] [] (si h 130 0 (nI 0)) := fun w => by
    refine u_X12_plan_51 ?_
    rw [← nI_0, nI_eq (by omega) (by omega), nI_eq (by omega) (by omega)]
    refine ⟨fun c => ⟨rest c, fun c4 => ?_⟩, zero⟩
    subst c4
    rw [rd (hs0 hs) 16 (by omega)]
    refine f1 ⟨rv (by omega), ?_⟩
    have : plnV s 4 = s 16 := by unfold plnV soakE; rw [if_neg (by omega), if_pos rfl, if_pos w]
    rw [this] at K; exact K
  have p55 : ¬ (s 12 = nI 2 ∨ (s 12 = nI 3 ∧ s 18 = nI 2)) → At m_X12_plan (rI q kk) 55 0 [some (.ref 130), some (.int (nI j)), none] [] (si h 130 0 (nI 0)) := fun w => by
    refine u_X12_plan_55 ?_
    rw [← nI_0, nI_eq (by omega) (by omega), nI_eq (by omega) (by omega)]
    refine ⟨fun c => ⟨rest c, fun c4 => ?_⟩, zero⟩
    subst c4
    refine f0 ?_
    have : plnV s 4 = -(nI 1) := by unfold plnV soakE; rw [if_neg (by omega), if_pos rfl, if_neg w]; rfl
    rw [this] at K; exact K
  rw [rd (hs0 hs) 12 (by omega), rd (hs0 hs) 18 (by omega)]
  exact ⟨rv (by omega), ⟨fun c => p51 (Or.inl c), fun c => ⟨rv (by omega), ⟨fun d => p55 (by rintro (z | z); exact c z; exact d z.1), fun d => ⟨rv (by omega), ⟨fun f => p55 (by rintro (z | z); exact c z; exact f z.2), fun f => p51 (Or.inr ⟨d, f⟩)⟩⟩⟩⟩⟩⟩
theorem s_events (R : Rk C E s) (hE : E < 2 ^ 31) (hs : h.1 132 = s) (K : kk (nI (kEv s)) (si h 130 0 (nI 0))) : MetPM m_X12_events [.ref 130] h (rI q kk) := t_X12_events (s_keptEvents (hs0 hs) R hE K)
def inE (s : RW) (x : Int32) : Bool := inR x 0 ((kEv s : Int) - 1)
def evtV (s : RW) (i w : Nat) : Int32 := s (evM (nn (s 19)) i + w)
theorem kEv_le : kEv s ≤ 30 ∧ kEv s ≤ nn (s 19) := by
  unfold kEv; split <;> omega
theorem inE_t {x : Int32} (e : inE s x = true) : x = nI (nn x) ∧ nn x < kEv s := inN_t (by have := (kEv_le (s := s)).1; omega) e
theorem s_event {x y : Int32} (R : Rk C E s) (hE : E < 2 ^ 31) (hs : h.1 132 = s) (K0 : inE s x = false → kk (nI 0) (si h 130 0 (nI 1))) (K2 : inE s x = true → inR y 0 3 = false → kk (nI 0) (si h 130 0 (nI 2))) (K1 : inE s x = true → inR y 0 3 = true → kk (evtV s (nn x) (nn y)) (si h 130 0 (nI 0))) : MetPM m_X12_event [.ref 130, .int x, .int y] h (rI q kk) := by
  have hk := kEv_le (s := s)
  refine t_X12_event (s_keptEvents hs R hE (s_isInC (n := kEv s) (by omega) rfl (s_isInR (a := 0) (b := 3) (by omega) (by omega) (s_gate2 (b := inE s x) (fun e => f0 (K0 e)) (fun e e2 => f0 (K2 e e2)) (fun e e2 => f1 ⟨rv (by omega), by decide, ?_⟩)))))
  have K := K1 e e2
  obtain ⟨e1, e3⟩ := inE_t e
  obtain ⟨e4, _, e5⟩ := inR_n (a := 0) (b := 3) (by omega) e2
  generalize nn x = j at K e1 e3
  generalize nn y = k at K e4 e5
  subst e1 e4
  have hev := R.ev.2
  intro y9
  have e9 : y9 = nI (nn (s 19) - 1 - j) := by
    show (gi (si h 130 0 (nI 0)) 132 (nI 19).toNatClampNeg - nI 1) - nI j = _
    rw [rd (hs0 hs) 19 (by omega), R.ev.1, pk_sub (by omega), pk_sub (by omega), nn_nI (by omega)]
  clear_value y9
  subst e9
  rw [pk_rem (by omega) (by omega) (by omega), pk_mul, nI_add, nI_add, rd (hs0 hs) _ (by omega)]
  exact ⟨rv (by omega), K⟩
end
