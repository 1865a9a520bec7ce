/-! ===== the class's cells against a row of the reference ===== -/
abbrev FI : Type := Nat → Nat → Int32
def LyR (L : Nat) (s : RW) (f : FI) : Prop :=
  (f (L + 1) 1 = s 0) ∧
  (f (L + 6) 1 = s 1) ∧
  (f (L + 11) 1 = s 2) ∧
  (f L 12 = s 3) ∧
  (f L 11 = s 4) ∧
  (f L 13 = s 6) ∧
  (f L 14 = s 7) ∧
  (f L 15 = s 8) ∧
  (f L 16 = s 9) ∧
  (f L 17 = s 10) ∧
  (∀ v, v < nn (s 0) → f (L + 3) v = s (20 + v)) ∧
  (∀ v, v < nn (s 0) → f (L + 4) v = s (28 + v)) ∧
  (∀ v, v < nn (s 0) → ∀ i, i < 32 → bt (f (L + 5) v) i = tlk s v i) ∧
  (∀ p, p < nn (s 1) → f (L + 8) p = s (44 + p)) ∧
  (∀ p, p < nn (s 1) → f (L + 9) p = mk (nn (s 2)) (fun m => decide (mf s m 0 = nI p))) ∧
  (∀ w, w < nn (s 3) → f (L + 10) w = mk (nn (s 2)) (fun m => ofW s m (nI w))) ∧
  (∀ m, m < nn (s 2) → f (L + 13) m = mf s m 0) ∧
  (∀ m, m < nn (s 2) → f (L + 14) m = mk (nn (s 2)) (par s m))
theorem LyR.nv {L : Nat} {s : RW} {f : FI} (h : LyR L s f) : f (L + 1) 1 = s 0 := h.1
theorem LyR.np {L : Nat} {s : RW} {f : FI} (h : LyR L s f) : f (L + 6) 1 = s 1 := h.2.1
theorem LyR.nm {L : Nat} {s : RW} {f : FI} (h : LyR L s f) : f (L + 11) 1 = s 2 := h.2.2.1
theorem LyR.wa {L : Nat} {s : RW} {f : FI} (h : LyR L s f) : f L 12 = s 3 := h.2.2.2.1
theorem LyR.li {L : Nat} {s : RW} {f : FI} (h : LyR L s f) : f L 11 = s 4 := h.2.2.2.2.1
theorem LyR.sk {L : Nat} {s : RW} {f : FI} (h : LyR L s f) : f L 13 = s 6 := h.2.2.2.2.2.1
theorem LyR.dn {L : Nat} {s : RW} {f : FI} (h : LyR L s f) : f L 14 = s 7 := h.2.2.2.2.2.2.1
theorem LyR.tk {L : Nat} {s : RW} {f : FI} (h : LyR L s f) : f L 15 = s 8 := h.2.2.2.2.2.2.2.1
theorem LyR.so {L : Nat} {s : RW} {f : FI} (h : LyR L s f) : f L 16 = s 9 := h.2.2.2.2.2.2.2.2.1
theorem LyR.lm {L : Nat} {s : RW} {f : FI} (h : LyR L s f) : f L 17 = s 10 := h.2.2.2.2.2.2.2.2.2.1
theorem LyR.lo {L : Nat} {s : RW} {f : FI} (h : LyR L s f) : ∀ v, v < nn (s 0) → f (L + 3) v = s (20 + v) := h.2.2.2.2.2.2.2.2.2.2.1
theorem LyR.hi {L : Nat} {s : RW} {f : FI} (h : LyR L s f) : ∀ v, v < nn (s 0) → f (L + 4) v = s (28 + v) := h.2.2.2.2.2.2.2.2.2.2.2.1
theorem LyR.ta {L : Nat} {s : RW} {f : FI} (h : LyR L s f) : ∀ v, v < nn (s 0) → ∀ i, i < 32 → bt (f (L + 5) v) i = tlk s v i := h.2.2.2.2.2.2.2.2.2.2.2.2.1
theorem LyR.wp {L : Nat} {s : RW} {f : FI} (h : LyR L s f) : ∀ p, p < nn (s 1) → f (L + 8) p = s (44 + p) := h.2.2.2.2.2.2.2.2.2.2.2.2.2.1
theorem LyR.ps {L : Nat} {s : RW} {f : FI} (h : LyR L s f) : ∀ p, p < nn (s 1) → f (L + 9) p = mk (nn (s 2)) (fun m => decide (mf s m 0 = nI p)) := h.2.2.2.2.2.2.2.2.2.2.2.2.2.2.1
theorem LyR.ws {L : Nat} {s : RW} {f : FI} (h : LyR L s f) : ∀ w, w < nn (s 3) → f (L + 10) w = mk (nn (s 2)) (fun m => ofW s m (nI w)) := h.2.2.2.2.2.2.2.2.2.2.2.2.2.2.2.1
theorem LyR.po {L : Nat} {s : RW} {f : FI} (h : LyR L s f) : ∀ m, m < nn (s 2) → f (L + 13) m = mf s m 0 := h.2.2.2.2.2.2.2.2.2.2.2.2.2.2.2.2.1
theorem LyR.pa {L : Nat} {s : RW} {f : FI} (h : LyR L s f) : ∀ m, m < nn (s 2) → f (L + 14) m = mk (nn (s 2)) (par s m) := h.2.2.2.2.2.2.2.2.2.2.2.2.2.2.2.2.2
/-- where the i-th latest event lies in the class's ring whose newest is w, and in the row -/
def evC (w i : Nat) : Nat := ((w + 30 - i) % 30) * 4
def evM (e i : Nat) : Nat := 133 + 4 * ((e - 1 - i) % 30)
def soakE (s : RW) : Int32 := if s 12 = nI 2 ∨ (s 12 = nI 3 ∧ s 18 = nI 2) then s 16 else -1
def StM (a : Nat) (s : RW) (f : FI) : Prop :=
  (∀ m, m < nn (s 2) → f (a + 1) m = mf s m 1) ∧
  (∀ m, m < nn (s 2) → f (a + 2) m = com s m) ∧
  (∀ m, m < nn (s 2) → f (a + 3) m = mf s m 3) ∧
  (∀ m, m < nn (s 2) → f (a + 4) m = mf s m 4) ∧
  (f a 7 = mk (nn (s 2)) (isD s)) ∧
  (f a 8 = mk (nn (s 2)) (fun m => decide (mf s m 5 = nI 1)))
theorem StM.ve {a : Nat} {s : RW} {f : FI} (h : StM a s f) : ∀ m, m < nn (s 2) → f (a + 1) m = mf s m 1 := h.1
theorem StM.co {a : Nat} {s : RW} {f : FI} (h : StM a s f) : ∀ m, m < nn (s 2) → f (a + 2) m = com s m := h.2.1
theorem StM.un {a : Nat} {s : RW} {f : FI} (h : StM a s f) : ∀ m, m < nn (s 2) → f (a + 3) m = mf s m 3 := h.2.2.1
theorem StM.me {a : Nat} {s : RW} {f : FI} (h : StM a s f) : ∀ m, m < nn (s 2) → f (a + 4) m = mf s m 4 := h.2.2.2.1
theorem StM.ds {a : Nat} {s : RW} {f : FI} (h : StM a s f) : f a 7 = mk (nn (s 2)) (isD s) := h.2.2.2.2.1
theorem StM.he {a : Nat} {s : RW} {f : FI} (h : StM a s f) : f a 8 = mk (nn (s 2)) (fun m => decide (mf s m 5 = nI 1)) := h.2.2.2.2.2
def StT (a : Nat) (s : RW) (f : FI) : Prop :=
  (isB (f a 12)) ∧
  (f a 1 = s 11) ∧
  (f a 2 = s 5) ∧
  (f a 9 = s 12) ∧
  (hasP s = true → f a 10 = s 13 ∧ f a 11 = s 14 ∧ f a 12 = s 17 ∧ f a 13 = s 15) ∧
  (f a 14 = soakE s)
theorem StT.ib {a : Nat} {s : RW} {f : FI} (h : StT a s f) : isB (f a 12) := h.1
theorem StT.ck {a : Nat} {s : RW} {f : FI} (h : StT a s f) : f a 1 = s 11 := h.2.1
theorem StT.fo {a : Nat} {s : RW} {f : FI} (h : StT a s f) : f a 2 = s 5 := h.2.2.1
theorem StT.st {a : Nat} {s : RW} {f : FI} (h : StT a s f) : f a 9 = s 12 := h.2.2.2.1
theorem StT.pl {a : Nat} {s : RW} {f : FI} (h : StT a s f) : hasP s = true → f a 10 = s 13 ∧ f a 11 = s 14 ∧ f a 12 = s 17 ∧ f a 13 = s 15 := h.2.2.2.2.1
theorem StT.se {a : Nat} {s : RW} {f : FI} (h : StT a s f) : f a 14 = soakE s := h.2.2.2.2.2
def StE (a : Nat) (s : RW) (f : FI) : Prop := f (a + 5) 1 = nI (kEv s) ∧ ∃ w, w < 30 ∧ f (a + 5) 2 = nI w ∧ ∀ i, i < kEv s → ∀ j, j < 4 → f (a + 6) (evC w i + j) = s (evM (nn (s 19)) i + j)
def StR (a : Nat) (s : RW) (f : FI) : Prop := StM a s f ∧ StT a s f ∧ StE a s f
theorem StR.ve {a : Nat} {s : RW} {f : FI} (h : StR a s f) : ∀ m, m < nn (s 2) → f (a + 1) m = mf s m 1 := h.1.ve
theorem StR.co {a : Nat} {s : RW} {f : FI} (h : StR a s f) : ∀ m, m < nn (s 2) → f (a + 2) m = com s m := h.1.co
theorem StR.un {a : Nat} {s : RW} {f : FI} (h : StR a s f) : ∀ m, m < nn (s 2) → f (a + 3) m = mf s m 3 := h.1.un
theorem StR.me {a : Nat} {s : RW} {f : FI} (h : StR a s f) : ∀ m, m < nn (s 2) → f (a + 4) m = mf s m 4 := h.1.me
theorem StR.ds {a : Nat} {s : RW} {f : FI} (h : StR a s f) : f a 7 = mk (nn (s 2)) (isD s) := h.1.ds
theorem StR.he {a : Nat} {s : RW} {f : FI} (h : StR a s f) : f a 8 = mk (nn (s 2)) (fun m => decide (mf s m 5 = nI 1)) := h.1.he
theorem StR.ib {a : Nat} {s : RW} {f : FI} (h : StR a s f) : isB (f a 12) := h.2.1.ib
theorem StR.ck {a : Nat} {s : RW} {f : FI} (h : StR a s f) : f a 1 = s 11 := h.2.1.ck
theorem StR.fo {a : Nat} {s : RW} {f : FI} (h : StR a s f) : f a 2 = s 5 := h.2.1.fo
theorem StR.st {a : Nat} {s : RW} {f : FI} (h : StR a s f) : f a 9 = s 12 := h.2.1.st
theorem StR.pl {a : Nat} {s : RW} {f : FI} (h : StR a s f) : hasP s = true → f a 10 = s 13 ∧ f a 11 = s 14 ∧ f a 12 = s 17 ∧ f a 13 = s 15 := h.2.1.pl
theorem StR.se {a : Nat} {s : RW} {f : FI} (h : StR a s f) : f a 14 = soakE s := h.2.1.se
theorem StR.ev {a : Nat} {s : RW} {f : FI} (h : StR a s f) : f (a + 5) 1 = nI (kEv s) ∧ ∃ w, w < 30 ∧ f (a + 5) 2 = nI w ∧ ∀ i, i < kEv s → ∀ j, j < 4 → f (a + 6) (evC w i + j) = s (evM (nn (s 19)) i + j) := h.2.2
/-! ===== the class's questions ===== -/
section
variable {q : Nat → PH → Prop} {kk : Int32 → PH → Prop} {h : PH} {s : RW} {C E : Nat}
theorem c_isIn {x : Int32} {k : Nat} (hk : k < 32) (K : kk (b2i (bt x k)) h) : MetPM m_X11_isIn [.int x, .int (nI k)] h (rI q kk) := by
  refine t_X11_isIn ?_
  rw [bit_b2i hk]
  refine bq (fun e => ⟨isB_0, ?_⟩) (fun e => ⟨isB_1, ?_⟩)
  · rw [e] at K; exact K
  · rw [e] at K; exact K
def bcV (p0 : Int32) : Int32 := let y1 : Int32 := (p0 - (((p0.toUInt32 >>> ((nI 1).toUInt32 &&& Int32.toUInt32 31)).toInt32) &&& (nI 1431655765))); (let y2 : Int32 := ((y1 &&& (nI 858993459)) + (((y1.toUInt32 >>> ((nI 2).toUInt32 &&& Int32.toUInt32 31)).toInt32) &&& (nI 858993459))); (let y3 : Int32 := ((y2 + ((y2.toUInt32 >>> ((nI 4).toUInt32 &&& Int32.toUInt32 31)).toInt32)) &&& (nI 252645135)); (let y4 : Int32 := (((y3 + ((y3.toUInt32 >>> ((nI 8).toUInt32 &&& Int32.toUInt32 31)).toInt32)).toUInt32 >>> ((nI 16).toUInt32 &&& Int32.toUInt32 31)).toInt32); (((y3 + ((y3.toUInt32 >>> ((nI 8).toUInt32 &&& Int32.toUInt32 31)).toInt32)) + y4) &&& (nI 63)))))
theorem bcV_all : ∀ a, a < 64 → ∀ b, b < 64 → bcV (nI (64 * a + b)) = nI (cnt 12 (bt (nI (64 * a + b)))) := by decide +kernel
theorem low12 {x : Int32} (hx : ∀ i, 12 ≤ i → i < 32 → bt x i = false) : ∃ j, j < 4096 ∧ x = nI j := by
  have e : x = x &&& nI 4095 := by
    apply b_ext
    intro i hi
    rw [b_and]
    by_cases q : i < 12
    · rw [(by decide +kernel : ∀ i, i < 12 → bt (nI 4095) i = true) i q, Bool.and_true]
    · rw [hx i (by omega) hi, Bool.false_and]
  obtain ⟨j, hj, e2⟩ := pk_andE x (m := nI 4095) 12 (by decide)
  exact ⟨j, hj, by rw [e]; exact e2⟩
theorem c_bitCount {x : Int32} (hx : ∀ i, 12 ≤ i → i < 32 → bt x i = false) (K : kk (nI (cnt 12 (bt x))) h) : MetPM m_J6_bitCount_0f7a4 [.int x] h (rI q kk) := by
  refine t_J6_bitCount_0f7a4 ?_
  show rI q kk (.inl (some (.int (bcV x)))) h
  obtain ⟨j, hj, e⟩ := low12 hx
  have e2 := bcV_all (j / 64) (by omega) (j % 64) (by omega)
  rw [Nat.div_add_mod, ← e] at e2
  rw [e2]; exact K
theorem mk_hi {n : Nat} (hn : n ≤ 12) (p : Nat → Bool) : ∀ i, 12 ≤ i → i < 32 → bt (mk n p) i = false := fun i h1 h2 => by rw [bt_mk p n (by omega) i h2, decide_eq_false (by omega), Bool.false_and]
theorem c_bitMk {n : Nat} (hn : n ≤ 12) {p : Nat → Bool} (K : kk (nI (cnt n p)) h) : MetPM m_J6_bitCount_0f7a4 [.int (mk n p)] h (rI q kk) := c_bitCount (mk_hi hn p) (by rw [cnt_mk hn]; exact K)
theorem abs_apt {c t : Nat} (hc : c < 2 ^ 30) (ht : t < 2 ^ 30) : (if 0 ≤ (nI c - nI t) then (nI c - nI t) else 0 - (nI c - nI t)) = nI (apt t c) := by
  unfold apt
  by_cases e : t ≤ c
  · rw [if_pos e, pk_sub e, if_pos (nI_pos' (by omega))]
  · have e1 := pk_sneg (a := c) (b := t) ht (by omega)
    have e2 : ¬ 0 ≤ nI c - nI t := by
      rw [Int32.le_iff_toInt_le]
      rw [Int32.lt_iff_toInt_lt] at e1
      omega
    rw [if_neg e, if_neg e2, Int32.zero_sub, Int32.neg_sub, pk_sub (by omega)]
theorem c_isReader {a v : Nat} {f : Int32} (ha : a = 15 ∨ a = 30) (R : Rk C E s) (Y : LyR a s h.1) (hv : v < nn (s 0)) (K : kk (b2i (rds s v f)) h) : MetPM m_X5_isReader [.ref a, .int (nI v), .int f] h (rI q kk) := by
  have hv8 := R.v.2
  refine t_X5_isReader ha (br_f (nI_pos (by omega)) ?_)
  rw [show gi h (a + 1) 1 = s 0 from Y.nv, show (nI v).toNatClampNeg = v from nI_clamp (by omega), show gi h (a + 3) v = s (20 + v) from Y.lo v hv, show gi h (a + 4) v = s (28 + v) from Y.hi v hv, R.v.1]
  refine br_f (nI_ge (by omega) (by omega)) ⟨vp_in_nI (by omega) (by omega), ?_⟩
  by_cases e1 : f < s (20 + v)
  · have e2 : rds s v f = false := by simp [rds, Int32.not_le.mpr e1]
    rw [e2] at K
    exact br_t e1 ⟨isB_0, K⟩
  · refine br_f e1 ⟨vp_in_nI (by omega) (by omega), ?_⟩
    by_cases e3 : s (28 + v) < f
    · have e2 : rds s v f = false := by simp [rds, Int32.not_le.mpr e3]
      rw [e2] at K
      exact br_t e3 ⟨isB_0, K⟩
    · have e2 : rds s v f = true := by simp [rds, Int32.not_lt.mp e1, Int32.not_lt.mp e3]
      rw [e2] at K
      exact br_f e3 ⟨isB_1, K⟩
theorem c_talkersOf {a v : Nat} (ha : a = 15 ∨ a = 30) (R : Rk C E s) (Y : LyR a s h.1) (hv : v < nn (s 0)) (K : ∀ x, (∀ i, i < 32 → bt x i = tlk s v i) → kk x h) : MetPM m_X5_talkersOf [.ref a, .int (nI v)] h (rI q kk) := by
  have hv8 := R.v.2
  refine t_X5_talkersOf ha (br_f (nI_pos (by omega)) ?_)
  rw [show gi h (a + 1) 1 = s 0 from Y.nv, show (nI v).toNatClampNeg = v from nI_clamp (by omega), R.v.1]
  exact br_f (nI_ge (by omega) (by omega)) ⟨vp_in_nI (by omega) (by omega), K _ (Y.ta v hv)⟩
theorem l_readersOf {f : Int32} (R : Rk C E s) (Y : LyR 15 s h.1) (K : kk (mk (nn (s 0)) (fun v => rds s v f)) h) : ∀ k i, i + k = nn (s 0) → At m_X5_readersOf (rI q kk) 4 0 [some (.ref 15), some (.int f), some (.int (mk i (fun v => rds s v f))), some (.int (nI i))] [] h := by
  have hv8 := R.v.2
  intro k
  induction k with
  | zero =>
    intro i hi
    refine u_X5_readersOf_4 ?_
    rw [show gi h 16 1 = s 0 from Y.nv, R.v.1]
    refine pk_le (nn (s 0)) i (fun _ => ?_) (fun z => absurd z (by omega))
    have : i = nn (s 0) := by omega
    rw [this]; exact K
  | succ k ih =>
    intro i hi
    refine u_X5_readersOf_4 ?_
    rw [show gi h 16 1 = s 0 from Y.nv, R.v.1]
    refine pk_le (nn (s 0)) i (fun z => absurd z (by omega)) (fun _ => ?_)
    refine c_isReader (Or.inl rfl) R Y (by omega) (bq (fun e => ?_) (fun e => ?_))
    · have ih2 := ih (i + 1) (by omega)
      rw [mk_no (p := fun v => rds s v f) e] at ih2
      rw [nI_add]; exact ih2
    · rw [mk_yes (p := fun v => rds s v f) e, nI_add]; exact ih (i + 1) (by omega)
theorem c_readersOf {f : Int32} (R : Rk C E s) (Y : LyR 15 s h.1) (K : kk (mk (nn (s 0)) (fun v => rds s v f)) h) : MetPM m_X5_readersOf [.ref 15, .int f] h (rI q kk) := t_X5_readersOf (l_readersOf R Y K _ 0 (Nat.zero_add _))
theorem shl_one {n : Nat} (hn : n ≤ 12) : ((nI 1) <<< (nI n &&& 31)) - nI 1 = mk n (fun _ => true) := (by decide +kernel : ∀ n, n < 13 → ((nI 1) <<< (nI n &&& 31)) - nI 1 = mk n (fun _ => true)) n (by omega)
theorem c_everyMember (R : Rk C E s) (Y : LyR 15 s h.1) (K : kk (mk (nn (s 2)) (fun _ => true)) h) : MetPM m_X5_everyMember [.ref 15] h (rI q kk) := by
  refine t_X5_everyMember ?_
  rw [show gi h 26 1 = s 2 from Y.nm, R.m.1, shl_one R.m.2]
  exact K
theorem c_neighboursOf {m : Nat} (R : Rk C E s) (Y : LyR 15 s h.1) (hm : m < nn (s 2)) (K : kk (mk (nn (s 2)) (fun o => decide (mf s o 0 = mf s m 0))) h) : MetPM m_X5_neighboursOf [.ref 15, .int (nI m)] h (rI q kk) := by
  have hm2 := R.m.2
  have hp := R.pl m hm
  have hp5 := R.p.2
  refine t_X5_neighboursOf ⟨vp_in_nI (by omega) (by omega), ?_⟩
  rw [show (nI m).toNatClampNeg = m from nI_clamp (by omega), show gi h 28 m = mf s m 0 from Y.po m hm, show gi h 21 1 = s 1 from Y.np, R.p.1]
  rw [hp.1.1] at K ⊢
  rw [show (nI (nn (mf s m 0))).toNatClampNeg = nn (mf s m 0) from nI_clamp (by have := hp.1.2; omega), show gi h 24 (nn (mf s m 0)) = _ from Y.ps (pN s m) hp.2]
  have h7 := hp.2
  unfold pN at h7
  exact br_f (nI_pos (by omega)) (br_f (nI_ge (by omega) (by omega)) ⟨vp_in_nI (by omega) (by omega), K⟩)
theorem c_waveOf {m : Nat} (R : Rk C E s) (Y : LyR 15 s h.1) (hm : m < nn (s 2)) (K : kk (wvOf s m) h) : MetPM m_X5_waveOf [.ref 15, .int (nI m)] h (rI q kk) := by
  have hm2 := R.m.2
  have hp := R.pl m hm
  have hp5 := R.p.2
  have h7 := hp.2
  unfold pN at h7
  refine t_X5_waveOf ⟨vp_in_nI (by omega) (by omega), ?_⟩
  rw [show (nI m).toNatClampNeg = m from nI_clamp (by omega), show gi h 28 m = mf s m 0 from Y.po m hm, show gi h 21 1 = s 1 from Y.np, R.p.1, hp.1.1]
  rw [show (nI (nn (mf s m 0))).toNatClampNeg = nn (mf s m 0) from nI_clamp (by have := hp.1.2; omega), show gi h 23 (nn (mf s m 0)) = _ from Y.wp (pN s m) hp.2]
  exact br_f (nI_pos (by omega)) (br_f (nI_ge (by omega) (by omega)) ⟨vp_in_nI (by omega) (by omega), K⟩)
theorem c_isUp {a m : Nat} (ha : a = 60 ∨ a = 67) (R : Rk C E s) (S : StR a s h.1) (hm : m < nn (s 2)) (K : kk (b2i (!isD s m)) h) : MetPM m_X8_isUp [.ref a, .int (nI m)] h (rI q kk) := by
  have hm2 := R.m.2
  refine t_X8_isUp ha ⟨vp_in_nI (by omega) (by omega), ?_⟩
  rw [show (nI m).toNatClampNeg = m from nI_clamp (by omega), show gi h (a + 3) m = mf s m 3 from S.un m hm, m1_eq]
  cases e : isD s m
  · rw [e] at K
    have e2 := R.up m hm e
    exact ⟨fun z => absurd e2 z, fun _ => ⟨isB_1, K⟩⟩
  · rw [e] at K
    have e2 : ¬ mf s m 3 = -1 := (R.un m hm e).1.nm1
    exact ⟨fun _ => ⟨isB_0, K⟩, fun z => absurd z e2⟩
end

