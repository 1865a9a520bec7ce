/-! ===== the reference's questions ===== -/
section
variable {q : Nat → PH → Prop} {kk : Int32 → PH → Prop} {h : PH} {s : RW}
theorem rd (hs : h.1 132 = s) (k : Nat) (hk : k < 2 ^ 31) : gi h 132 (nI k).toNatClampNeg = s k := by rw [nI_clamp hk]; exact congrFun hs k
theorem rv {k : Nat} (hk : k < 253) : vp_in (nI k) 253 := vp_in_nI hk (by omega)
theorem mk_f {n : Nat} {p : Nat → Bool} (e : p n = false) : mk n p ||| (nI 0 <<< (nI n &&& 31)) = mk (n + 1) p := by rw [mk, e]; rfl
theorem mk_t {n : Nat} {p : Nat → Bool} (e : p n = true) : mk n p ||| (nI 1 <<< (nI n &&& 31)) = mk (n + 1) p := by rw [mk, e]; rfl
theorem s_truth0 (K : kk (nI 0) h) : MetPM m_X12_truth [.int (nI 0)] h (rI q kk) := t_X12_truth ⟨fun _ => K, fun z => absurd rfl z⟩
theorem s_truth1 (K : kk (nI 1) h) : MetPM m_X12_truth [.int (nI 1)] h (rI q kk) := t_X12_truth ⟨fun z => absurd z (by decide), fun _ => K⟩
theorem s_truth {b : Bool} (K : kk (b2i b) h) : MetPM m_X12_truth [.int (b2i b)] h (rI q kk) := by
  cases b
  · exact s_truth0 K
  · exact s_truth1 K
theorem s_hasBit {x : Int32} {k : Nat} (hk : k < 32) (K : kk (b2i (bt x k)) h) : MetPM m_X12_hasBit [.int x, .int (nI k)] h (rI q kk) := by
  refine t_X12_hasBit ?_
  rw [bit_b2i hk]
  cases e : bt x k
  · rw [e] at K
    exact ⟨fun _ => ⟨isB_0, K⟩, fun z => absurd z (by decide)⟩
  · rw [e] at K
    exact ⟨fun z => absurd rfl z, fun _ => ⟨isB_1, K⟩⟩
theorem s_goes {b : Bool} (K : kk (b2i b) (si h 130 0 (b2i (!b)))) : MetPM m_X12_goes [.ref 130, .int (b2i b)] h (rI q kk) := by
  refine t_X12_goes ?_
  cases b
  · exact ⟨fun z => absurd rfl z, fun _ => s_truth1 ⟨isB_0, K⟩⟩
  · exact ⟨fun _ => s_truth0 ⟨isB_1, K⟩, fun z => absurd z (by decide)⟩
theorem s_goesBoth {a b : Bool} (K : kk (b2i (a && b)) (si h 130 0 (if a = true then (if b = true then nI 0 else nI 2) else nI 1))) : MetPM m_X12_goesBoth [.ref 130, .int (b2i a), .int (b2i b)] h (rI q kk) := by
  refine t_X12_goesBoth ?_
  rw [gi_same, gi_same, gi_same]
  cases a
  · exact ⟨fun z => absurd rfl z, fun _ => ⟨fun _ => ⟨isB_0, K⟩, fun z => absurd z (by decide)⟩⟩
  · cases b
    · exact ⟨fun _ => ⟨fun z => absurd rfl z, fun _ => ⟨fun _ => ⟨isB_0, K⟩, fun z => absurd z (by decide)⟩⟩, fun z => absurd z (by decide)⟩
    · exact ⟨fun _ => ⟨fun _ => ⟨fun z => absurd rfl z, fun _ => ⟨isB_1, K⟩⟩, fun z => absurd z (by decide)⟩, fun z => absurd z (by decide)⟩
theorem lgc_lt {a b : Int64} : lg_cmp a b < 0 ↔ a.toInt < b.toInt := by
  unfold lg_cmp
  by_cases h1 : a > b
  · rw [if_pos h1]
    have h2 : b.toInt < a.toInt := Int64.lt_iff_toInt_lt.mp h1
    exact ⟨fun z => absurd z (by decide), fun z => by omega⟩
  · rw [if_neg h1]
    have h2 : ¬ b.toInt < a.toInt := fun z => h1 (Int64.lt_iff_toInt_lt.mpr z)
    by_cases h3 : a = b
    · subst h3; rw [if_pos rfl]
      exact ⟨fun z => absurd z (by decide), fun z => by omega⟩
    · rw [if_neg h3]
      have h4 : ¬ a.toInt = b.toInt := fun z => h3 (Int64.toInt_inj.mp z)
      exact ⟨fun _ => by omega, fun _ => by decide⟩
theorem lgc_gt {a b : Int64} : 0 < lg_cmp a b ↔ b.toInt < a.toInt := by
  unfold lg_cmp
  by_cases h1 : a > b
  · rw [if_pos h1]
    exact ⟨fun _ => Int64.lt_iff_toInt_lt.mp h1, fun _ => by decide⟩
  · rw [if_neg h1]
    have h2 : ¬ b.toInt < a.toInt := fun z => h1 (Int64.lt_iff_toInt_lt.mpr z)
    by_cases h3 : a = b
    · rw [if_pos h3]
      exact ⟨fun z => absurd z (by decide), fun z => absurd z h2⟩
    · rw [if_neg h3]
      exact ⟨fun z => absurd z (by decide), fun z => absurd z h2⟩
theorem s_isIn {x a b : Int64} (K : kk (b2i (decide (a.toInt ≤ x.toInt) && decide (x.toInt ≤ b.toInt))) h) : MetPM m_X12_isIn [.long x, .long a, .long b] h (rI q kk) := by
  refine t_X12_isIn ?_
  rw [lgc_lt, lgc_gt]
  by_cases h1 : x.toInt < a.toInt
  · rw [decide_eq_false (by omega), Bool.false_and] at K
    exact br_t h1 ⟨isB_0, K⟩
  · by_cases h2 : b.toInt < x.toInt
    · rw [decide_eq_false (p := x.toInt ≤ b.toInt) (by omega), Bool.and_false] at K
      exact br_f h1 (br_t h2 ⟨isB_0, K⟩)
    · rw [decide_eq_true (by omega), decide_eq_true (by omega)] at K
      exact br_f h1 (br_f h2 ⟨isB_1, K⟩)
/-- a number in a range of small bounds -/
theorem s_isInR {x : Int32} {a b : Nat} (ha : a < 2 ^ 31) (hb : b < 2 ^ 31) (K : kk (b2i (inR x a b)) h) : MetPM m_X12_isIn [.long (x.toInt64), .long (lN a), .long (lN b)] h (rI q kk) := by
  refine s_isIn ?_
  rw [lN_toInt ha, lN_toInt hb, Int32.toInt_toInt64]
  exact K
theorem s_isInC {x y : Int32} {n : Nat} (hn : n < 2 ^ 31) (hy : y = nI n) (K : kk (b2i (inR x 0 ((n : Int) - 1))) h) : MetPM m_X12_isIn [.long (x.toInt64), .long (lN 0), .long ((y - (nI 1)).toInt64)] h (rI q kk) := by
  refine s_isIn ?_
  have e : ((y - (nI 1)).toInt64).toInt = (n : Int) - 1 := by
    rw [Int32.toInt_toInt64, hy]
    rcases Nat.eq_zero_or_pos n with z | z
    · subst z; decide
    · rw [pk_sub z, nI_toInt (by omega)]; omega
  rw [e, lN_toInt (by omega), Int32.toInt_toInt64]
  exact K
theorem inR_t {x : Int32} {n : Nat} (hn : n < 2 ^ 31) (e : inR x 0 ((n : Int) - 1) = true) : ∃ j, j < n ∧ x = nI j := by
  simp only [inR, Bool.and_eq_true, decide_eq_true_eq] at e
  refine vp_in_of (vp_in_iff.mpr ⟨e.1, by omega⟩) hn
theorem inR_j {j n : Nat} (hj : j < n) (hn : n < 2 ^ 31) : inR (nI j) 0 ((n : Int) - 1) = true := by
  simp only [inR, Bool.and_eq_true, decide_eq_true_eq]
  rw [nI_toInt (by omega)]
  omega
theorem s_isVersion (hs : h.1 132 = s) (hv : isN (s 0) 8) {x : Int32} (K : kk (b2i (inR x 0 ((nn (s 0) : Int) - 1))) h) : MetPM m_X12_isVersion [.ref 130, .int x] h (rI q kk) := by
  refine t_X12_isVersion ⟨rv (by omega), ?_⟩
  rw [rd hs 0 (by omega)]
  exact s_isInC (n := nn (s 0)) (by have := hv.2; omega) hv.1 ⟨isB_b2i _, K⟩
theorem s_isPlace (hs : h.1 132 = s) (hv : isN (s 1) 5) {x : Int32} (K : kk (b2i (inR x 0 ((nn (s 1) : Int) - 1))) h) : MetPM m_X12_isPlace [.ref 130, .int x] h (rI q kk) := by
  refine t_X12_isPlace ⟨rv (by omega), ?_⟩
  rw [rd hs 1 (by omega)]
  exact s_isInC (n := nn (s 1)) (by have := hv.2; omega) hv.1 ⟨isB_b2i _, K⟩
theorem s_isMember (hs : h.1 132 = s) (hv : isN (s 2) 12) {x : Int32} (K : kk (b2i (inR x 0 ((nn (s 2) : Int) - 1))) h) : MetPM m_X12_isMember [.ref 130, .int x] h (rI q kk) := by
  refine t_X12_isMember ⟨rv (by omega), ?_⟩
  rw [rd hs 2 (by omega)]
  exact s_isInC (n := nn (s 2)) (by have := hv.2; omega) hv.1 ⟨isB_b2i _, K⟩
theorem ix_of (m w : Nat) : ((nI 49) + ((nI 7) * nI m)) + nI w = nI (49 + 7 * m + w) := by rw [pk_mul, nI_add, nI_add]
theorem s_of {m w : Nat} (hs : h.1 132 = s) (hi : 49 + 7 * m + w < 253) (K : kk (mf s m w) h) : MetPM m_X12_of [.ref 130, .int (nI m), .int (nI w)] h (rI q kk) := by
  refine t_X12_of ?_
  rw [ix_of, rd hs _ (by omega)]
  exact ⟨rv hi, K⟩
theorem s_isDown {m : Nat} (hs : h.1 132 = s) (hm : m < 12) (K : kk (b2i (isD s m)) h) : MetPM m_X12_isDown [.ref 130, .int (nI m)] h (rI q kk) := by
  refine t_X12_isDown (s_of hs (by omega) ?_)
  rw [m1_eq]
  by_cases e : mf s m 2 = -1
  · have e2 : isD s m = false := by simp [isD, e]
    rw [e2] at K
    exact br_t e ⟨isB_0, K⟩
  · have e2 : isD s m = true := by simp [isD, e]
    rw [e2] at K
    exact br_f e ⟨isB_1, K⟩
theorem s_coming {m : Nat} (hs : h.1 132 = s) (hm : m < 12) (K : kk (com s m) h) : MetPM m_X12_coming [.ref 130, .int (nI m)] h (rI q kk) := by
  refine t_X12_coming (s_isDown hs hm ?_)
  refine bq (fun e => s_of hs (by omega) ?_) (fun e => s_of hs (by omega) ?_)
  · unfold com at K; rw [e] at K; exact K
  · unfold com at K; rw [e] at K; exact K
theorem Rk.co {C E : Nat} (R : Rk C E s) {m : Nat} (hm : m < nn (s 2)) : isN (com s m) 7 ∧ cN s m < nn (s 0) := by
  unfold cN com
  cases e : isD s m
  · exact R.ve m hm
  · exact R.nx m hm e
theorem s_comN {C E : Nat} (R : Rk C E s) {m : Nat} (hs : h.1 132 = s) (hm : m < nn (s 2)) (K : kk (nI (cN s m)) h) : MetPM m_X12_coming [.ref 130, .int (nI m)] h (rI q kk) := by
  refine s_coming hs (by have := R.m.2; omega) ?_
  rw [(R.co hm).1.1]
  exact K
theorem s_talk {a b : Nat} (hs : h.1 132 = s) (ha : a < 32) (hb : b < 32) (K : kk (b2i (tlk s a b)) h) : MetPM m_X12_talk [.ref 130, .int (nI a), .int (nI b)] h (rI q kk) := by
  refine t_X12_talk ?_
  refine pk_eq a b (fun e => ⟨isB_1, ?_⟩) (fun e => ?_)
  · have e2 : tlk s a b = true := by simp [tlk, e]
    rw [e2] at K; exact K
  · rw [nI_add, rd hs _ (by omega)]
    refine ⟨rv (by omega), s_hasBit hb ?_⟩
    have e2 : tlk s a b = bt (s (36 + a)) b := by simp [tlk, e]
    rw [e2] at K
    refine bq (fun e3 => ⟨isB_0, ?_⟩) (fun e3 => ⟨isB_1, ?_⟩)
    · rw [e3] at K; exact K
    · rw [e3] at K; exact K
theorem toInt_leI {a b : Int32} : a.toInt ≤ b.toInt ↔ a ≤ b := (Int32.le_iff_toInt_le).symm
theorem s_reads {v : Nat} {f : Int32} (hs : h.1 132 = s) (hv : v < 100) (K : kk (b2i (rds s v f)) h) : MetPM m_X12_reads [.ref 130, .int (nI v), .int f] h (rI q kk) := by
  refine t_X12_reads ?_
  rw [nI_add, nI_add, rd hs _ (by omega), rd hs _ (by omega)]
  refine ⟨rv (by omega), rv (by omega), s_isIn ⟨isB_b2i _, ?_⟩⟩
  simp only [Int32.toInt_toInt64, toInt_leI]
  exact K
theorem s_apart {a b : Nat} (ha : a < 2 ^ 31) (hb : b < 2 ^ 31) (K : kk (nI (apt a b)) h) : MetPM m_X12_apart [.int (nI a), .int (nI b)] h (rI q kk) := by
  refine t_X12_apart ?_
  unfold apt at K
  refine pk_le a b (fun e => ?_) (fun e => ?_)
  · rw [if_pos e] at K
    rw [pk_sub e]; exact K
  · rw [if_neg (by omega)] at K
    rw [pk_sub (by omega)]; exact K
theorem s_arePartners {a b : Nat} (hs : h.1 132 = s) (ha : a < 12) (hb : b < 12) (K : kk (b2i (par s a b)) h) : MetPM m_X12_arePartners [.ref 130, .int (nI a), .int (nI b)] h (rI q kk) := by
  refine t_X12_arePartners ?_
  refine pk_eq a b (fun e => ⟨isB_0, ?_⟩) (fun e => ?_)
  · have e2 : par s a b = false := by simp [par, e]
    rw [e2] at K; exact K
  · refine s_of hs (by omega) (s_of hs (by omega) (cq (fun e1 => ⟨isB_1, ?_⟩) (fun e1 => ?_)))
    · have e2 : par s a b = true := by simp [par, e, e1]
      rw [e2] at K; exact K
    · refine s_of hs (by omega) (s_hasBit (by omega) ?_)
      have e2 : par s a b = bt (mf s a 6) b := by simp [par, e, e1]
      rw [e2] at K
      refine bq (fun e3 => ⟨isB_0, ?_⟩) (fun e3 => ⟨isB_1, ?_⟩)
      · rw [e3] at K; exact K
      · rw [e3] at K; exact K
theorem s_isUpWith {C E : Nat} (R : Rk C E s) {m v : Nat} (hs : h.1 132 = s) (hm : m < nn (s 2)) (hv : v < 2 ^ 31) (K : kk (b2i (upW s v m)) h) : MetPM m_X12_isUpWith [.ref 130, .int (nI m), .int (nI v)] h (rI q kk) := by
  have hm2 := R.m.2
  refine t_X12_isUpWith (s_isDown hs (by omega) ?_)
  refine bp (fun e => s_of hs (by omega) ?_) (fun e => ⟨isB_0, ?_⟩)
  · rw [(R.ve m hm).1.1]
    have h7 := (R.ve m hm).1.2
    have e9 := pk_eq (A := isB (nI 1) ∧ kk (nI 1) h) (B := isB (nI 0) ∧ kk (nI 0) h) (x := nI (nn (mf s m 1))) (y := nI v) (nn (mf s m 1)) v (fun e1 => ⟨isB_1, by
      have e2 : upW s v m = true := by simp [upW, e, vN, e1]
      rw [e2] at K; exact K⟩) (fun e1 => ⟨isB_0, by
      have e2 : upW s v m = false := by simp [upW, e, vN, e1]
      rw [e2] at K; exact K⟩)
    exact ⟨e9.2, e9.1⟩
  · have e2 : upW s v m = false := by simp [upW, e]
    rw [e2] at K; exact K
theorem l_downIn {C E : Nat} (R : Rk C E s) (hs : h.1 132 = s) {p : Int32} (K : kk (mk (nn (s 2)) (dnIn s p)) h) : ∀ k i, i + k = nn (s 2) → At m_X12_downIn (rI q kk) 4 0 [some (.ref 130), some (.int p), some (.int (mk i (dnIn s p))), some (.int (nI i))] [] h := by
  have hm2 := R.m.2
  intro k
  induction k with
  | zero =>
    intro i hi
    refine u_X12_downIn_4 ⟨rv (by omega), ?_⟩
    rw [rd hs 2 (by omega), R.m.1]
    refine pk_le (nn (s 2)) i (fun _ => ?_) (fun z => absurd z (by omega))
    have : i = nn (s 2) := by omega
    rw [this]; exact K
  | succ k ih =>
    intro i hi
    refine u_X12_downIn_4 ⟨rv (by omega), ?_⟩
    rw [rd hs 2 (by omega), R.m.1]
    refine pk_le (nn (s 2)) i (fun z => absurd z (by omega)) (fun _ => ?_)
    refine s_of hs (by omega) ⟨fun e => s_truth0 ?_, fun e => s_isDown hs (by omega) (bq (fun e2 => s_truth0 ?_) (fun e2 => s_truth1 ?_))⟩
    · rw [mk_f (by simp [dnIn, e]), nI_add]; exact ih (i + 1) (by omega)
    · rw [mk_f (by simp [dnIn, e2]), nI_add]; exact ih (i + 1) (by omega)
    · rw [mk_t (by simp [dnIn, e, e2]), nI_add]; exact ih (i + 1) (by omega)
theorem s_downIn {C E : Nat} (R : Rk C E s) (hs : h.1 132 = s) {p : Int32} (K : kk (mk (nn (s 2)) (dnIn s p)) h) : MetPM m_X12_downIn [.ref 130, .int p] h (rI q kk) := t_X12_downIn (l_downIn R hs K _ 0 (Nat.zero_add _))
theorem l_ones {x : Int32} (K : kk (nI (cnt 12 (bt x))) h) : ∀ k i, i + k = 12 → At m_X12_ones (rI q kk) 4 0 [some (.int x), some (.int (nI (cnt i (bt x)))), some (.int (nI i))] [] h := by
  intro k
  induction k with
  | zero =>
    intro i hi
    refine u_X12_ones_4 (pk_le 12 i (fun _ => ?_) (fun z => absurd z (by omega)))
    have : i = 12 := by omega
    rw [this]; exact K
  | succ k ih =>
    intro i hi
    refine u_X12_ones_4 (pk_le 12 i (fun z => absurd z (by omega)) (fun _ => ?_))
    rw [bit_b2i (by omega), nI_b2i, nI_add]
    exact ih (i + 1) (by omega)
theorem s_ones {x : Int32} (K : kk (nI (cnt 12 (bt x))) h) : MetPM m_X12_ones [.int x] h (rI q kk) := t_X12_ones (l_ones K _ 0 (Nat.zero_add _))
theorem anyN_s {n : Nat} {p : Nat → Bool} : anyN (n + 1) p = (anyN n p || p n) := rfl
theorem allN_s {n : Nat} {p : Nat → Bool} : allN (n + 1) p = (allN n p && p n) := rfl
theorem l_isTooFar {C E : Nat} (R : Rk C E s) (hs : h.1 132 = s) {m v : Nat} (hm : m < 12) (hv : v < 100) (K : kk (b2i (farM s m v)) h) : ∀ k i, i + k = nn (s 2) → At m_X12_isTooFar (rI q kk) 5 0 [some (.ref 130), some (.int (nI m)), some (.int (nI v)), some (.int (b2i (anyN i (fun o => !decide (o = m) && decide (nn (s 6) < apt v (cN s o)))))), some (.int (nI i))] [] h := by
  have hm2 := R.m.2
  intro k
  induction k with
  | zero =>
    intro i hi
    refine u_X12_isTooFar_5 ⟨rv (by omega), ?_⟩
    rw [rd hs 2 (by omega), R.m.1]
    refine pk_le (nn (s 2)) i (fun _ => ⟨isB_b2i _, ?_⟩) (fun z => absurd z (by omega))
    have : i = nn (s 2) := by omega
    rw [this]; exact K
  | succ k ih =>
    intro i hi
    refine u_X12_isTooFar_5 ⟨rv (by omega), ?_⟩
    rw [rd hs 2 (by omega), R.m.1]
    refine pk_le (nn (s 2)) i (fun z => absurd z (by omega)) (fun _ => ?_)
    have ih2 := ih (i + 1) (by omega)
    rw [anyN_s] at ih2
    refine bp (fun e => ?_) (fun e => ?_)
    · rw [e, Bool.false_or] at ih2
      refine pk_eq i m (fun e1 => ?_) (fun e1 => ?_)
      · rw [decide_eq_true e1] at ih2
        rw [nI_add]; exact ih2
      · rw [decide_eq_false e1] at ih2
        refine s_comN R hs (by omega) (s_apart (by omega) (by have := (R.co (m := i) (by omega)).2; have := R.v.2; omega) ⟨rv (by omega), ?_⟩)
        rw [rd hs 6 (by omega), R.sk.1, nI_add]
        have h7 := R.sk.2
        have h8 := (R.co (m := i) (by omega)).2
        have h9 := R.v.2
        have h10 : apt v (cN s i) < 200 := by unfold apt; split <;> omega
        refine pk_le (apt v (cN s i)) (nn (s 6)) (fun e2 => ?_) (fun e2 => ?_)
        · rw [decide_eq_false (p := nn (s 6) < apt v (cN s i)) (by omega)] at ih2; exact ih2
        · rw [decide_eq_true (p := nn (s 6) < apt v (cN s i)) e2] at ih2; exact ih2
    · rw [e, Bool.true_or] at ih2
      rw [nI_add]; exact ih2
theorem s_isTooFar {C E : Nat} (R : Rk C E s) (hs : h.1 132 = s) {m v : Nat} (hm : m < 12) (hv : v < 100) (K : kk (b2i (farM s m v)) h) : MetPM m_X12_isTooFar [.ref 130, .int (nI m), .int (nI v)] h (rI q kk) := t_X12_isTooFar (l_isTooFar R hs hm hv K _ 0 (Nat.zero_add _))
theorem l_silent {C E : Nat} (R : Rk C E s) (hs : h.1 132 = s) {m v : Nat} (hm : m < 12) (hv : v < 32) (K : kk (mk (nn (s 2)) (slnt s m v)) h) : ∀ k i, i + k = nn (s 2) → At m_X12_silent (rI q kk) 5 0 [some (.ref 130), some (.int (nI m)), some (.int (nI v)), some (.int (mk i (slnt s m v))), some (.int (nI i))] [] h := by
  have hm2 := R.m.2
  intro k
  induction k with
  | zero =>
    intro i hi
    refine u_X12_silent_5 ⟨rv (by omega), ?_⟩
    rw [rd hs 2 (by omega), R.m.1]
    refine pk_le (nn (s 2)) i (fun _ => ?_) (fun z => absurd z (by omega))
    have : i = nn (s 2) := by omega
    rw [this]; exact K
  | succ k ih =>
    intro i hi
    refine u_X12_silent_5 ⟨rv (by omega), ?_⟩
    rw [rd hs 2 (by omega), R.m.1]
    refine pk_le (nn (s 2)) i (fun z => absurd z (by omega)) (fun _ => ?_)
    refine s_arePartners hs hm (by omega) (bq (fun e => s_truth0 ?_) (fun e => s_comN R hs (by omega) (s_talk hs hv (by have := (R.co (m := i) (by omega)).2; have := R.v.2; omega) (bp (fun e2 => s_truth1 ?_) (fun e2 => s_truth0 ?_)))))
    · rw [mk_f (by simp [slnt, e]), nI_add]; exact ih (i + 1) (by omega)
    · rw [mk_t (by simp [slnt, e, e2]), nI_add]; exact ih (i + 1) (by omega)
    · rw [mk_f (by simp [slnt, e2]), nI_add]; exact ih (i + 1) (by omega)
theorem s_silent {C E : Nat} (R : Rk C E s) (hs : h.1 132 = s) {m v : Nat} (hm : m < 12) (hv : v < 32) (K : kk (mk (nn (s 2)) (slnt s m v)) h) : MetPM m_X12_silent [.ref 130, .int (nI m), .int (nI v)] h (rI q kk) := t_X12_silent (l_silent R hs hm hv K _ 0 (Nat.zero_add _))
theorem s_why {C E : Nat} (R : Rk C E s) (hs : h.1 132 = s) {m v : Nat} (hm : m < nn (s 2)) (hv : v < 32) (K : kk (nI (whyN s m v)) h) : MetPM m_X12_why [.ref 130, .int (nI m), .int (nI v)] h (rI q kk) := by
  have hm2 := R.m.2
  unfold whyN at K
  refine t_X12_why (s_of hs (by omega) ⟨fun e => ?_, fun e => ?_⟩)
  · rw [if_neg e] at K
    refine s_isDown hs (by omega) (bq (fun e1 => ?_) (fun e1 => ?_))
    · rw [if_neg (by rw [e1]; decide)] at K
      refine s_of hs (by omega) ?_
      have hvm := R.ve m hm
      rw [hvm.1.1]
      have h7 := hvm.1.2
      have e9 := pk_eq (x := nI (nn (mf s m 1))) (y := nI v) (A := kk (nI 3) h) (B := ¬ vN s m = v) (nn (mf s m 1)) v (fun e2 => by rw [if_pos (show vN s m = v from e2)] at K; exact K) (fun e2 => e2)
      refine ⟨fun e2 => ?_, e9.1⟩
      rw [if_neg (e9.2 e2)] at K
      refine ⟨rv (by omega), ?_⟩
      rw [rd hs 5 (by omega)]
      refine s_reads hs (by omega) (bp (fun e3 => ?_) (fun e3 => ?_))
      · rw [if_pos e3] at K; exact K
      · rw [if_neg (by rw [e3]; decide)] at K
        refine s_of hs (by omega) (s_downIn R hs (s_ones ⟨rv (by omega), ?_⟩))
        rw [rd hs 7 (by omega), R.dn.1, cnt_mk hm2]
        have h8 := cnt_le (dnIn s (mf s m 0)) (nn (s 2))
        have h9 := R.dn.2
        refine pk_lt _ _ (fun e4 => ?_) (fun e4 => ?_)
        · rw [if_neg (by omega)] at K
          refine s_isTooFar R hs (by omega) (by omega) (bq (fun e5 => ?_) (fun e5 => ?_))
          · rw [if_neg (by rw [e5]; decide)] at K
            refine s_silent R hs (by omega) hv ?_
            refine cq (fun e6 => ?_) (fun e6 => ?_)
            · rw [mk_z (by omega)] at e6
              rw [if_neg (by rw [e6]; decide)] at K; exact K
            · rw [mk_z (by omega)] at e6
              have e7 : anyN (nn (s 2)) (slnt s m v) = true := by
                cases q9 : anyN (nn (s 2)) (slnt s m v)
                · exact absurd q9 e6
                · rfl
              rw [if_pos e7] at K; exact K
          · rw [if_pos e5] at K; exact K
        · rw [if_pos e4] at K; exact K
    · rw [if_pos e1] at K; exact K
  · rw [if_pos e] at K; exact K
end
