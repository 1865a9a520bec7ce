/-! ===== ways: walks, the class's widening sets, the reference's table ===== -/
section
variable {q : Nat → PH → Prop} {kk : Int32 → PH → Prop} {kv : PH → Prop} {h : PH} {s : RW} {C E : Nat} {a : Nat}
/-- a walk of d changes -/
def wlk (s : RW) : Nat → Nat → Nat → Bool
  | 0, x, y => decide (x = y)
  | d + 1, x, y => anyN (nn (s 0)) (fun c => folw s x c && wlk s d c y)
def rch (s : RW) (x k v : Nat) : Bool := anyN (k + 1) (fun d => wlk s d x v)
/-- the first of n that is so, one more; 0: none -/
def fst1 : Nat → (Nat → Bool) → Nat
  | 0, _ => 0
  | n + 1, p => if fst1 n p = 0 then (if p n = true then n + 1 else 0) else fst1 n p
theorem fst1_no {p : Nat → Bool} : ∀ {n}, (∀ j, j < n → p j = false) → fst1 n p = 0
  | 0, _ => rfl
  | n + 1, h => by
    unfold fst1
    rw [fst1_no (n := n) (fun j hj => h j (by omega)), if_pos rfl, if_neg (by rw [h n (by omega)]; decide)]
theorem fst1_yes {p : Nat → Bool} {k : Nat} (hk : p k = true) (hn : ∀ j, j < k → p j = false) : ∀ {n}, k < n → fst1 n p = k + 1
  | 0, h => by omega
  | n + 1, h => by
    unfold fst1
    by_cases c : k < n
    · rw [fst1_yes hk hn c, if_neg (by omega)]
    · have : n = k := by omega
      subst this
      rw [fst1_no hn, if_pos rfl, if_pos hk]
theorem fst1_le {p : Nat → Bool} : ∀ {n}, fst1 n p ≤ n
  | 0 => Nat.le_refl _
  | n + 1 => by
    have := fst1_le (p := p) (n := n)
    unfold fst1
    split
    · split <;> omega
    · omega
theorem fst1_in {p : Nat → Bool} {k : Nat} : ∀ {n}, fst1 n p = k + 1 → k < n ∧ p k = true
  | 0, h => by cases h
  | n + 1, h => by
    unfold fst1 at h
    split at h
    · split at h
      · rename_i c
        have : n = k := by omega
        subst this
        exact ⟨by omega, c⟩
      · omega
    · have := fst1_in (n := n) h
      exact ⟨by omega, this.2⟩
def wayN (s : RW) (x y : Nat) : Nat := fst1 (nn (s 0)) (fun d => wlk s d x y)
theorem wlk_s {d x y : Nat} : wlk s (d + 1) x y = true ↔ ∃ c, c < nn (s 0) ∧ folw s x c = true ∧ wlk s d c y = true := by
  show anyN (nn (s 0)) (fun c => folw s x c && wlk s d c y) = true ↔ _
  rw [anyN_iff]
  constructor
  · rintro ⟨c, hc, h⟩
    rw [Bool.and_eq_true] at h
    exact ⟨c, hc, h.1, h.2⟩
  · rintro ⟨c, hc, h1, h2⟩
    exact ⟨c, hc, by rw [h1, h2]; rfl⟩
theorem wlk_r {d : Nat} : ∀ {x y : Nat}, x < nn (s 0) → y < nn (s 0) → (wlk s (d + 1) x y = true ↔ ∃ c, c < nn (s 0) ∧ wlk s d x c = true ∧ folw s c y = true) := by
  induction d with
  | zero =>
    intro x y hx hy
    rw [wlk_s]
    constructor
    · rintro ⟨c, hc, h1, h2⟩
      have : c = y := of_decide_eq_true h2
      subst this
      exact ⟨x, hx, decide_eq_true rfl, h1⟩
    · rintro ⟨c, hc, h1, h2⟩
      have : x = c := of_decide_eq_true h1
      subst this
      exact ⟨y, hy, h2, decide_eq_true rfl⟩
  | succ d ih =>
    intro x y hx hy
    rw [wlk_s]
    constructor
    · rintro ⟨c, hc, h1, h2⟩
      obtain ⟨e, he, h3, h4⟩ := (ih hc hy).mp h2
      exact ⟨e, he, wlk_s.mpr ⟨c, hc, h1, h3⟩, h4⟩
    · rintro ⟨e, he, h1, h2⟩
      obtain ⟨c, hc, h3, h4⟩ := wlk_s.mp h1
      exact ⟨c, hc, h3, (ih hc hy).mpr ⟨e, he, h4, h2⟩⟩
theorem rch_iff {x k v : Nat} : rch s x k v = true ↔ ∃ d, d < k + 1 ∧ wlk s d x v = true := anyN_iff
theorem rch_step {x k v : Nat} (hx : x < nn (s 0)) (hv : v < nn (s 0)) : rch s x (k + 1) v = (rch s x k v || anyN (nn (s 0)) (fun e => rch s x k e && folw s e v)) := by
  apply Bool.eq_iff_iff.mpr
  rw [Bool.or_eq_true, rch_iff, rch_iff, anyN_iff]
  constructor
  · rintro ⟨d, hd, h⟩
    by_cases c : d < k + 1
    · exact Or.inl ⟨d, c, h⟩
    · have : d = k + 1 := by omega
      subst this
      obtain ⟨e, he, h1, h2⟩ := (wlk_r hx hv).mp h
      refine Or.inr ⟨e, he, ?_⟩
      rw [Bool.and_eq_true]
      exact ⟨rch_iff.mpr ⟨k, by omega, h1⟩, h2⟩
  · rintro (⟨d, hd, h⟩ | ⟨e, he, h⟩)
    · exact ⟨d, by omega, h⟩
    · rw [Bool.and_eq_true] at h
      obtain ⟨d, hd, h1⟩ := rch_iff.mp h.1
      exact ⟨d + 1, by omega, (wlk_r hx hv).mpr ⟨e, he, h1, h.2⟩⟩
theorem cnt_lt {p r : Nat → Bool} : ∀ {n}, (∀ i, i < n → p i = true → r i = true) → (∃ v, v < n ∧ p v = false ∧ r v = true) → cnt n p < cnt n r
  | 0, _, h => by obtain ⟨v, hv, _⟩ := h; omega
  | n + 1, h, ⟨v, hv, h1, h2⟩ => by
    have mono : ∀ m, m ≤ n → cnt m p ≤ cnt m r := by
      intro m
      induction m with
      | zero => intro _; exact Nat.le_refl _
      | succ m ih =>
        intro hm
        have := ih (by omega)
        rw [cnt, cnt]
        cases e : p m
        · cases r m <;> simp <;> omega
        · rw [h m (by omega) e]; omega
    by_cases c : v = n
    · subst c
      rw [cnt, cnt, h1, h2]
      have := mono v (Nat.le_refl _)
      show cnt v p + 0 < cnt v r + 1
      omega
    · have ih := cnt_lt (p := p) (r := r) (n := n) (fun i hi => h i (by omega)) ⟨v, by omega, h1, h2⟩
      rw [cnt, cnt]
      cases e : p n
      · cases r n <;> simp <;> omega
      · rw [h n (by omega) e]; omega
/-- a set that a step leaves is left by all -/
theorem rch_stab {x k : Nat} (hx : x < nn (s 0)) (h : ∀ v, v < nn (s 0) → rch s x (k + 1) v = rch s x k v) : ∀ m, ∀ v, v < nn (s 0) → rch s x (k + m) v = rch s x k v := by
  intro m
  induction m with
  | zero => intro v _; rfl
  | succ m ih =>
    intro v hv
    rw [← h v hv, show k + (m + 1) = k + m + 1 by omega, rch_step hx hv, rch_step hx hv, ih v hv]
    congr 1
    exact anyN_eq fun e he => by rw [ih e he]
theorem rch_grow {x : Nat} (hx : x < nn (s 0)) : ∀ k, (∃ j, j < k ∧ ∀ v, v < nn (s 0) → rch s x (j + 1) v = rch s x j v) ∨ k + 1 ≤ cnt (nn (s 0)) (rch s x k)
  | 0 => by
    refine Or.inr ?_
    have := cnt_lt (p := fun _ => false) (r := rch s x 0) (n := nn (s 0)) (fun _ _ z => by cases z) ⟨x, hx, rfl, rch_iff.mpr ⟨0, by omega, decide_eq_true rfl⟩⟩
    omega
  | k + 1 => by
    rcases rch_grow hx k with ⟨j, hj, h⟩ | h
    · exact Or.inl ⟨j, by omega, h⟩
    · by_cases c : ∀ v, v < nn (s 0) → rch s x (k + 1) v = rch s x k v
      · exact Or.inl ⟨k, by omega, c⟩
      · refine Or.inr ?_
        have up : ∀ v, v < nn (s 0) → rch s x k v = true → rch s x (k + 1) v = true := fun v hv z => by rw [rch_step hx hv, z]; rfl
        have : ∃ v, v < nn (s 0) ∧ rch s x k v = false ∧ rch s x (k + 1) v = true := by
          apply Classical.byContradiction
          intro hn
          apply c
          intro v hv
          cases e : rch s x k v
          · cases e2 : rch s x (k + 1) v
            · rfl
            · exact absurd ⟨v, hv, e, e2⟩ hn
          · rw [up v hv e]
        have := cnt_lt up this
        omega
/-- who can be reached is reached with fewer changes than there are versions -/
theorem wlk_short {d x y : Nat} (hx : x < nn (s 0)) (hy : y < nn (s 0)) (h : wlk s d x y = true) : ∃ d', d' < nn (s 0) ∧ wlk s d' x y = true := by
  rcases rch_grow hx (nn (s 0)) with ⟨j, hj, hs⟩ | c
  · by_cases c : d < nn (s 0)
    · exact ⟨d, c, h⟩
    · have e := rch_stab hx hs (d - j) y hy
      rw [show j + (d - j) = d by omega] at e
      have : rch s x d y = true := rch_iff.mpr ⟨d, by omega, h⟩
      rw [this] at e
      obtain ⟨d', hd, h2⟩ := rch_iff.mp e.symm
      exact ⟨d', by omega, h2⟩
  · have := cnt_le (rch s x (nn (s 0))) (nn (s 0))
    omega
/-! the class -/
theorem nv_le {i : Nat} {A B : Prop} (R : Rk C E s) (Y : LyR 15 s h.1) (f : i = nn (s 0) → A) (g : i < nn (s 0) → B) (hi : i ≤ nn (s 0)) : ((gi h 16 1) ≤ nI i → A) ∧ (¬ (gi h 16 1) ≤ nI i → B) := by
  have hv := R.v.2
  rw [show gi h 16 1 = s 0 from Y.nv, R.v.1]
  exact pk_le (nn (s 0)) i (fun z => f (by omega)) (fun z => g (by omega))
theorem l_nextVersions {v : Nat} (ha : a = 60 ∨ a = 67) (R : Rk C E s) (X : CR a s h) (hv : v < nn (s 0)) (K : kk (mk (nn (s 0)) (folw s v)) h) : ∀ k i, i + k = nn (s 0) → At m_X8_nextVersions (rI q kk) 29 0 [some (.ref a), some (.int (nI v)), some (.int (mk (nn (s 0)) (fun b => (rds s b (s 5) && (tlk s v b && !decide (b = v))) && (!decide (b < i) || decide (apt v b ≤ nn (s 6)))))), some (.int (nI i))] [] h := by
  have hv8 := R.v.2
  have hsk := R.sk.2
  intro k
  induction k with
  | zero =>
    intro i hi
    refine u_X8_nextVersions_29 ha (nv_le R X.1 (fun z => ?_) (fun z => absurd z (by omega)) (by omega))
    have e : mk (nn (s 0)) (fun b => (rds s b (s 5) && (tlk s v b && !decide (b = v))) && (!decide (b < i) || decide (apt v b ≤ nn (s 6)))) = mk (nn (s 0)) (folw s v) := mk_eq fun b hb => by
      unfold folw
      rw [decide_eq_true (show b < i by omega)]
      by_cases c : b = v
      · subst c; simp
      · have c2 : ¬ v = b := fun z => c z.symm
        rw [decide_eq_false c, decide_eq_false c2]
        cases rds s b (s 5) <;> cases tlk s v b <;> simp
    rw [e]; exact K
  | succ k ih =>
    intro i hi
    refine u_X8_nextVersions_29 ha (nv_le R X.1 (fun z => absurd z (by omega)) (fun z => ?_) (by omega))
    have ih2 := ih (i + 1) (by omega)
    have ha8 : apt v i < 16 := by unfold apt; split <;> omega
    rw [abs_apt (c := i) (t := v) (by omega) (by omega), show gi h 15 13 = nI (nn (s 6)) from X.1.sk.trans R.sk.1, nI_add]
    refine pk_le (apt v i) (nn (s 6)) (fun c => ?_) (fun c => ?_)
    · have e : mk (nn (s 0)) (fun b => (rds s b (s 5) && (tlk s v b && !decide (b = v))) && (!decide (b < i) || decide (apt v b ≤ nn (s 6)))) = mk (nn (s 0)) (fun b => (rds s b (s 5) && (tlk s v b && !decide (b = v))) && (!decide (b < i + 1) || decide (apt v b ≤ nn (s 6)))) := mk_eq fun b hb => by
        by_cases q1 : b = i
        · subst q1; rw [decide_eq_true c]; simp
        · have : (b < i) = (b < i + 1) := by apply propext; omega
          simp only [this]
      rw [e]; exact ih2
    · rw [mk_clr (by omega) (by omega)]
      have e : mk (nn (s 0)) (fun b => ((rds s b (s 5) && (tlk s v b && !decide (b = v))) && (!decide (b < i) || decide (apt v b ≤ nn (s 6)))) && !decide (b = i)) = mk (nn (s 0)) (fun b => (rds s b (s 5) && (tlk s v b && !decide (b = v))) && (!decide (b < i + 1) || decide (apt v b ≤ nn (s 6)))) := mk_eq fun b hb => by
        by_cases q1 : b = i
        · subst q1; simp; omega
        · have : (b < i) = (b < i + 1) := by apply propext; omega
          simp [this, q1]
      rw [e]; exact ih2
theorem c_nextVersions {v : Nat} (ha : a = 60 ∨ a = 67) (R : Rk C E s) (X : CR a s h) (hv : v < nn (s 0)) (K : kk (mk (nn (s 0)) (folw s v)) h) : MetPM m_X8_nextVersions [.ref a, .int (nI v)] h (rI q kk) := by
  have hv8 := R.v.2
  refine t_X8_nextVersions ha ?_
  rw [show gi h a 2 = s 5 from X.2.fo]
  refine c_readersOf R X.1 (c_talkersOf (Or.inl rfl) R X.1 hv (fun x hx => ?_))
  have e : (mk (nn (s 0)) (fun v => rds s v (s 5)) &&& x) &&& (((nI 1) <<< (nI v &&& 31)) ^^^ (-(nI 1))) = mk (nn (s 0)) (fun b => (rds s b (s 5) && (tlk s v b && !decide (b = v))) && (!decide (b < 0) || decide (apt v b ≤ nn (s 6)))) := mk_of (by omega) fun i hi => by
    rw [b_and, b_and, bt_mk _ _ (by omega) i hi, hx i hi, bt_not _ hi, bt_one (by omega) hi]
    by_cases c : i < nn (s 0)
    · simp [c, Bool.and_assoc]
    · simp [c]
  rw [e]
  exact l_nextVersions ha R X hv K _ 0 (Nat.zero_add _)
theorem l_cow_in {x y n : Nat} {kx : Int32} (ha : a = 60 ∨ a = 67) (R : Rk C E s) (X : CR a s h) (hx : x < nn (s 0))
    (K : ∀ o5 o6, At m_X8_changesOnWay (rI q kk) 7 0 [some (.ref a), some (.int (nI x)), some (.int (nI y)), some (.int (mk (nn (s 0)) (rch s x (n + 1)))), some (.int (kx + nI 1)), o5, o6] [] h) :
    ∀ k i, i + k = nn (s 0) → At m_X8_changesOnWay (rI q kk) 39 0 [some (.ref a), some (.int (nI x)), some (.int (nI y)), some (.int (mk (nn (s 0)) (rch s x n))), some (.int kx), some (.int (mk (nn (s 0)) (fun v => rch s x n v || anyN i (fun e => rch s x n e && folw s e v)))), some (.int (nI i))] [] h := by
  have hv8 := R.v.2
  intro k
  induction k with
  | zero =>
    intro i hi
    refine u_X8_changesOnWay_39 ha (nv_le R X.1 (fun z => ?_) (fun z => absurd z (by omega)) (by omega))
    subst z
    have e : mk (nn (s 0)) (fun v => rch s x n v || anyN (nn (s 0)) (fun e => rch s x n e && folw s e v)) = mk (nn (s 0)) (rch s x (n + 1)) := mk_eq fun v hv => (rch_step hx hv).symm
    rw [e]; exact K _ _
  | succ k ih =>
    intro i hi
    refine u_X8_changesOnWay_39 ha (nv_le R X.1 (fun z => absurd z (by omega)) (fun z => ?_) (by omega))
    have ih2 := ih (i + 1) (by omega)
    refine c_isIn (by omega) ?_
    rw [bt_mk_in (by omega) z, nI_add]
    refine bq (fun c => ?_) (fun c => c_nextVersions ha R X z ?_)
    · rw [show nI 0 = (0 : Int32) from rfl, or_0]
      have e : mk (nn (s 0)) (fun v => rch s x n v || anyN i (fun e => rch s x n e && folw s e v)) = mk (nn (s 0)) (fun v => rch s x n v || anyN (i + 1) (fun e => rch s x n e && folw s e v)) := mk_eq fun v hv => by rw [anyN_s, c, Bool.false_and, Bool.or_false]
      rw [e]; exact ih2
    · rw [mk_or (by omega)]
      have e : mk (nn (s 0)) (fun v => (rch s x n v || anyN i (fun e => rch s x n e && folw s e v)) || folw s i v) = mk (nn (s 0)) (fun v => rch s x n v || anyN (i + 1) (fun e => rch s x n e && folw s e v)) := mk_eq fun v hv => by rw [anyN_s, c, Bool.true_and, Bool.or_assoc]
      rw [e]; exact ih2
theorem l_cow {x y : Nat} (ha : a = 60 ∨ a = 67) (R : Rk C E s) (X : CR a s h) (hx : x < nn (s 0)) (hy : y < nn (s 0)) (K : kk (pre1 (wayN s x y)) h) :
    ∀ k i o5 o6, i + k = nn (s 0) → (∀ d, d < i → wlk s d x y = false) → At m_X8_changesOnWay (rI q kk) 7 0 [some (.ref a), some (.int (nI x)), some (.int (nI y)), some (.int (mk (nn (s 0)) (rch s x i))), some (.int (nI i)), o5, o6] [] h := by
  have hv8 := R.v.2
  intro k
  induction k with
  | zero =>
    intro i o5 o6 hi hn
    refine u_X8_changesOnWay_7 ha (nv_le R X.1 (fun z => ?_) (fun z => absurd z (by omega)) (by omega))
    subst z
    rw [show wayN s x y = 0 from fst1_no hn] at K; exact K
  | succ k ih =>
    intro i o5 o6 hi hn
    refine u_X8_changesOnWay_7 ha (nv_le R X.1 (fun z => absurd z (by omega)) (fun z => ?_) (by omega))
    refine c_isIn (by omega) ?_
    rw [bt_mk_in (by omega) hy]
    refine bq (fun c => ?_) (fun c => ?_)
    · have e0 : mk (nn (s 0)) (rch s x i) = mk (nn (s 0)) (fun v => rch s x i v || anyN 0 (fun e => rch s x i e && folw s e v)) := mk_eq fun v hv => (Bool.or_false _).symm
      have l := l_cow_in (q := q) (kk := kk) (y := y) (n := i) (kx := nI i) ha R X hx (fun o5 o6 => by
        rw [nI_add]
        refine ih (i + 1) o5 o6 (by omega) (fun d hd => ?_)
        cases e : wlk s d x y
        · rfl
        · have : rch s x i y = true := rch_iff.mpr ⟨d, by omega, e⟩
          rw [this] at c; cases c) _ 0 (Nat.zero_add _)
      rw [← e0] at l
      exact l
    · obtain ⟨d, hd, h1⟩ := rch_iff.mp c
      have : d = i := by
        rcases Nat.lt_or_ge d i with q1 | q1
        · rw [hn d q1] at h1; cases h1
        · omega
      subst this
      rw [show wayN s x y = d + 1 from fst1_yes (p := fun d => wlk s d x y) h1 hn z] at K
      exact K
theorem one_mk {x n : Nat} (hn : n ≤ 32) (hx : x < n) : ((nI 1) <<< (nI x &&& 31)) = mk n (fun v => decide (v = x)) := mk_of hn fun i hi => by
  rw [bt_one (by omega) hi]
  by_cases c : i < n
  · simp [c]
  · have : ¬ i = x := by omega
    simp [c, this]
theorem c_changesOnWay {x y : Nat} (ha : a = 60 ∨ a = 67) (R : Rk C E s) (X : CR a s h) (hx : x < nn (s 0)) (hy : y < nn (s 0)) (K : kk (pre1 (wayN s x y)) h) : MetPM m_X8_changesOnWay [.ref a, .int (nI x), .int (nI y)] h (rI q kk) := by
  have hv8 := R.v.2
  refine t_X8_changesOnWay ha ?_
  have e : ((nI 1) <<< (nI x &&& 31)) = mk (nn (s 0)) (rch s x 0) := by
    rw [one_mk (n := nn (s 0)) (by omega) hx]
    exact mk_eq fun v hv => by
      show decide (v = x) = (false || decide (x = v))
      rw [Bool.false_or]
      exact decide_eq_decide.mpr ⟨fun z => z.symm, fun z => z.symm⟩
  rw [e]
  exact l_cow ha R X hx hy K _ 0 none none (Nat.zero_add _) (fun d hd => absurd hd (Nat.not_lt_zero d))
def nxtW (s : RW) (x y : Nat) : Nat := if wayN s x y ≤ 1 then 0 else fst1 (nn (s 0)) (fun c => folw s x c && decide (wayN s c y + 1 = wayN s x y))
theorem wayN_le (R : Rk C E s) {x y : Nat} : wayN s x y ≤ 8 := by
  have := R.v.2
  have := fst1_le (p := fun d => wlk s d x y) (n := nn (s 0))
  unfold wayN; omega
theorem pre1_eq {n w : Nat} (hn : n < 100) (hw : w < 100) : pre1 n = nI w ↔ n = w + 1 := by
  cases n with
  | zero =>
    rw [pre1_z]
    exact ⟨fun z => absurd z.symm (nI_m1 (by omega)), fun z => by omega⟩
  | succ n =>
    rw [pre1_s, nI_eq (by omega) (by omega)]
    omega
theorem l_fow {x y w : Nat} (ha : a = 60 ∨ a = 67) (R : Rk C E s) (X : CR a s h) (hx : x < nn (s 0)) (hy : y < nn (s 0)) (hw : wayN s x y = w + 2) (K : kk (pre1 (nxtW s x y)) h) :
    ∀ k i, i + k = nn (s 0) → (∀ c, c < i → (folw s x c && decide (wayN s c y + 1 = wayN s x y)) = false) → At m_X8_firstOnWay (rI q kk) 25 0 [some (.ref a), some (.int (nI x)), some (.int (nI y)), some (.int (nI (w + 1))), some (.int (mk (nn (s 0)) (folw s x))), some (.int (nI i))] [] h := by
  have hv8 := R.v.2
  have hw8 := wayN_le R (x := x) (y := y)
  have hd : nxtW s x y = fst1 (nn (s 0)) (fun c => folw s x c && decide (wayN s c y + 1 = wayN s x y)) := by
    unfold nxtW; rw [if_neg (by omega)]
  intro k
  induction k with
  | zero =>
    intro i hi hn
    refine u_X8_firstOnWay_25 ha (nv_le R X.1 (fun z => ?_) (fun z => absurd z (by omega)) (by omega))
    subst z
    rw [hd, fst1_no hn] at K; exact K
  | succ k ih =>
    intro i hi hn
    have next : (folw s x i && decide (wayN s i y + 1 = wayN s x y)) = false → At m_X8_firstOnWay (rI q kk) 25 0 [some (.ref a), some (.int (nI x)), some (.int (nI y)), some (.int (nI (w + 1))), some (.int (mk (nn (s 0)) (folw s x))), some (.int (nI i + nI 1))] [] h := fun e => by
      rw [nI_add]
      refine ih (i + 1) (by omega) (fun c hc => ?_)
      rcases Nat.lt_or_ge c i with q1 | q1
      · exact hn c q1
      · have : c = i := by omega
        subst this; exact e
    refine u_X8_firstOnWay_25 ha (nv_le R X.1 (fun z => absurd z (by omega)) (fun z => ?_) (by omega))
    refine c_isIn (by omega) ?_
    rw [bt_mk_in (by omega) z]
    refine bq (fun c => next (by rw [c]; rfl)) (fun c => c_changesOnWay ha R X z hy ?_)
    have hi8 := wayN_le R (x := i) (y := y)
    rw [pk_sub (by omega), show w + 1 - 1 = w by omega, pre1_eq (by omega) (by omega)]
    refine ⟨fun c2 => next ?_, fun c2 => ?_⟩
    · rw [decide_eq_false (by omega), Bool.and_false]
    · rw [hd, fst1_yes (by rw [c, decide_eq_true (by omega)]; rfl) hn z] at K; exact K
theorem l_fow0 {x y : Nat} {v3 : Int32} (ha : a = 60 ∨ a = 67) (R : Rk C E s) (X : CR a s h) (K : kk (-(nI 1)) h) :
    ∀ k i, i + k = nn (s 0) → At m_X8_firstOnWay (rI q kk) 25 0 [some (.ref a), some (.int (nI x)), some (.int (nI y)), some (.int v3), some (.int (nI 0)), some (.int (nI i))] [] h := by
  have hv8 := R.v.2
  intro k
  induction k with
  | zero =>
    intro i hi
    exact u_X8_firstOnWay_25 ha (nv_le R X.1 (fun z => K) (fun z => absurd z (by omega)) (by omega))
  | succ k ih =>
    intro i hi
    refine u_X8_firstOnWay_25 ha (nv_le R X.1 (fun z => absurd z (by omega)) (fun z => ?_) (by omega))
    refine c_isIn (by omega) ?_
    rw [show bt (nI 0) i = false from b_0 i, nI_add]
    exact bq (fun c => ih (i + 1) (by omega)) (fun c => by cases c)
theorem c_firstOnWay {x y : Nat} (ha : a = 60 ∨ a = 67) (R : Rk C E s) (X : CR a s h) (hx : x < nn (s 0)) (hy : y < nn (s 0)) (K : kk (pre1 (nxtW s x y)) h) : MetPM m_X8_firstOnWay [.ref a, .int (nI x), .int (nI y)] h (rI q kk) := by
  have hv8 := R.v.2
  have hw8 := wayN_le R (x := x) (y := y)
  refine t_X8_firstOnWay ha (c_changesOnWay ha R X hx hy ?_)
  by_cases c : wayN s x y ≤ 1
  · have e : nxtW s x y = 0 := by unfold nxtW; rw [if_pos c]
    rw [e] at K
    have : pre1 (wayN s x y) ≤ 0 := by
      rcases (by omega : wayN s x y = 0 ∨ wayN s x y = 1) with e | e
      · rw [e]; decide
      · rw [e]; decide
    exact br_t this (l_fow0 ha R X K _ 0 (Nat.zero_add _))
  · obtain ⟨w, hw⟩ : ∃ w, wayN s x y = w + 2 := ⟨wayN s x y - 2, by omega⟩
    rw [hw, pre1_s]
    exact br_f (nI_nle (by omega) (by omega)) (c_nextVersions ha R X hx (l_fow ha R X hx hy hw K _ 0 (Nat.zero_add _) (fun d hd => absurd hd (Nat.not_lt_zero d))))
end
