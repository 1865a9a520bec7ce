/-! ===== questions: the lowest and highest coming version, the way back, ways ===== -/
section
variable {q : Nat → PH → Prop} {kk : Int32 → PH → Prop} {kv : PH → Prop} {h : PH} {s : RW} {C E : Nat} {a : Nat}
theorem pre1_z : pre1 0 = -(nI 1) := by decide
theorem pre1_s (n : Nat) : pre1 (n + 1) = nI n := rfl
theorem nI_m1 {n : Nat} (hn : n < 2 ^ 31) : ¬ nI n = -(nI 1) := by
  rw [m1_eq]
  exact (isN_nI (n := n) (b := n) (Nat.le_refl _) hn).nm1
theorem lo1_s {n : Nat} {g : Nat → Nat} : lo1 (n + 1) (fun _ => true) g = if lo1 n (fun _ => true) g = 0 then g n + 1 else if g n + 1 < lo1 n (fun _ => true) g then g n + 1 else lo1 n (fun _ => true) g := rfl
theorem hi1_s {n : Nat} {g : Nat → Nat} : hi1 (n + 1) (fun _ => true) g = if hi1 n (fun _ => true) g < g n + 1 then g n + 1 else hi1 n (fun _ => true) g := rfl
def lo8 : Nat → Nat
  | 0 => 8
  | n + 1 => n
theorem lo1_pos {n : Nat} {g : Nat → Nat} (hn : 0 < n) : ∃ l, lo1 n (fun _ => true) g = l + 1 := by
  cases n with
  | zero => omega
  | succ n =>
    rw [lo1_s]
    split
    · exact ⟨_, rfl⟩
    · rename_i c
      split
      · exact ⟨_, rfl⟩
      · exact ⟨lo1 n (fun _ => true) g - 1, by omega⟩
theorem l_lowestComing (ha : a = 60 ∨ a = 67) (R : Rk C E s) (Y : LyR 15 s h.1) (S : StR a s h.1) {p : Nat → Bool} (K : kk (nI (lo8 (lo1 (nn (s 2)) p (cN s)))) h) : ∀ k i, i + k = nn (s 2) → At m_X8_lowestComing (rI q kk) 5 0 [some (.ref a), some (.int (mk (nn (s 2)) p)), some (.int (nI (lo8 (lo1 i p (cN s))))), some (.int (nI i))] [] h := by
  have hm2 := R.m.2
  intro k
  induction k with
  | zero =>
    intro i hi
    refine u_X8_lowestComing_5 ha (nm_le R Y (fun z => ?_) (fun z => absurd z (by omega)) (by omega))
    rw [z]; exact K
  | succ k ih =>
    intro i hi
    refine u_X8_lowestComing_5 ha (nm_le R Y (fun z => absurd z (by omega)) (fun z => ?_) (by omega))
    have hc := cN_lt R z
    have ih2 := ih (i + 1) (by omega)
    have hle : lo1 i p (cN s) ≤ 8 := lo1_le fun j hj => (cN_lt R (by omega)).2.1
    refine c_isIn (by omega) ?_
    rw [bt_mk_in (by omega) z, nI_add]
    refine bq (fun e => ?_) (fun e => ⟨vp_in_nI (by omega) (by omega), ?_⟩)
    · rw [lo1, e] at ih2; exact ih2
    · rw [lo1, e] at ih2
      rw [cl (by omega), show gi h (a + 2) i = com s i from S.co i z, hc.1]
      have e2 : (if nI (cN s i) < nI (lo8 (lo1 i p (cN s))) then nI (cN s i) else nI (lo8 (lo1 i p (cN s)))) = nI (lo8 (if lo1 i p (cN s) = 0 then cN s i + 1 else if cN s i + 1 < lo1 i p (cN s) then cN s i + 1 else lo1 i p (cN s))) := by
        cases e3 : lo1 i p (cN s) with
        | zero =>
          rw [if_pos (show (0 : Nat) = 0 from rfl)]
          exact if_pos (nI_lt hc.2.1 (by omega))
        | succ l =>
          rw [e3] at hle
          rw [if_neg (show ¬ l + 1 = 0 by omega)]
          by_cases c : cN s i < l
          · rw [if_pos (show cN s i + 1 < l + 1 by omega)]
            exact if_pos (nI_lt c (by omega))
          · rw [if_neg (show ¬ cN s i + 1 < l + 1 by omega)]
            exact if_neg (nI_nlt (a := cN s i) (b := l) (by omega) (by omega))
      rw [e2]; exact ih2
theorem c_lowestComing (ha : a = 60 ∨ a = 67) (R : Rk C E s) (Y : LyR 15 s h.1) (S : StR a s h.1) {p : Nat → Bool} (K : kk (nI (lo8 (lo1 (nn (s 2)) p (cN s)))) h) : MetPM m_X8_lowestComing [.ref a, .int (mk (nn (s 2)) p)] h (rI q kk) := t_X8_lowestComing ha (l_lowestComing ha R Y S K _ 0 (Nat.zero_add _))
theorem l_highestComing (ha : a = 60 ∨ a = 67) (R : Rk C E s) (Y : LyR 15 s h.1) (S : StR a s h.1) {p : Nat → Bool} (K : kk (pre1 (hi1 (nn (s 2)) p (cN s))) h) : ∀ k i, i + k = nn (s 2) → At m_X8_highestComing (rI q kk) 4 0 [some (.ref a), some (.int (mk (nn (s 2)) p)), some (.int (pre1 (hi1 i p (cN s)))), some (.int (nI i))] [] h := by
  have hm2 := R.m.2
  intro k
  induction k with
  | zero =>
    intro i hi
    refine u_X8_highestComing_4 ha (nm_le R Y (fun z => ?_) (fun z => absurd z (by omega)) (by omega))
    rw [z]; exact K
  | succ k ih =>
    intro i hi
    refine u_X8_highestComing_4 ha (nm_le R Y (fun z => absurd z (by omega)) (fun z => ?_) (by omega))
    have hc := cN_lt R z
    have ih2 := ih (i + 1) (by omega)
    have hle : hi1 i p (cN s) ≤ 8 := hi1_le fun j hj => (cN_lt R (by omega)).2.1
    refine c_isIn (by omega) ?_
    rw [bt_mk_in (by omega) z, nI_add]
    refine bq (fun e => ?_) (fun e => ⟨vp_in_nI (by omega) (by omega), ?_⟩)
    · rw [hi1, e] at ih2; exact ih2
    · rw [hi1, e] at ih2
      rw [cl (by omega), show gi h (a + 2) i = com s i from S.co i z, hc.1]
      have e2 : (if pre1 (hi1 i p (cN s)) < nI (cN s i) then nI (cN s i) else pre1 (hi1 i p (cN s))) = pre1 (if hi1 i p (cN s) < cN s i + 1 then cN s i + 1 else hi1 i p (cN s)) := by
        cases e3 : hi1 i p (cN s) with
        | zero =>
          rw [if_pos (show 0 < cN s i + 1 by omega)]
          exact if_pos ((by decide : ∀ c, c < 8 → pre1 0 < nI c) _ hc.2.1)
        | succ l =>
          rw [e3] at hle
          by_cases c : l < cN s i
          · rw [if_pos (show l + 1 < cN s i + 1 by omega)]
            exact if_pos (nI_lt c (by omega))
          · rw [if_neg (show ¬ l + 1 < cN s i + 1 by omega)]
            exact if_neg (nI_nlt (a := l) (b := cN s i) (by omega) (by omega))
      rw [e2]; exact ih2
theorem c_highestComing (ha : a = 60 ∨ a = 67) (R : Rk C E s) (Y : LyR 15 s h.1) (S : StR a s h.1) {p : Nat → Bool} (K : kk (pre1 (hi1 (nn (s 2)) p (cN s))) h) : MetPM m_X8_highestComing [.ref a, .int (mk (nn (s 2)) p)] h (rI q kk) := t_X8_highestComing ha (l_highestComing ha R Y S K _ 0 (Nat.zero_add _))
def skwV (s : RW) : Int32 := pre1 (higA s) - pre1 (lowA s)
theorem mk_all0 {n : Nat} (hn : n ≤ 32) : mk n (fun _ => true) = 0 ↔ n = 0 := by
  rw [mk_z hn, anyN_f]
  constructor
  · intro h
    rcases Nat.eq_zero_or_pos n with z | z
    · exact z
    · have := h 0 z; cases this
  · rintro rfl i hi; omega
theorem c_skewNow (R : Rk C E s) (X : CR 60 s h) (K : kk (skwV s) h) : MetPM m_X11_skewNow [.ref 0] h (rI q kk) := by
  have hm2 := R.m.2
  refine t_X11_skewNow (c_everyMember R X.1 ?_)
  rw [mk_all0 (by omega)]
  refine ⟨fun c => c_highestComing (Or.inl rfl) R X.1 X.2 (c_lowestComing (Or.inl rfl) R X.1 X.2 ?_), fun c => ?_⟩
  · obtain ⟨l, el⟩ := lo1_pos (n := nn (s 2)) (g := cN s) (by omega)
    unfold skwV lowA at K
    rw [el] at K ⊢
    exact K
  · have : skwV s = nI 0 := by
      unfold skwV lowA higA
      rw [c]
      show pre1 0 - pre1 0 = nI 0
      decide
    rw [this] at K; exact K
/-! the way back -/
def bak (s : RW) : Nat → Nat
  | 0 => 0
  | v + 1 => if (rds s v (s 5) && tlk s v (v + 1)) = true then bak s v else v + 1
def wbkV (s : RW) : Int32 := match lowA s with
  | 0 => -(nI 1)
  | v + 1 => nI (bak s v)
theorem low_lt (R : Rk C E s) {l : Nat} (e : lowA s = l + 1) : l < 8 ∧ l < nn (s 0) := by
  have hv := R.v.2
  have : lowA s ≤ nn (s 0) := lo1_le fun j hj => (cN_lt R hj).2.2
  omega
theorem l_wayBackC (ha : a = 60 ∨ a = 67) (R : Rk C E s) (X : CR a s h) : ∀ v, v < nn (s 0) → kk (nI (bak s v)) h → At m_X8_lowestWayBack (rI q kk) 27 0 [some (.ref a), some (.int (nI v))] [] h := by
  have hv8 := R.v.2
  intro v
  induction v with
  | zero => intro _ K; exact u_X8_lowestWayBack_27 ha (br_t (by decide) K)
  | succ v ih =>
    intro hv K
    refine u_X8_lowestWayBack_27 ha (br_f (nI_nle (by omega) (by omega)) ?_)
    rw [pk_sub (by omega), show v + 1 - 1 = v by omega, show gi h a 2 = s 5 from X.2.fo]
    unfold bak at K
    refine c_isReader (Or.inl rfl) R X.1 (by omega) (bq (fun e => ?_) (fun e => c_talkersOf (Or.inl rfl) R X.1 hv (fun x hx => c_isIn (by omega) ?_)))
    · rw [e] at K; exact K
    · rw [hx v (by omega), R.ts (v + 1) v hv (by omega)]
      refine bq (fun e2 => ?_) (fun e2 => ?_)
      · rw [e, e2] at K; exact K
      · rw [e, e2] at K
        rw [m1_eq, pk_m1]
        exact ih (by omega) K
theorem c_wayBack (R : Rk C E s) (X : CR 60 s h) (K : kk (wbkV s) h) : MetPM m_X11_wayBack [.ref 0] h (rI q kk) := by
  have hm2 := R.m.2
  refine t_X11_wayBack (t_X8_lowestWayBack (Or.inl rfl) ?_)
  have e26 : gi h 26 1 = nI (nn (s 2)) := X.1.nm.trans R.m.1
  rw [e26]
  unfold wbkV at K
  refine ⟨fun c => c_everyMember R X.1 (c_lowestComing (Or.inl rfl) R X.1 X.2 ?_), fun c => ?_⟩
  · obtain ⟨l, el⟩ := lo1_pos (n := nn (s 2)) (g := cN s) (by
      rcases Nat.eq_zero_or_pos (nn (s 2)) with z | z
      · exact absurd (by rw [z]; rfl) c
      · exact z)
    have el' : lowA s = l + 1 := el
    rw [el'] at K
    rw [el]
    exact l_wayBackC (Or.inl rfl) R X l (low_lt R el').2 K
  · have z : nn (s 2) = 0 := by
      rw [← nI_0, nI_eq (by omega) (by omega)] at c
      exact c
    have el : lowA s = 0 := by unfold lowA; rw [z]; rfl
    rw [el] at K
    exact K
end

