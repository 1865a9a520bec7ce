/-! ===== names looked up: the class ===== -/
section
variable {q : Nat → PH → Prop} {kk : Int32 → PH → Prop} {kl : Int64 → PH → Prop} {kv : PH → Prop} {h h' : PH} {s t s' : RW} {C E D F : Nat} {a b0 u w n p m : Nat} {f g z : FI} {c d : Nat → Nat} {nm : Nat → Int64}
theorem fst1_eq {P Q : Nat → Bool} : ∀ {n}, (∀ i, i < n → P i = Q i) → fst1 n P = fst1 n Q
  | 0, _ => rfl
  | n + 1, h => by
    unfold fst1
    rw [fst1_eq (n := n) (fun i hi => h i (by omega)), h n (by omega)]
theorem fst1_0 {P : Nat → Bool} {n : Nat} (e : fst1 n P = 0) : ∀ i, i < n → P i = false := by
  induction n with
  | zero => intro i hi; omega
  | succ n ih =>
    intro i hi
    unfold fst1 at e
    split at e
    · rename_i e0
      split at e
      · omega
      · rename_i e1
        rcases Nat.lt_or_ge i n with q1 | q1
        · exact ih e0 i q1
        · have : i = n := by omega
          rw [this]
          cases y : P n
          · rfl
          · exact absurd y e1
    · omega
theorem l_num16 {x : Int64} (e : gi h 16 1 = nI m) (hm : m ≤ 8) (K : kk (pre1 (fst1 m (fun i => decide (gl h 17 i = x)))) h) : ∀ k j, j + k = m → (∀ i, i < j → decide (gl h 17 i = x) = false) → At m_X6_numberOf (rI q kk) 2 0 [some (.ref 16), some (.long x), none, some (.int (nI j))] [] h := by
  intro k
  induction k with
  | zero =>
    intro j hj hn
    refine u_X6_numberOf_2_16 ?_
    rw [e]
    refine pk_le m j (fun _ => ?_) (fun y => absurd y (by omega))
    rw [fst1_no (fun i hi => hn i (by omega))] at K
    exact K
  | succ k ih =>
    intro j hj hn
    refine u_X6_numberOf_2_16 ?_
    rw [e, cl (by omega), lgc_0]
    refine pk_le m j (fun y => absurd y (by omega)) (fun _ => ⟨vp_in_nI (by omega) (by omega), fun y => ?_, fun y => ?_⟩)
    · rw [nI_add]
      refine ih (j + 1) (by omega) (fun i hi => ?_)
      by_cases c : i = j
      · subst c; exact decide_eq_false y
      · exact hn i (by omega)
    · rw [fst1_yes (k := j) (decide_eq_true y) hn (by omega)] at K
      exact K
theorem l_num26 {x : Int64} (e : gi h 26 1 = nI m) (hm : m ≤ 12) (K : kk (pre1 (fst1 m (fun i => decide (gl h 27 i = x)))) h) : ∀ k j, j + k = m → (∀ i, i < j → decide (gl h 27 i = x) = false) → At m_X6_numberOf (rI q kk) 2 0 [some (.ref 26), some (.long x), none, some (.int (nI j))] [] h := by
  intro k
  induction k with
  | zero =>
    intro j hj hn
    refine u_X6_numberOf_2_26 ?_
    rw [e]
    refine pk_le m j (fun _ => ?_) (fun y => absurd y (by omega))
    rw [fst1_no (fun i hi => hn i (by omega))] at K
    exact K
  | succ k ih =>
    intro j hj hn
    refine u_X6_numberOf_2_26 ?_
    rw [e, cl (by omega), lgc_0]
    refine pk_le m j (fun y => absurd y (by omega)) (fun _ => ⟨vp_in_nI (by omega) (by omega), fun y => ?_, fun y => ?_⟩)
    · rw [nI_add]
      refine ih (j + 1) (by omega) (fun i hi => ?_)
      by_cases c : i = j
      · subst c; exact decide_eq_false y
      · exact hn i (by omega)
    · rw [fst1_yes (k := j) (decide_eq_true y) hn (by omega)] at K
      exact K
theorem l_num31 {x : Int64} (e : gi h 31 1 = nI m) (hm : m ≤ 8) (K : kk (pre1 (fst1 m (fun i => decide (gl h 32 i = x)))) h) : ∀ k j, j + k = m → (∀ i, i < j → decide (gl h 32 i = x) = false) → At m_X6_numberOf (rI q kk) 2 0 [some (.ref 31), some (.long x), none, some (.int (nI j))] [] h := by
  intro k
  induction k with
  | zero =>
    intro j hj hn
    refine u_X6_numberOf_2_31 ?_
    rw [e]
    refine pk_le m j (fun _ => ?_) (fun y => absurd y (by omega))
    rw [fst1_no (fun i hi => hn i (by omega))] at K
    exact K
  | succ k ih =>
    intro j hj hn
    refine u_X6_numberOf_2_31 ?_
    rw [e, cl (by omega), lgc_0]
    refine pk_le m j (fun y => absurd y (by omega)) (fun _ => ⟨vp_in_nI (by omega) (by omega), fun y => ?_, fun y => ?_⟩)
    · rw [nI_add]
      refine ih (j + 1) (by omega) (fun i hi => ?_)
      by_cases c : i = j
      · subst c; exact decide_eq_false y
      · exact hn i (by omega)
    · rw [fst1_yes (k := j) (decide_eq_true y) hn (by omega)] at K
      exact K
theorem l_num36 {x : Int64} (e : gi h 36 1 = nI m) (hm : m ≤ 5) (K : kk (pre1 (fst1 m (fun i => decide (gl h 37 i = x)))) h) : ∀ k j, j + k = m → (∀ i, i < j → decide (gl h 37 i = x) = false) → At m_X6_numberOf (rI q kk) 2 0 [some (.ref 36), some (.long x), none, some (.int (nI j))] [] h := by
  intro k
  induction k with
  | zero =>
    intro j hj hn
    refine u_X6_numberOf_2_36 ?_
    rw [e]
    refine pk_le m j (fun _ => ?_) (fun y => absurd y (by omega))
    rw [fst1_no (fun i hi => hn i (by omega))] at K
    exact K
  | succ k ih =>
    intro j hj hn
    refine u_X6_numberOf_2_36 ?_
    rw [e, cl (by omega), lgc_0]
    refine pk_le m j (fun y => absurd y (by omega)) (fun _ => ⟨vp_in_nI (by omega) (by omega), fun y => ?_, fun y => ?_⟩)
    · rw [nI_add]
      refine ih (j + 1) (by omega) (fun i hi => ?_)
      by_cases c : i = j
      · subst c; exact decide_eq_false y
      · exact hn i (by omega)
    · rw [fst1_yes (k := j) (decide_eq_true y) hn (by omega)] at K
      exact K
theorem l_num41 {x : Int64} (e : gi h 41 1 = nI m) (hm : m ≤ 12) (K : kk (pre1 (fst1 m (fun i => decide (gl h 42 i = x)))) h) : ∀ k j, j + k = m → (∀ i, i < j → decide (gl h 42 i = x) = false) → At m_X6_numberOf (rI q kk) 2 0 [some (.ref 41), some (.long x), none, some (.int (nI j))] [] h := by
  intro k
  induction k with
  | zero =>
    intro j hj hn
    refine u_X6_numberOf_2_41 ?_
    rw [e]
    refine pk_le m j (fun _ => ?_) (fun y => absurd y (by omega))
    rw [fst1_no (fun i hi => hn i (by omega))] at K
    exact K
  | succ k ih =>
    intro j hj hn
    refine u_X6_numberOf_2_41 ?_
    rw [e, cl (by omega), lgc_0]
    refine pk_le m j (fun y => absurd y (by omega)) (fun _ => ⟨vp_in_nI (by omega) (by omega), fun y => ?_, fun y => ?_⟩)
    · rw [nI_add]
      refine ih (j + 1) (by omega) (fun i hi => ?_)
      by_cases c : i = j
      · subst c; exact decide_eq_false y
      · exact hn i (by omega)
    · rw [fst1_yes (k := j) (decide_eq_true y) hn (by omega)] at K
      exact K
def NB (b0 mx : Nat) : Prop := (b0 = 16 ∧ mx = 8) ∨ (b0 = 26 ∧ mx = 12) ∨ (b0 = 31 ∧ mx = 8) ∨ (b0 = 36 ∧ mx = 5) ∨ (b0 = 41 ∧ mx = 12)
theorem c_numberOf' {mx : Nat} {x : Int64} (hb : NB b0 mx) (e : gi h b0 1 = nI m) (hm : m ≤ mx) (K : kk (pre1 (fst1 m (fun i => decide (gl h (b0 + 1) i = x)))) h) : MetPM m_X6_numberOf [.ref b0, .long x] h (rI q kk) := by
  rcases hb with ⟨rfl, rfl⟩ | ⟨rfl, rfl⟩ | ⟨rfl, rfl⟩ | ⟨rfl, rfl⟩ | ⟨rfl, rfl⟩
  · exact t_X6_numberOf_16 (l_num16 e hm K _ 0 (Nat.zero_add _) (fun i hi => absurd hi (Nat.not_lt_zero i)))
  · exact t_X6_numberOf_26 (l_num26 e hm K _ 0 (Nat.zero_add _) (fun i hi => absurd hi (Nat.not_lt_zero i)))
  · exact t_X6_numberOf_31 (l_num31 e hm K _ 0 (Nat.zero_add _) (fun i hi => absurd hi (Nat.not_lt_zero i)))
  · exact t_X6_numberOf_36 (l_num36 e hm K _ 0 (Nat.zero_add _) (fun i hi => absurd hi (Nat.not_lt_zero i)))
  · exact t_X6_numberOf_41 (l_num41 e hm K _ 0 (Nat.zero_add _) (fun i hi => absurd hi (Nat.not_lt_zero i)))
/-- the number of a name, one more, among the reference's -/
def fnd (nm : Nat → Int64) (o m : Nat) (y : Int64) : Nat := fst1 m (fun i => decide (nm (o + i) = y))
def fndT (c : Nat → Nat) (n : Nat) (nm : Nat → Int64) (o m p : Nat) : Nat := fnd nm o m (lN (tM c n p))
theorem fnd_le {o m : Nat} {y : Int64} : fnd nm o m y ≤ m := fst1_le
theorem fnd_C {o : Nat} (hp : p ≤ n) (e : tK c n p = 1) (N : ∀ i, i < m → NmE (gl h (b0 + 1) i) (nm (o + i))) : fst1 m (fun i => decide (gl h (b0 + 1) i = lN (tW c n p))) = fndT c n nm o m p := fst1_eq fun i hi => decide_eq_decide.mpr ((N i hi).iff (tok_E hp e))
theorem NB.lt {mx : Nat} (hb : NB b0 mx) : mx ≤ 12 := by unfold NB at hb; omega
theorem NB.al {mx : Nat} (hb : NB b0 mx) : b0 = 16 ∨ b0 = 26 ∨ b0 = 31 ∨ b0 = 36 ∨ b0 = 41 := by unfold NB at hb; omega
theorem c_findName {mx o : Nat} (hb : NB b0 mx) (hp : p ≤ n) (T : CT c n p h) (e : gi h b0 1 = nI m) (hm : m ≤ mx) (N : ∀ i, i < m → NmE (gl h (b0 + 1) i) (nm (o + i))) (K0 : ¬ tK c n p = 1 → ∀ h', Fz WB VA h h' → ER (nI 1) (tS c n p) h' → kk (-(nI 1)) h') (K2 : tK c n p = 1 → fndT c n nm o m p = 0 → ∀ h', Fz WB VA h h' → ER (nI 3) (tS c n p) h' → kk (-(nI 1)) h') (K1 : ∀ j, tK c n p = 1 → fndT c n nm o m p = j + 1 → j < m → kk (nI j) h) : MetPM m_X10_findName [.ref 1, .ref b0] h (rI q kk) := by
  have hk := tK_lt (c := c) (n := n) (p := p)
  have hl := hb.lt
  have hf : fndT c n nm o m p ≤ m := fnd_le
  refine t_X10_findName hb.al ?_
  rw [show gi h 1 4 = _ from T.1, nI_eq (by omega) (by omega)]
  refine ⟨fun d => ?_, fun d => c_fail T (fun h1 f1 e1 => K0 d h1 f1 e1)⟩
  rw [T.2.2.2.1 d]
  refine c_numberOf' hb e hm ?_
  rw [fnd_C hp d N, pre1_n1 (by omega)]
  refine ⟨fun y => ?_, fun y => c_fail T (fun h1 f1 e1 => ?_)⟩
  · obtain ⟨j, ej⟩ : ∃ j, fndT c n nm o m p = j + 1 := ⟨fndT c n nm o m p - 1, by omega⟩
    rw [ej]
    exact K1 j d ej (by omega)
  · rw [y]
    exact K2 d y h1 f1 e1
theorem c_takeNewName {mx o : Nat} (hb : NB b0 mx) (h3 : b0 = 31 ∨ b0 = 36 ∨ b0 = 41) (hp : p ≤ n) (B : CB c n h) (T : CT c n p h) (e : gi h b0 1 = nI m) (hm : m ≤ mx) (N : ∀ i, i < m → NmE (gl h (b0 + 1) i) (nm (o + i))) (K0 : ¬ tK c n p = 1 → ∀ h', Fz WB VA h h' → ER (nI 1) (tS c n p) h' → kl (lN 0) h') (K2 : tK c n p = 1 → ¬ fndT c n nm o m p = 0 → ∀ h', Fz WB VA h h' → ER (nI 3) (tS c n p) h' → kl (lN 0) h') (K1 : tK c n p = 1 → fndT c n nm o m p = 0 → ∀ h', Fz WA VA h h' → CT c n (tE c n p) h' → kl (lN (tW c n p)) h') : MetPM m_X10_takeNewName [.ref 1, .ref b0] h (rL q kl) := by
  have hk := tK_lt (c := c) (n := n) (p := p)
  have hl := hb.lt
  have hf : fndT c n nm o m p ≤ m := fnd_le
  refine t_X10_takeNewName h3 ?_
  rw [show gi h 1 4 = _ from T.1, nI_eq (by omega) (by omega)]
  refine ⟨fun d => ?_, fun d => c_fail T (fun h1 f1 e1 => K0 d h1 f1 e1)⟩
  rw [T.2.2.2.1 d]
  refine c_numberOf' hb e hm ?_
  rw [fnd_C hp d N, pre1_n1 (by omega)]
  refine ⟨fun y => c_next hp B T (fun h1 f1 T1 => ?_), fun y => c_fail T (fun h1 f1 e1 => K2 d y h1 f1 e1)⟩
  show kl (gl h 1 6) h1
  rw [T.2.2.2.1 d]
  exact K1 d y h1 f1 T1
end

