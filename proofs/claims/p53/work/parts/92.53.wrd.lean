/-! ===== words: names and the words of the languages ===== -/
section
variable {q : Nat → PH → Prop} {kk : Int32 → PH → Prop} {kl : Int64 → PH → Prop} {kv : PH → Prop} {h h' : PH} {s t s' : RW} {C E D F : Nat} {a b0 u w n p : Nat} {f g z : FI} {c d : Nat → Nat}
theorem inj8 {p p' : Nat} : ∀ {k k' : Nat}, (∀ j, j < k → leC (c (p + j)) = true) → (∀ j, j < k' → leC (d (p' + j)) = true) → w8 c p k = w8 d p' k' → k = k' ∧ ∀ j, j < k → c (p + j) = d (p' + j)
  | 0, 0, _, _, _ => ⟨rfl, fun j hj => absurd hj (Nat.not_lt_zero j)⟩
  | 0, k' + 1, _, h2, e => by
    have := leC_t (h2 k' (by omega))
    rw [w8, w8] at e
    omega
  | k + 1, 0, h1, _, e => by
    have := leC_t (h1 k (by omega))
    rw [w8, w8] at e
    omega
  | k + 1, k' + 1, h1, h2, e => by
    have a1 := leC_t (h1 k (by omega))
    have a2 := leC_t (h2 k' (by omega))
    rw [w8, w8] at e
    have e1 : w8 c p k = w8 d p' k' := by omega
    have e2 : c (p + k) = d (p' + k') := by omega
    obtain ⟨b1, b2⟩ := inj8 (fun j hj => h1 j (by omega)) (fun j hj => h2 j (by omega)) e1
    subst b1
    refine ⟨rfl, fun j hj => ?_⟩
    by_cases x : j = k
    · subst x; exact e2
    · exact b2 j (by omega)
theorem inj5 {p p' : Nat} : ∀ {k k' : Nat}, (∀ j, j < k → leC (c (p + j)) = true) → (∀ j, j < k' → leC (d (p' + j)) = true) → w5 c p k = w5 d p' k' → k = k' ∧ ∀ j, j < k → c (p + j) = d (p' + j)
  | 0, 0, _, _, _ => ⟨rfl, fun j hj => absurd hj (Nat.not_lt_zero j)⟩
  | 0, k' + 1, _, h2, e => by
    have := leC_t (h2 k' (by omega))
    rw [w5, w5] at e
    omega
  | k + 1, 0, h1, _, e => by
    have := leC_t (h1 k (by omega))
    rw [w5, w5] at e
    omega
  | k + 1, k' + 1, h1, h2, e => by
    have a1 := leC_t (h1 k (by omega))
    have a2 := leC_t (h2 k' (by omega))
    rw [w5, w5] at e
    have e1 : w5 c p k = w5 d p' k' := by omega
    have e2 : c (p + k) = d (p' + k') := by omega
    obtain ⟨b1, b2⟩ := inj5 (fun j hj => h1 j (by omega)) (fun j hj => h2 j (by omega)) e1
    subst b1
    refine ⟨rfl, fun j hj => ?_⟩
    by_cases x : j = k
    · subst x; exact e2
    · exact b2 j (by omega)
theorem w8_eq {p p' k : Nat} (h : ∀ j, j < k → c (p + j) = d (p' + j)) : w8 c p k = w8 d p' k := by
  induction k with
  | zero => rfl
  | succ k ih => rw [w8, w8, ih (fun j hj => h j (by omega)), h k (by omega)]
theorem w5_eq {p p' k : Nat} (h : ∀ j, j < k → c (p + j) = d (p' + j)) : w5 c p k = w5 d p' k := by
  induction k with
  | zero => rfl
  | succ k ih => rw [w5, w5, ih (fun j hj => h j (by omega)), h k (by omega)]
theorem w8_b {k : Nat} (h : ∀ j, j < k → leC (c (p + j)) = true) : 2 * w8 c p k + 1 ≤ 256 ^ k := by
  induction k with
  | zero => exact Nat.le_refl _
  | succ k ih =>
    have := ih (fun j hj => h j (by omega))
    have := leC_t (h k (by omega))
    rw [w8, Nat.pow_succ]
    omega
theorem w8_63 {k : Nat} (hk : k ≤ 8) (h : ∀ j, j < k → leC (c (p + j)) = true) : w8 c p k < 2 ^ 63 := by
  have h1 := w8_b h
  have h2 := Nat.pow_le_pow_right (n := 256) (by omega) hk
  have : (256 : Nat) ^ 8 = 2 ^ 64 := by decide
  omega
theorem w5_63 {k : Nat} (hk : k ≤ 8) (h : ∀ j, j < k → leC (c (p + j)) = true) : w5 c p k < 2 ^ 40 := by
  have h1 : w5 c p k < 32 ^ k := w5_lt (fun j hj => by have := leC_t (h j hj); omega)
  have h2 := Nat.pow_le_pow_right (n := 32) (by omega) hk
  have : (32 : Nat) ^ 8 = 2 ^ 40 := by decide
  omega
theorem NmE.iff {x y x' y' : Int64} (a : NmE x y) (b : NmE x' y') : x = x' ↔ y = y' := by
  obtain ⟨c, p, k, a1, a2, a3, rfl, rfl⟩ := a
  obtain ⟨d, p', k', b1, b2, b3, rfl, rfl⟩ := b
  have := w5_63 a2 a3
  have := w5_63 b2 b3
  rw [pk_lEQ (w8_63 a2 a3) (w8_63 b2 b3), pk_lEQ (by omega) (by omega)]
  constructor
  · intro e
    obtain ⟨rfl, e2⟩ := inj8 a3 b3 e
    exact w5_eq e2
  · intro e
    obtain ⟨rfl, e2⟩ := inj5 a3 b3 e
    exact w8_eq e2
/-- a word token -/
theorem tW_ok (hp : p ≤ n) (e : tK c n p = 1) : 1 ≤ tE c n p - tS c n p ∧ tE c n p - tS c n p ≤ 8 ∧ ∀ j, j < tE c n p - tS c n p → leC (c (tS c n p + j)) = true := by
  have hs := tS_le (c := c) hp
  unfold tK kK at e
  unfold tE kE
  split at e
  · cases e
  · rename_i nd
    rw [if_neg nd]
    split at e
    · rename_i el
      rw [if_pos el]
      have l8 : wE c n (tS c n p) - tS c n p ≤ 8 := by
        split at e
        · assumption
        · cases e
      have hi := rE_in (P := fun j => leC (c j)) (n := n) (n - tS c n p) (tS c n p) (by omega)
      have h1 : tS c n p + 1 ≤ wE c n (tS c n p) := by
        have := rE_le (P := fun j => leC (c j)) (n := n) (p := tS c n p + 1) (by omega)
        unfold wE
        rw [rE_go (P := fun j => leC (c j)) (by omega) el]
        omega
      exact ⟨by omega, l8, fun j hj => hi.2.2.1 _ (by omega) (by unfold wE at hj; omega)⟩
    · split at e
      · split at e <;> cases e
      · split at e
        · cases e
        · split at e
          · cases e
          · split at e <;> cases e
theorem tok_E (hp : p ≤ n) (e : tK c n p = 1) : NmE (lN (tW c n p)) (lN (tM c n p)) := by
  obtain ⟨h1, h2, h3⟩ := tW_ok hp e
  exact ⟨c, tS c n p, tE c n p - tS c n p, h1, h2, h3, rfl, rfl⟩
/-! the words of the languages: 0.. statements, 12.. commands, 22 held -/
def klt (i : Nat) : Nat → Nat := fun j => (cTx.getD i []).getD j 0
def kln (i : Nat) : Nat := (cTx.getD i []).length
def K8 (i : Nat) : Nat := w8 (klt i) 0 (kln i)
def K5 (i : Nat) : Nat := w5 (klt i) 0 (kln i)
theorem kw_ok : ∀ i, i < 23 → 1 ≤ kln i ∧ kln i ≤ 8 ∧ ∀ j, j < 8 → j < kln i → leC (klt i (0 + j)) = true := by decide +kernel
theorem kw_E {i : Nat} (hi : i < 23) : NmE (lN (K8 i)) (lN (K5 i)) := by
  obtain ⟨h1, h2, h3⟩ := kw_ok i hi
  exact ⟨klt i, 0, kln i, h1, h2, fun j hj => h3 j (by omega) hj, rfl, rfl⟩
/-- the string of a word -/
def kst (i : Nat) : Nat := if i < 12 then 1040 + i else if i < 22 then 1048 + i else 1084
theorem kst_ok : ∀ i, i < 23 → (cTi (kst i + 60) = i ∧ cln (kst i + 60) = kln i ∧ cfr (kst i) = kst i + 60) := by decide +kernel
theorem kst_c {i : Nat} (hi : i < 12 ∨ i = 22) : cOk (kst i) 22 ∧ cAr (kst i + 60) 1 := by
  unfold kst cOk cAr
  split
  · omega
  · split
    · omega
    · omega
theorem kst_v {i : Nat} (hi : i < 23) : cfv (kst i) 1 = 0 := (by decide +kernel : ∀ i, i < 23 → cfv (kst i) 1 = 0) i hi
theorem kby {i j : Nat} (hi : i < 23) : cby (kst i + 60) j = nI (klt i j) := by
  unfold cby klt
  rw [(kst_ok i hi).1]
theorem c_len {i : Nat} (hi : i < 12 ∨ i = 22) (K : kk (nI (kln i)) h) : MetPM m_J0_length_8abf5 [.ref (kst i)] h (rI q kk) := by
  have hc := kst_c hi
  have hi3 : i < 23 := by omega
  have ho := kst_ok i hi3
  refine t_J0_length_8abf5 ⟨hc.1, by rw [ho.2.2]; exact hc.2, hc.1, t_J0_coder_7d493 (br_f (by decide) ⟨hc.1, ?_⟩)⟩
  rw [kst_v hi3, ho.2.2, ho.2.1]
  refine ⟨by decide, ?_⟩
  show kk (nI (kln i) >>> ((0 : Int32) &&& 31)) h
  rw [sb_shr0]
  exact K
theorem c_chr {i j : Nat} (hi : i < 12 ∨ i = 22) (hj : j < kln i) (K : kk (nI (klt i j)) h) : MetPM m_J0_charAt_5068e [.ref (kst i), .int (nI j)] h (rI q kk) := by
  have hc := kst_c hi
  have hi3 : i < 23 := by omega
  have ho := kst_ok i hi3
  obtain ⟨h1, h2, h3⟩ := kw_ok i hi3
  have hl := leC_t (h3 j (by omega) hj)
  rw [Nat.zero_add] at hl
  have ec : cln (kst i + 60) = kln i := ho.2.1
  have idx : ∀ (x : Value) (kz : PH → Prop), kz h → (x = .null ∨ x = .ref 1090) → MetPM m_J3_checkIndex_8e157 [.int (nI j), .int (nI (cln (kst i + 60))), x] h (rI q (fun _ h1 => kz h1)) := fun x kz hz hx => by
    have T : ((nI j < 0 → False) ∧ (¬ nI j < 0 → ((nI j < nI (cln (kst i + 60)) → rI q (fun _ h1 => kz h1) (.inl (some (.int (nI j)))) h) ∧ (¬ nI j < nI (cln (kst i + 60)) → False)))) := by
      rw [ec]
      exact ⟨fun y => nI_pos (by omega) y, fun _ => ⟨fun _ => hz, fun y => y (nI_lt hj (by omega))⟩⟩
    rcases hx with rfl | rfl
    · exact t_J3_checkIndex_8e157_n T
    · exact t_J3_checkIndex_8e157_r T
  refine t_J0_charAt_5068e ⟨hc.1, t_J0_isLatin1_aae02 (br_f (by decide) ⟨hc.1, ?_⟩)⟩
  rw [kst_v hi3]
  refine ⟨fun y => absurd rfl y, fun _ => ⟨isB_1, f1 ⟨hc.1, ?_⟩⟩⟩
  rw [ho.2.2]
  refine t_J1_charAt_3b067 ⟨hc.2, t_J0_checkIndex_df160 ?_⟩
  have ev : ((((cby (kst i + 60) (nI j).toNatClampNeg) &&& (nI 255)).toUInt32 % 65536).toInt32) = nI (klt i j) := by
    rw [cl (by omega), kby hi3]
    have := (sb_byte (klt i j) (by omega))
    have e2 : nI (klt i j) &&& nI 255 = nI (klt i j) := by
      rw [pk_andN (by omega) 8 (by decide), Nat.mod_eq_of_lt (by omega)]
    rw [e2]; exact this.2.1
  have fin : ∀ x : Value, (x = .null ∨ x = .ref 1090) → MetPM m_J3_checkIndex_8e157 [.int (nI j), .int (nI (cln (kst i + 60))), x] h (rI q (fun _ h1 => cAr (kst i + 60) 1 ∧ vp_in (nI j) (cln (kst i + 60)) ∧ narrow .char (.int ((((cby (kst i + 60) (nI j).toNatClampNeg) &&& (nI 255)).toUInt32 % 65536).toInt32)) = .int ((((cby (kst i + 60) (nI j).toNatClampNeg) &&& (nI 255)).toUInt32 % 65536).toInt32) ∧ narrow .char (.int ((((cby (kst i + 60) (nI j).toNatClampNeg) &&& (nI 255)).toUInt32 % 65536).toInt32)) = .int ((((cby (kst i + 60) (nI j).toNatClampNeg) &&& (nI 255)).toUInt32 % 65536).toInt32) ∧ kk ((((cby (kst i + 60) (nI j).toNatClampNeg) &&& (nI 255)).toUInt32 % 65536).toInt32) h1)) := fun x hx => by
    refine idx x _ ⟨hc.2, ?_, pk_nc _, pk_nc _, ?_⟩ hx
    · rw [ec]; exact vp_in_nI hj (by omega)
    · rw [ev]; exact K
  exact ⟨fin _ (Or.inl rfl), fin _ (Or.inr rfl)⟩
/-- whether the token is a word -/
def kwB (c : Nat → Nat) (n p i : Nat) : Bool := decide (tK c n p = 1) && decide (tW c n p = K8 i)
theorem lgc_0 {x y : Int64} : lg_cmp x y = 0 ↔ x = y := by
  have h1 := lgc_lt (a := x) (b := y)
  have h2 := lgc_gt (a := x) (b := y)
  unfold lg_cmp at *
  by_cases c : x > y
  · rw [if_pos c]
    have : y.toInt < x.toInt := Int64.lt_iff_toInt_lt.mp c
    exact ⟨fun z => absurd z (by decide), fun z => by rw [z] at this; omega⟩
  · rw [if_neg c]
    by_cases d : x = y
    · rw [if_pos d]; exact ⟨fun _ => d, fun _ => rfl⟩
    · rw [if_neg d]; exact ⟨fun z => absurd z (by decide), fun z => absurd z d⟩
theorem l_isWord {i : Nat} (hi : i < 12 ∨ i = 22) (hp : p ≤ n) (T : CT c n p h) (K : kk (b2i (kwB c n p i)) h) : ∀ k j, j + k = kln i → At m_X10_isWord (rI q kk) 5 0 [some (.ref 1), some (.ref (kst i)), some (.long (lN (w8 (klt i) 0 j))), none, some (.int (nI j))] [] h := by
  have hc := kst_c hi
  have hi3 : i < 23 := by omega
  obtain ⟨h1, h2, h3⟩ := kw_ok i hi3
  have hk := tK_lt (c := c) (n := n) (p := p)
  intro k
  induction k with
  | zero =>
    intro j hj
    have ej : j = kln i := by omega
    subst ej
    refine u_X10_isWord_5 ⟨hc.1, c_len hi (br_t (nI_le (Nat.le_refl _) (by omega)) ?_)⟩
    rw [show gi h 1 4 = _ from T.1, nI_eq (by omega) (by omega)]
    unfold kwB at K
    refine ⟨fun e => ⟨isB_0, ?_⟩, fun e => ?_⟩
    · rw [decide_eq_false e] at K; exact K
    · rw [decide_eq_true e] at K
      obtain ⟨t1, t2, t3⟩ := tW_ok hp e
      have eq : lN (tW c n p) = lN (w8 (klt i) 0 (kln i)) ↔ tW c n p = K8 i := pk_lEQ (w8_63 t2 t3) (w8_63 h2 (fun j hj => h3 j (by omega) hj))
      rw [T.2.2.2.1 e, lgc_0, eq]
      refine ⟨fun d => ⟨isB_0, ?_⟩, fun d => ⟨isB_1, ?_⟩⟩
      · rw [decide_eq_false d] at K; exact K
      · rw [decide_eq_true d] at K; exact K
  | succ k ih =>
    intro j hj
    have hl := leC_t (h3 j (by omega) (by omega))
    rw [Nat.zero_add] at hl
    refine u_X10_isWord_5 ⟨hc.1, c_len hi (br_f (nI_ge (by omega) (by omega)) ⟨hc.1, c_chr hi (by omega) ?_⟩)⟩
    have hw : w8 (klt i) 0 j < 2 ^ 56 := Nat.lt_of_lt_of_le (w8_lt (fun m hm => by
      have := leC_t (h3 m (by omega) (by omega))
      omega)) (Nat.pow_le_pow_right (n := 256) (by omega) (show j ≤ 7 by omega))
    rw [sh8 hw (by omega), nI_add]
    have := ih (j + 1) (by omega)
    rw [w8, Nat.zero_add] at this
    exact this
theorem c_isWord {i : Nat} (hi : i < 12 ∨ i = 22) (hp : p ≤ n) (T : CT c n p h) (K : kk (b2i (kwB c n p i)) h) : MetPM m_X10_isWord [.ref 1, .ref (kst i)] h (rI q kk) := t_X10_isWord (l_isWord hi hp T K _ 0 (Nat.zero_add _))
end

