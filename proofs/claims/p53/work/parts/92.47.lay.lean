/-! ===== a layout's copy ===== -/
section
variable {q : Nat → PH → Prop} {kk : Int32 → PH → Prop} {kv : PH → Prop} {h h' : PH} {s t s' : RW} {C E D F : Nat} {a b0 u w : Nat} {f g z : FI}
/-- how far a layout's copy has come: ints and longs by cell and place -/
def PgL (a b0 : Nat) (S T : Nat → Nat → Bool) (h0 h : PH) : Prop := ((∀ i k, S i k = true → h.1 (a + i) k = h0.1 (b0 + i) k) ∧ (∀ c, (c < a ∨ a + 14 < c) → h.1 c = h0.1 c)) ∧ ((∀ i k, T i k = true → h.2.1 (a + i) k = h0.2.1 (b0 + i) k) ∧ (∀ c, (c < a ∨ a + 14 < c) → h.2.1 c = h0.2.1 c)) ∧ h.2.2 = h0.2.2
theorem PgL.si {S T : Nat → Nat → Bool} {h0 h : PH} (P : PgL a b0 S T h0 h) (hd : a + 15 ≤ b0 ∨ b0 + 15 ≤ a) (i0 k0 : Nat) (hi : i0 ≤ 14) : PgL a b0 (fun i k => S i k || (Nat.beq i i0 && Nat.beq k k0)) T h0 (si h (a + i0) k0 (gi h (b0 + i0) k0)) := by
  obtain ⟨⟨p1, p2⟩, p3⟩ := P
  refine ⟨⟨fun i k e => ?_, fun c hc => ?_⟩, p3⟩
  · by_cases c : i = i0 ∧ k = k0
    · obtain ⟨rfl, rfl⟩ := c
      rw [si_a, ups_s]
      show h.1 (b0 + i) k = _
      rw [p2 _ (by omega)]
    · have e2 : S i k = true := by
        rw [Bool.or_eq_true, Bool.and_eq_true] at e
        rcases e with e | e
        · exact e
        · exact absurd ⟨Nat.eq_of_beq_eq_true e.1, Nat.eq_of_beq_eq_true e.2⟩ c
      by_cases d : i = i0
      · subst d
        rw [si_a, ups_n (fun z => c ⟨rfl, z⟩)]
        exact p1 i k e2
      · rw [si_b (by omega)]
        exact p1 i k e2
  · rw [si_b (by omega)]
    exact p2 c hc
theorem PgL.cp {S T : Nat → Nat → Bool} {h0 h h' : PH} (P : PgL a b0 S T h0 h) (hd : a + 15 ≤ b0 ∨ b0 + 15 ≤ a) {i0 n : Nat} (hi : i0 ≤ 14) (X : Cp (b0 + i0) (a + i0) n h h') : PgL a b0 (fun i k => S i k || (Nat.beq i i0 && Nat.blt k n)) T h0 h' := by
  obtain ⟨⟨p1, p2⟩, p3⟩ := P
  refine ⟨⟨fun i k e => ?_, fun c hc => ?_⟩, by rw [X.2.2.1]; exact p3⟩
  · by_cases c : i = i0 ∧ k < n
    · obtain ⟨rfl, c2⟩ := c
      rw [X.2.1 k c2, p2 _ (by omega)]
    · have e2 : S i k = true := by
        rw [Bool.or_eq_true, Bool.and_eq_true] at e
        rcases e with e | e
        · exact e
        · exact absurd ⟨Nat.eq_of_beq_eq_true e.1, Nat.le_of_ble_eq_true e.2⟩ c
      by_cases d : i = i0
      · subst d
        rw [X.2.2.2 k (by omega)]
        exact p1 i k e2
      · rw [X.1 _ (by omega)]
        exact p1 i k e2
  · rw [X.1 c (by omega)]
    exact p2 c hc
/-- names are copied -/
def CpN (b a n : Nat) (h h' : PH) : Prop := ((∀ c, c ≠ a → h'.1 c = h.1 c) ∧ h'.1 a 1 = h.1 b 1 ∧ ∀ k, k ≠ 1 → h'.1 a k = h.1 a k) ∧ ((∀ c, c ≠ a + 1 → h'.2.1 c = h.2.1 c) ∧ (∀ j, j < n → h'.2.1 (a + 1) j = h.2.1 (b + 1) j) ∧ ∀ j, n ≤ j → h'.2.1 (a + 1) j = h.2.1 (a + 1) j) ∧ h'.2.2 = h.2.2
theorem PgL.nm {S T : Nat → Nat → Bool} {h0 h h' : PH} (P : PgL a b0 S T h0 h) (hd : a + 15 ≤ b0 ∨ b0 + 15 ≤ a) {i0 n : Nat} (hi : i0 ≤ 13) (X : CpN (b0 + i0) (a + i0) n h h') : PgL a b0 (fun i k => S i k || (Nat.beq i i0 && Nat.beq k 1)) (fun i k => T i k || (Nat.beq i (i0 + 1) && Nat.blt k n)) h0 h' := by
  obtain ⟨⟨p1, p2⟩, ⟨p3, p4⟩, p5⟩ := P
  obtain ⟨⟨x1, x2, x3⟩, ⟨x4, x5, x6⟩, x7⟩ := X
  refine ⟨⟨fun i k e => ?_, fun c hc => ?_⟩, ⟨fun i k e => ?_, fun c hc => ?_⟩, x7.trans p5⟩
  · by_cases c : i = i0 ∧ k = 1
    · obtain ⟨rfl, rfl⟩ := c
      rw [x2, p2 _ (by omega)]
    · have e2 : S i k = true := by
        rw [Bool.or_eq_true, Bool.and_eq_true] at e
        rcases e with e | e
        · exact e
        · exact absurd ⟨Nat.eq_of_beq_eq_true e.1, Nat.eq_of_beq_eq_true e.2⟩ c
      by_cases d : i = i0
      · subst d
        rw [x3 k (fun z => c ⟨rfl, z⟩)]
        exact p1 i k e2
      · rw [x1 _ (by omega)]
        exact p1 i k e2
  · rw [x1 c (by omega)]
    exact p2 c hc
  · by_cases c : i = i0 + 1 ∧ k < n
    · obtain ⟨rfl, c2⟩ := c
      show h'.2.1 (a + i0 + 1) k = h0.2.1 (b0 + i0 + 1) k
      rw [x5 k c2, p4 _ (by omega)]
    · have e2 : T i k = true := by
        rw [Bool.or_eq_true, Bool.and_eq_true] at e
        rcases e with e | e
        · exact e
        · exact absurd ⟨Nat.eq_of_beq_eq_true e.1, Nat.le_of_ble_eq_true e.2⟩ c
      by_cases d : i = i0 + 1
      · subst d
        have := x6 k (by omega)
        show h'.2.1 (a + i0 + 1) k = _
        rw [this]
        exact p3 (i0 + 1) k e2
      · rw [x4 _ (by omega)]
        exact p3 i k e2
  · rw [x4 c (by omega)]
    exact p4 c hc
theorem names_T {n a1 b1 : Nat} {Q : Res → PH → Prop} (hn : n < 2 ^ 31) (K : Q (.inl none) (si (cpl h (b1 + 1) 0 (a1 + 1) 0 n) a1 1 (gi (cpl h (b1 + 1) 0 (a1 + 1) 0 n) b1 1))) : (¬ (nI 0) < 0 ∧ ¬ (nI 0) < 0 ∧ ¬ (if (nI n) < (nI n) then (nI n) else (nI n)) < 0 ∧ (nI 0).toNatClampNeg + (if (nI n) < (nI n) then (nI n) else (nI n)).toNatClampNeg ≤ n ∧ (nI 0).toNatClampNeg + (if (nI n) < (nI n) then (nI n) else (nI n)).toNatClampNeg ≤ n) ∧ (let h1 : PH := (cpl h (b1 + 1) (nI 0).toNatClampNeg (a1 + 1) (nI 0).toNatClampNeg (if (nI n) < (nI n) then (nI n) else (nI n)).toNatClampNeg); Q (.inl none) (si h1 a1 1 (gi h1 b1 1))) := by
  have e : (if nI n < nI n then nI n else nI n) = nI n := by split <;> rfl
  rw [e, nI_clamp hn, nI_clamp (by omega)]
  exact ⟨⟨nI_pos (by omega), nI_pos (by omega), nI_pos hn, by omega, by omega⟩, K⟩
theorem names_C {n a1 b1 : Nat} (hab : a1 ≠ b1) : CpN b1 a1 n h (si (cpl h (b1 + 1) 0 (a1 + 1) 0 n) a1 1 (gi (cpl h (b1 + 1) 0 (a1 + 1) 0 n) b1 1)) := by
  refine ⟨⟨fun c hc => by rw [si_b hc]; rfl, by rw [si_a, ups_s]; rfl, fun k hk => by rw [si_a, ups_n hk]; rfl⟩, ⟨fun c hc => if_neg hc, fun j hj => ?_, fun j hj => ?_⟩, rfl⟩
  · show (if a1 + 1 = a1 + 1 then va_cpy (h.2.1 (b1 + 1)) (h.2.1 (a1 + 1)) 0 0 n else h.2.1 (a1 + 1)) j = _
    rw [if_pos rfl, pk_cpy_in (by omega) (by omega), show 0 + (j - 0) = j by omega]
  · show (if a1 + 1 = a1 + 1 then va_cpy (h.2.1 (b1 + 1)) (h.2.1 (a1 + 1)) 0 0 n else h.2.1 (a1 + 1)) j = _
    rw [if_pos rfl, pk_cpy_out (by omega)]
def HL (a b0 : Nat) : Prop := (a = 15 ∧ b0 = 30) ∨ (a = 45 ∧ b0 = 15) ∨ (a = 15 ∧ b0 = 45)
theorem HL.n1 (hl : HL a b0) (K : ∀ h', CpN (b0 + 1) (a + 1) 8 h h' → kv h') : MetPM m_X6_copyFrom [.ref (a + 1), .ref (b0 + 1)] h (rV q kv) := by
  rcases hl with ⟨rfl, rfl⟩ | ⟨rfl, rfl⟩ | ⟨rfl, rfl⟩
  · exact t_X6_copyFrom_16_31 (names_T (n := 8) (a1 := 16) (b1 := 31) (by omega) (K _ (names_C (by omega))))
  · exact t_X6_copyFrom_46_16 (names_T (n := 8) (a1 := 46) (b1 := 16) (by omega) (K _ (names_C (by omega))))
  · exact t_X6_copyFrom_16_46 (names_T (n := 8) (a1 := 16) (b1 := 46) (by omega) (K _ (names_C (by omega))))
theorem HL.n6 (hl : HL a b0) (K : ∀ h', CpN (b0 + 6) (a + 6) 5 h h' → kv h') : MetPM m_X6_copyFrom [.ref (a + 6), .ref (b0 + 6)] h (rV q kv) := by
  rcases hl with ⟨rfl, rfl⟩ | ⟨rfl, rfl⟩ | ⟨rfl, rfl⟩
  · exact t_X6_copyFrom_21_36 (names_T (n := 5) (a1 := 21) (b1 := 36) (by omega) (K _ (names_C (by omega))))
  · exact t_X6_copyFrom_51_21 (names_T (n := 5) (a1 := 51) (b1 := 21) (by omega) (K _ (names_C (by omega))))
  · exact t_X6_copyFrom_21_51 (names_T (n := 5) (a1 := 21) (b1 := 51) (by omega) (K _ (names_C (by omega))))
theorem HL.n11 (hl : HL a b0) (K : ∀ h', CpN (b0 + 11) (a + 11) 12 h h' → kv h') : MetPM m_X6_copyFrom [.ref (a + 11), .ref (b0 + 11)] h (rV q kv) := by
  rcases hl with ⟨rfl, rfl⟩ | ⟨rfl, rfl⟩ | ⟨rfl, rfl⟩
  · exact t_X6_copyFrom_26_41 (names_T (n := 12) (a1 := 26) (b1 := 41) (by omega) (K _ (names_C (by omega))))
  · exact t_X6_copyFrom_56_26 (names_T (n := 12) (a1 := 56) (b1 := 26) (by omega) (K _ (names_C (by omega))))
  · exact t_X6_copyFrom_26_56 (names_T (n := 12) (a1 := 26) (b1 := 56) (by omega) (K _ (names_C (by omega))))
theorem HL.ar (hl : HL a b0) : (∀ i, i = 3 ∨ i = 4 ∨ i = 5 → arN (a + i) 0 = some 8 ∧ arN (b0 + i) 0 = some 8) ∧ (∀ i, i = 8 ∨ i = 9 ∨ i = 10 → arN (a + i) 0 = some 5 ∧ arN (b0 + i) 0 = some 5) ∧ (∀ i, i = 13 ∨ i = 14 → arN (a + i) 0 = some 12 ∧ arN (b0 + i) 0 = some 12) := by
  rcases hl with ⟨rfl, rfl⟩ | ⟨rfl, rfl⟩ | ⟨rfl, rfl⟩
  all_goals
    refine ⟨?_, ?_, ?_⟩
    · rintro i (rfl | rfl | rfl) <;> exact ⟨rfl, rfl⟩
    · rintro i (rfl | rfl | rfl) <;> exact ⟨rfl, rfl⟩
    · rintro i (rfl | rfl) <;> exact ⟨rfl, rfl⟩
theorem HL.df (hl : HL a b0) : a + 15 ≤ b0 ∨ b0 + 15 ≤ a := by
  unfold HL at hl
  omega
/-- a layout that is a copy -/
def LyC (a b0 : Nat) (h h' : PH) : Prop := ((h'.1 (a + 1) 1 = h.1 (b0 + 1) 1 ∧ h'.1 (a + 6) 1 = h.1 (b0 + 6) 1 ∧ h'.1 (a + 11) 1 = h.1 (b0 + 11) 1) ∧ (∀ k, 11 ≤ k → k ≤ 17 → h'.1 a k = h.1 b0 k) ∧
  (∀ i, i = 3 ∨ i = 4 ∨ i = 5 → ∀ j, j < 8 → h'.1 (a + i) j = h.1 (b0 + i) j) ∧ (∀ i, i = 8 ∨ i = 9 ∨ i = 10 → ∀ j, j < 5 → h'.1 (a + i) j = h.1 (b0 + i) j) ∧ (∀ i, i = 13 ∨ i = 14 → ∀ j, j < 12 → h'.1 (a + i) j = h.1 (b0 + i) j)) ∧
  ((∀ j, j < 8 → gl h' (a + 2) j = gl h (b0 + 2) j) ∧ (∀ j, j < 5 → gl h' (a + 7) j = gl h (b0 + 7) j) ∧ (∀ j, j < 12 → gl h' (a + 12) j = gl h (b0 + 12) j))
theorem c_copyLy (hl : HL a b0) (K : ∀ h', (∀ c, (c < a ∨ a + 14 < c) → h'.1 c = h.1 c ∧ h'.2.1 c = h.2.1 c) → h'.2.2 = h.2.2 → LyC a b0 h h' → kv h') : MetPM m_X5_copyFrom [.ref a, .ref b0] h (rV q kv) := by
  have hd := hl.df
  obtain ⟨r8, r5, r12⟩ := hl.ar
  have P0 : PgL a b0 (fun _ _ => false) (fun _ _ => false) h h := ⟨⟨fun _ _ e => (by cases e), fun _ _ => rfl⟩, ⟨fun _ _ e => (by cases e), fun _ _ => rfl⟩, rfl⟩
  refine t_X5_copyFrom hl (hl.n1 (fun h1 k1 => ?_))
  have P1 := P0.nm hd (by omega) k1
  refine c_copyRow (r8 3 (by omega)).2 (r8 3 (by omega)).1 (by omega) (fun h2 k2 => ?_)
  have P2 := P1.cp hd (by omega) k2
  refine c_copyRow (r8 4 (by omega)).2 (r8 4 (by omega)).1 (by omega) (fun h3 k3 => ?_)
  have P3 := P2.cp hd (by omega) k3
  refine c_copyRow (r8 5 (by omega)).2 (r8 5 (by omega)).1 (by omega) (fun h4 k4 => ?_)
  have P4 := P3.cp hd (by omega) k4
  refine hl.n6 (fun h5 k5 => ?_)
  have P5 := P4.nm hd (by omega) k5
  refine c_copyRow (r5 8 (by omega)).2 (r5 8 (by omega)).1 (by omega) (fun h6 k6 => ?_)
  have P6 := P5.cp hd (by omega) k6
  refine c_copyRow (r5 9 (by omega)).2 (r5 9 (by omega)).1 (by omega) (fun h7 k7 => ?_)
  have P7 := P6.cp hd (by omega) k7
  refine c_copyRow (r5 10 (by omega)).2 (r5 10 (by omega)).1 (by omega) (fun h8 k8 => ?_)
  have P8 := P7.cp hd (by omega) k8
  refine hl.n11 (fun h9 k9 => ?_)
  have P9 := P8.nm hd (by omega) k9
  refine c_copyRow (r12 13 (by omega)).2 (r12 13 (by omega)).1 (by omega) (fun h10 k10 => ?_)
  have P10 := P9.cp hd (by omega) k10
  refine c_copyRow (r12 14 (by omega)).2 (r12 14 (by omega)).1 (by omega) (fun h11 k11 => ?_)
  have P11 := P10.cp hd (by omega) k11
  intro h12
  have P12 : PgL a b0 _ _ h h12 := ((P11.si hd 0 11 (by omega)).si hd 0 12 (by omega)).si hd 0 13 (by omega)
  clear_value h12
  intro h13
  have P13 : PgL a b0 _ _ h h13 := ((P12.si hd 0 14 (by omega)).si hd 0 15 (by omega)).si hd 0 16 (by omega)
  clear_value h13
  have P := P13.si hd 0 17 (by omega)
  have l8 : ∀ j, j < 8 → Nat.blt j 8 = true := fun j hj => Nat.ble_eq_true_of_le hj
  have l5 : ∀ j, j < 5 → Nat.blt j 5 = true := fun j hj => Nat.ble_eq_true_of_le hj
  have l12 : ∀ j, j < 12 → Nat.blt j 12 = true := fun j hj => Nat.ble_eq_true_of_le hj
  refine K _ (fun c hc => ⟨P.1.2 c hc, P.2.1.2 c hc⟩) P.2.2 ⟨⟨⟨P.1.1 1 1 rfl, P.1.1 6 1 rfl, P.1.1 11 1 rfl⟩, fun k h1 h2 => ?_, fun i hi j hj => ?_, fun i hi j hj => ?_, fun i hi j hj => ?_⟩, fun j hj => ?_, fun j hj => ?_, fun j hj => ?_⟩
  · rcases (by omega : k = 11 ∨ k = 12 ∨ k = 13 ∨ k = 14 ∨ k = 15 ∨ k = 16 ∨ k = 17) with rfl | rfl | rfl | rfl | rfl | rfl | rfl
    all_goals exact P.1.1 0 _ rfl
  · rcases hi with rfl | rfl | rfl
    all_goals exact P.1.1 _ j (by simp [l8 j hj])
  · rcases hi with rfl | rfl | rfl
    all_goals exact P.1.1 _ j (by simp [l5 j hj])
  · rcases hi with rfl | rfl
    all_goals exact P.1.1 _ j (by simp [l12 j hj])
  · exact P.2.1.1 2 j (by simp [l8 j hj])
  · exact P.2.1.1 7 j (by simp [l5 j hj])
  · exact P.2.1.1 12 j (by simp [l12 j hj])
theorem LyR.cp (R : RkL s) (X : LyC a b0 h h') (Y : LyR b0 s h.1) : LyR a s h'.1 := by
  obtain ⟨⟨⟨x1, x2, x3⟩, x4, x5, x6, x7⟩, -⟩ := X
  have hm := R.m.2
  have hv := R.v.2
  have hp := R.p.2
  have hw := R.w.2
  refine ⟨?_, ?_, ?_, ?_, ?_, ?_, ?_, ?_, ?_, ?_, ?_, ?_, ?_, ?_, ?_, ?_, ?_, ?_⟩
  · rw [x1]; exact Y.nv
  · rw [x2]; exact Y.np
  · rw [x3]; exact Y.nm
  · rw [x4 12 (by omega) (by omega)]; exact Y.wa
  · rw [x4 11 (by omega) (by omega)]; exact Y.li
  · rw [x4 13 (by omega) (by omega)]; exact Y.sk
  · rw [x4 14 (by omega) (by omega)]; exact Y.dn
  · rw [x4 15 (by omega) (by omega)]; exact Y.tk
  · rw [x4 16 (by omega) (by omega)]; exact Y.so
  · rw [x4 17 (by omega) (by omega)]; exact Y.lm
  · intro v hv; rw [x5 3 (by omega) v (by omega)]; exact Y.lo v hv
  · intro v hv; rw [x5 4 (by omega) v (by omega)]; exact Y.hi v hv
  · intro v hv i hi; rw [x5 5 (by omega) v (by omega)]; exact Y.ta v hv i hi
  · intro v hv; rw [x6 8 (by omega) v (by omega)]; exact Y.wp v hv
  · intro v hv; rw [x6 9 (by omega) v (by omega)]; exact Y.ps v hv
  · intro v hv; rw [x6 10 (by omega) v (by omega)]; exact Y.ws v hv
  · intro v hv; rw [x7 13 (by omega) v (by omega)]; exact Y.po v hv
  · intro v hv; rw [x7 14 (by omega) v (by omega)]; exact Y.pa v hv
/-- names, both sides copied -/
theorem NmR.cp {m n : Nat} (R : RkL s) (e : agL s t) (X : (∀ j, j < 8 → gl h' (a + 2) j = gl h (b0 + 2) j) ∧ (∀ j, j < 5 → gl h' (a + 7) j = gl h (b0 + 7) j) ∧ (∀ j, j < 12 → gl h' (a + 12) j = gl h (b0 + 12) j)) (M : ∀ j, j < 25 → gl h' m j = gl h n j) (N : NmR b0 n s h) : NmR a m t h' := by
  obtain ⟨x1, x2, x3⟩ := X
  obtain ⟨n1, n2, n3, n4, n5, n6⟩ := N
  have hm := R.m.2
  have hv := R.v.2
  have hp := R.p.2
  refine ⟨?_, ?_, ?_, ?_, ?_, ?_⟩
  · rw [e.n0]; intro i hi; rw [x1 i (by omega), M i (by omega)]; exact n1 i hi
  · rw [e.n1]; intro i hi; rw [x2 i (by omega), M (8 + i) (by omega)]; exact n2 i hi
  · rw [e.n2]; intro i hi; rw [x3 i (by omega), M (13 + i) (by omega)]; exact n3 i hi
  · rw [e.n0]; intro i j h1 h2; rw [M i (by omega), M j (by omega)]; exact n4 i j h1 h2
  · rw [e.n1]; intro i j h1 h2; rw [M (8 + i) (by omega), M (8 + j) (by omega)]; exact n5 i j h1 h2
  · rw [e.n2]; intro i j h1 h2; rw [M (13 + i) (by omega), M (13 + j) (by omega)]; exact n6 i j h1 h2
end

