/-! ===== tokens: what they are; the class's ===== -/
section
variable {q : Nat → PH → Prop} {kk : Int32 → PH → Prop} {kv : PH → Prop} {h h' : PH} {s t s' : RW} {C E D F : Nat} {a b0 u w n p : Nat} {f g z : FI} {c : Nat → Nat}
/-- a run's end -/
def rn (P : Nat → Bool) (n : Nat) : Nat → Nat → Nat
  | 0, p => p
  | k + 1, p => if (Nat.blt p n && P p) = true then rn P n k (p + 1) else p
def rE (P : Nat → Bool) (n p : Nat) : Nat := rn P n (n - p) p
theorem rE_go {P : Nat → Bool} (hp : p < n) (e : P p = true) : rE P n p = rE P n (p + 1) := by
  unfold rE
  rw [show n - p = (n - (p + 1)) + 1 by omega, rn, if_pos]
  rw [e, show Nat.blt p n = true from Nat.ble_eq_true_of_le hp]; rfl
theorem rE_no {P : Nat → Bool} (e : n ≤ p ∨ P p = false) : rE P n p = p := by
  unfold rE
  rcases Nat.lt_or_ge p n with c | c
  · rw [show n - p = (n - (p + 1)) + 1 by omega, rn, if_neg]
    rcases e with e | e
    · omega
    · rw [e, Bool.and_false]; decide
  · rw [show n - p = 0 by omega, rn]
theorem rE_in {P : Nat → Bool} : ∀ k p, p + k = n → p ≤ rE P n p ∧ rE P n p ≤ n ∧ (∀ j, p ≤ j → j < rE P n p → P j = true) ∧ (rE P n p < n → P (rE P n p) = false)
  | 0, p, h => by
    rw [rE_no (Or.inl (by omega))]
    exact ⟨Nat.le_refl _, by omega, fun j h1 h2 => by omega, fun h1 => by omega⟩
  | k + 1, p, h => by
    cases e : P p
    · rw [rE_no (Or.inr e)]
      exact ⟨Nat.le_refl _, by omega, fun j h1 h2 => by omega, fun _ => e⟩
    · rw [rE_go (by omega) e]
      obtain ⟨h1, h2, h3, h4⟩ := rE_in k (p + 1) (by omega)
      refine ⟨by omega, h2, fun j x1 x2 => ?_, h4⟩
      by_cases d : j = p
      · rw [d]; exact e
      · exact h3 j (by omega) x2
theorem rE_le {P : Nat → Bool} (hp : p ≤ n) : p ≤ rE P n p ∧ rE P n p ≤ n := ⟨(rE_in (n - p) p (by omega)).1, (rE_in (n - p) p (by omega)).2.1⟩
def spC (x : Nat) : Bool := decide (x = 32) || decide (x = 10)
def diC (x : Nat) : Bool := Nat.ble 48 x && Nat.ble x 57
theorem leC_t {x : Nat} (e : leC x = true) : 97 ≤ x ∧ x ≤ 122 := by
  unfold leC at e
  rw [Bool.and_eq_true] at e
  exact ⟨Nat.le_of_ble_eq_true e.1, Nat.le_of_ble_eq_true e.2⟩
theorem diC_t {x : Nat} (e : diC x = true) : 48 ≤ x ∧ x ≤ 57 := by
  unfold diC at e
  rw [Bool.and_eq_true] at e
  exact ⟨Nat.le_of_ble_eq_true e.1, Nat.le_of_ble_eq_true e.2⟩
/-- letters packed, digits read -/
def vl (c : Nat → Nat) (p : Nat) : Nat → Nat
  | 0 => 0
  | k + 1 => vl c p k * 10 + (c (p + k) - 48)
def tS (c : Nat → Nat) (n p : Nat) : Nat := rE (fun j => spC (c j)) n p
def wE (c : Nat → Nat) (n p : Nat) : Nat := rE (fun j => leC (c j)) n p
def dE (c : Nat → Nat) (n p : Nat) : Nat := rE (fun j => diC (c j)) n p
/-- the token at s: its kind, its end -/
def kK (c : Nat → Nat) (n s : Nat) : Nat := if n ≤ s then 0 else if leC (c s) = true then (if wE c n s - s ≤ 8 then 1 else 6) else if diC (c s) = true then (if dE c n s - s ≤ 3 then 2 else 6) else if c s = 59 then 3 else if c s = 40 then 4 else if c s = 41 then 5 else 6
def kE (c : Nat → Nat) (n s : Nat) : Nat := if n ≤ s then s else if leC (c s) = true then wE c n s else if diC (c s) = true then dE c n s else s + 1
def tK (c : Nat → Nat) (n p : Nat) : Nat := kK c n (tS c n p)
def tE (c : Nat → Nat) (n p : Nat) : Nat := kE c n (tS c n p)
def tW (c : Nat → Nat) (n p : Nat) : Nat := w8 c (tS c n p) (tE c n p - tS c n p)
def tM (c : Nat → Nat) (n p : Nat) : Nat := w5 c (tS c n p) (tE c n p - tS c n p)
def tV (c : Nat → Nat) (n p : Nat) : Nat := vl c (tS c n p) (tE c n p - tS c n p)
theorem tS_le (hp : p ≤ n) : p ≤ tS c n p ∧ tS c n p ≤ n := rE_le hp
theorem kE_le {s : Nat} (hs : s ≤ n) : s ≤ kE c n s ∧ kE c n s ≤ n := by
  unfold kE
  split
  · omega
  · split
    · exact rE_le hs
    · split
      · exact rE_le hs
      · omega
theorem tE_le (hp : p ≤ n) : tS c n p ≤ tE c n p ∧ tE c n p ≤ n := kE_le (tS_le hp).2
theorem tE_lt (hp : p ≤ n) (h : tK c n p ≠ 0) : p < tE c n p := by
  have h1 := tS_le (c := c) hp
  unfold tK kK at h
  unfold tE kE
  split at h
  · omega
  · rename_i d
    rw [if_neg d]
    split at h
    · rename_i e
      rw [if_pos e]
      have := rE_le (P := fun j => leC (c j)) (n := n) (p := tS c n p + 1) (by omega)
      unfold wE
      rw [rE_go (P := fun j => leC (c j)) (by omega) e]
      omega
    · rename_i e
      rw [if_neg e]
      split at h
      · rename_i e2
        rw [if_pos e2]
        have := rE_le (P := fun j => diC (c j)) (n := n) (p := tS c n p + 1) (by omega)
        unfold dE
        rw [rE_go (P := fun j => diC (c j)) (by omega) e2]
        omega
      · rename_i e2
        rw [if_neg e2]
        omega
theorem w8_lt {k : Nat} (h : ∀ j, j < k → c (p + j) < 256) : w8 c p k < 256 ^ k := by
  induction k with
  | zero => exact Nat.one_pos
  | succ k ih =>
    have h1 := ih (fun j hj => h j (by omega))
    have h2 := h k (by omega)
    rw [w8, Nat.pow_succ]
    omega
theorem w5_lt {k : Nat} (h : ∀ j, j < k → c (p + j) < 128) : w5 c p k < 32 ^ k := by
  induction k with
  | zero => exact Nat.one_pos
  | succ k ih =>
    have h1 := ih (fun j hj => h j (by omega))
    have h2 := h k (by omega)
    rw [w5, Nat.pow_succ]
    omega
theorem vl_lt {k : Nat} (h : ∀ j, j < k → c (p + j) ≤ 57) : vl c p k < 10 ^ k := by
  induction k with
  | zero => exact Nat.one_pos
  | succ k ih =>
    have h1 := ih (fun j hj => h j (by omega))
    have h2 := h k (by omega)
    rw [vl, Nat.pow_succ]
    omega
theorem sh8 {a x : Nat} (ha : a < 2 ^ 56) (hx : x < 256) : (lN a <<< ((nI 8).toInt64 &&& 63)) ||| (nI x).toInt64 = lN (a * 256 + x) := by
  rw [nI_l (n := x) (by omega)]
  apply Int64.toBitVec_inj.mp
  rw [Int64.toBitVec_or, Int64.toBitVec_shiftLeft]
  apply BitVec.eq_of_toNat_eq
  show (BitVec.ofNat 64 a <<< (((nI 8).toInt64 &&& 63).toBitVec.smod 64).toNat ||| BitVec.ofNat 64 x).toNat = (BitVec.ofNat 64 (a * 256 + x)).toNat
  rw [show (((nI 8).toInt64 &&& 63).toBitVec.smod 64).toNat = 8 by decide, BitVec.toNat_or, BitVec.toNat_shiftLeft, BitVec.toNat_ofNat, BitVec.toNat_ofNat, BitVec.toNat_ofNat, Nat.mod_eq_of_lt (a := a) (by omega), Nat.mod_eq_of_lt (a := x) (by omega), Nat.mod_eq_of_lt (a := a * 256 + x) (by omega), Nat.shiftLeft_eq, Nat.mod_eq_of_lt (by omega)]
  have := Nat.shiftLeft_add_eq_or_of_lt (a := a) (b := x) (i := 8) hx
  rw [Nat.shiftLeft_eq] at this
  rw [← this]
theorem sh5 {a x : Nat} (ha : a < 2 ^ 56) (hx : x < 32) : (lN a <<< ((nI 5).toInt64 &&& 63)) ||| (nI x).toInt64 = lN (a * 32 + x) := by
  rw [nI_l (n := x) (by omega)]
  apply Int64.toBitVec_inj.mp
  rw [Int64.toBitVec_or, Int64.toBitVec_shiftLeft]
  apply BitVec.eq_of_toNat_eq
  show (BitVec.ofNat 64 a <<< (((nI 5).toInt64 &&& 63).toBitVec.smod 64).toNat ||| BitVec.ofNat 64 x).toNat = (BitVec.ofNat 64 (a * 32 + x)).toNat
  rw [show (((nI 5).toInt64 &&& 63).toBitVec.smod 64).toNat = 5 by decide, BitVec.toNat_or, BitVec.toNat_shiftLeft, BitVec.toNat_ofNat, BitVec.toNat_ofNat, BitVec.toNat_ofNat, Nat.mod_eq_of_lt (a := a) (by omega), Nat.mod_eq_of_lt (a := x) (by omega), Nat.mod_eq_of_lt (a := a * 32 + x) (by omega), Nat.shiftLeft_eq, Nat.mod_eq_of_lt (by omega)]
  have := Nat.shiftLeft_add_eq_or_of_lt (a := a) (b := x) (i := 5) hx
  rw [Nat.shiftLeft_eq] at this
  rw [← this]
theorem sbq : ∀ x, x < 256 → ((sb_b x = nI 32 ↔ x = 32) ∧ (sb_b x = nI 10 ↔ x = 10)) ∧ ((sb_b x = nI 59 ↔ x = 59) ∧ (sb_b x = nI 40 ↔ x = 40) ∧ (sb_b x = nI 41 ↔ x = 41)) ∧ ((leC x = true ↔ ¬ sb_b x < nI 97 ∧ ¬ nI 122 < sb_b x) ∧ (diC x = true ↔ ¬ sb_b x < nI 48 ∧ ¬ nI 57 < sb_b x)) ∧ (leC x = true → sb_b x = nI x) ∧ (diC x = true → sb_b x = nI x) := by decide +kernel
/-- the class's bytes -/
def CB (c : Nat → Nat) (n : Nat) (h : PH) : Prop := n ≤ 900 ∧ (∀ j, c j < 256) ∧ gi h 1 1 = nI n ∧ ∀ j, j < n → gi h 2 j = sb_b (c j)
/-- the class's token -/
def CT (c : Nat → Nat) (n p : Nat) (h : PH) : Prop := gi h 1 4 = nI (tK c n p) ∧ gi h 1 5 = nI (tS c n p) ∧ gi h 1 8 = nI (tE c n p) ∧ (tK c n p = 1 → gl h 1 6 = lN (tW c n p)) ∧ (tK c n p = 2 → gi h 1 7 = nI (tV c n p))
/-- what reading tokens may change -/
def WA (b k : Nat) : Prop := b = 1 ∧ 4 ≤ k
def VA (b : Nat) : Prop := b = 1
theorem CB.fz {W : Nat → Nat → Prop} {V : Nat → Prop} (x : Fz W V h h') (w1 : ¬ W 1 1) (w2 : ∀ k, ¬ W 2 k) (B : CB c n h) : CB c n h' := by
  obtain ⟨b1, b2, b3, b4⟩ := B
  exact ⟨b1, b2, by rw [x.1 _ _ w1]; exact b3, fun j hj => by rw [x.1 _ _ (w2 j)]; exact b4 j hj⟩
theorem FA_i {k : Nat} {x : Int32} (hk : 4 ≤ k) : Fz WA VA h (si h 1 k x) := Fz.si h x ⟨rfl, hk⟩
theorem FA_l {k : Nat} {x : Int64} : Fz WA VA h (sl h 1 k x) := Fz.sl h x rfl
theorem CB.fa (x : Fz WA VA h h') (B : CB c n h) : CB c n h' := B.fz x (by unfold WA; omega) (fun k => by unfold WA; omega)
theorem l_scanW {h0 : PH} {s : Nat} (hs : s ≤ n) (K : ∀ h', Fz WA VA h0 h' → gi h' 1 4 = nI (if wE c n s - s ≤ 8 then 1 else 6) → gi h' 1 5 = nI s → gi h' 1 8 = nI (wE c n s) → (wE c n s - s ≤ 8 → gl h' 1 6 = lN (w8 c s (wE c n s - s))) → kv h') : ∀ k j h, j + k = n → s ≤ j → wE c n j = wE c n s → CB c n h → Fz WA VA h0 h → gi h 1 5 = nI s → gi h 1 8 = nI j → (∀ i, s ≤ i → i < j → leC (c i) = true) → (j - s ≤ 8 → gl h 1 6 = lN (w8 c s (j - s))) → At m_X10_scanWord (rV q kv) 5 0 [some (.ref 1)] [] h := by
  have stop : ∀ j h, s ≤ j → j ≤ n → wE c n j = j → wE c n j = wE c n s → CB c n h → Fz WA VA h0 h → gi h 1 5 = nI s → gi h 1 8 = nI j → (j - s ≤ 8 → gl h 1 6 = lN (w8 c s (j - s))) → (nI 8 < gi h 1 8 - gi h 1 5 → rV q kv (.inl none) (si h 1 4 (nI 6))) ∧ (¬ nI 8 < gi h 1 8 - gi h 1 5 → rV q kv (.inl none) (si h 1 4 (nI 1))) := fun j h h1 h2 e1 e2 B F e5 e8 el => by
    have hn := B.1
    have e9 : wE c n s = j := e2.symm.trans e1
    rw [e9] at K
    rw [e5, e8, pk_sub h1]
    refine pk_lt 8 (j - s) (fun d => ?_) (fun d => ?_)
    · refine K _ (F.trans (FA_i (by omega))) ?_ ?_ ?_ (fun y => absurd y (by omega))
      · rw [gi_same, if_neg (by omega)]
      · rw [gi_ok (by omega)]; exact e5
      · rw [gi_ok (by omega)]; exact e8
    · refine K _ (F.trans (FA_i (by omega))) ?_ ?_ ?_ (fun y => el y)
      · rw [gi_same, if_pos (by omega)]
      · rw [gi_ok (by omega)]; exact e5
      · rw [gi_ok (by omega)]; exact e8
  intro k
  induction k with
  | zero =>
    intro j h hj hs2 ew B F e5 e8 al el
    have hn := B.1
    refine u_X10_scanWord_5 ?_
    have st := stop j h hs2 (by omega) (rE_no (Or.inl (by omega))) ew B F e5 e8 el
    rw [show gi h 1 1 = nI n from B.2.2.1]
    refine ⟨fun _ => st, fun y => ?_⟩
    rw [e8] at y
    exact absurd (nI_le (by omega) (by omega)) y
  | succ k ih =>
    intro j h hj hs2 ew B F e5 e8 al el
    have hn := B.1
    have hc := B.2.1 j
    have sq := sbq (c j) hc
    have st := fun (y : leC (c j) = false) => stop j h hs2 (by omega) (rE_no (Or.inr y)) ew B F e5 e8 el
    refine u_X10_scanWord_5 ?_
    rw [show gi h 1 1 = nI n from B.2.2.1]
    have nle : ¬ nI n ≤ gi h 1 8 := by rw [e8]; exact nI_ge (by omega) (by omega)
    refine br_f nle ?_
    have eb : gi h 2 (gi h 1 8).toNatClampNeg = sb_b (c j) := by rw [e8, cl (by omega)]; exact B.2.2.2 j (by omega)
    rw [eb]
    have vp : vp_in (gi h 1 8) 900 := by rw [e8]; exact vp_in_nI (by omega) (by omega)
    refine ⟨vp, fun y => st ?_, fun y => ⟨vp, fun y2 => st ?_, fun y2 => ⟨vp, ?_⟩⟩⟩
    · cases e : leC (c j)
      · rfl
      · exact absurd y (sq.2.2.1.1.mp e).1
    · cases e : leC (c j)
      · rfl
      · exact absurd y2 (sq.2.2.1.1.mp e).2
    · have e : leC (c j) = true := sq.2.2.1.1.mpr ⟨y, y2⟩
      have hl := leC_t e
      intro h1
      have F1 : Fz WA VA h h1 := FA_l
      have g1 : ∀ b k, gi h1 b k = gi h b k := fun b k => rfl
      have l1 : j + 1 - s ≤ 8 → gl h1 1 6 = lN (w8 c s (j + 1 - s)) := fun d => by
        show gl (sl h 1 6 _) 1 6 = _
        rw [gl_same, el (by omega), sq.2.2.2.1 e, sh8 (Nat.lt_of_lt_of_le (w8_lt (c := c) (p := s) (k := j - s) (fun i hi => by
          have := leC_t (al (s + i) (by omega) (by omega))
          omega)) (Nat.pow_le_pow_right (n := 256) (by omega) (show j - s ≤ 7 by omega))) (by omega), show j + 1 - s = (j - s) + 1 by omega, w8, show s + (j - s) = j by omega]
      clear_value h1
      rw [g1, e8, nI_add]
      refine ih (j + 1) _ (by omega) (by omega) ?_ (B.fa (F1.trans (FA_i (by omega)))) (F.trans (F1.trans (FA_i (by omega)))) ?_ gi_same (fun i h2 h3 => ?_) (fun d => l1 d)
      · rw [← ew]
        exact (rE_go (P := fun i => leC (c i)) (by omega) e).symm
      · rw [gi_ok (by omega), g1]; exact e5
      · by_cases d : i = j
        · rw [d]; exact e
        · exact al i h2 (by omega)
theorem l_scanD {h0 : PH} {s : Nat} (hs : s ≤ n) (K : ∀ h', Fz WA VA h0 h' → gi h' 1 4 = nI (if dE c n s - s ≤ 3 then 2 else 6) → gi h' 1 5 = nI s → gi h' 1 8 = nI (dE c n s) → (dE c n s - s ≤ 3 → gi h' 1 7 = nI (vl c s (dE c n s - s))) → kv h') : ∀ k j h, j + k = n → s ≤ j → dE c n j = dE c n s → CB c n h → Fz WA VA h0 h → gi h 1 5 = nI s → gi h 1 8 = nI j → (∀ i, s ≤ i → i < j → diC (c i) = true) → (j - s ≤ 3 → gi h 1 7 = nI (vl c s (j - s))) → At m_X10_scanNumber (rV q kv) 5 0 [some (.ref 1)] [] h := by
  have stop : ∀ j h, s ≤ j → j ≤ n → dE c n j = j → dE c n j = dE c n s → CB c n h → Fz WA VA h0 h → gi h 1 5 = nI s → gi h 1 8 = nI j → (j - s ≤ 3 → gi h 1 7 = nI (vl c s (j - s))) → (nI 3 < gi h 1 8 - gi h 1 5 → rV q kv (.inl none) (si h 1 4 (nI 6))) ∧ (¬ nI 3 < gi h 1 8 - gi h 1 5 → rV q kv (.inl none) (si h 1 4 (nI 2))) := fun j h h1 h2 e1 e2 B F e5 e8 el => by
    have hn := B.1
    have e9 : dE c n s = j := e2.symm.trans e1
    rw [e9] at K
    rw [e5, e8, pk_sub h1]
    refine pk_lt 3 (j - s) (fun d => ?_) (fun d => ?_)
    · refine K _ (F.trans (FA_i (by omega))) ?_ ?_ ?_ (fun y => absurd y (by omega))
      · rw [gi_same, if_neg (by omega)]
      · rw [gi_ok (by omega)]; exact e5
      · rw [gi_ok (by omega)]; exact e8
    · refine K _ (F.trans (FA_i (by omega))) ?_ ?_ ?_ (fun y => by rw [gi_ok (by omega)]; exact el y)
      · rw [gi_same, if_pos (by omega)]
      · rw [gi_ok (by omega)]; exact e5
      · rw [gi_ok (by omega)]; exact e8
  intro k
  induction k with
  | zero =>
    intro j h hj hs2 ew B F e5 e8 al el
    have hn := B.1
    refine u_X10_scanNumber_5 ?_
    have st := stop j h hs2 (by omega) (rE_no (Or.inl (by omega))) ew B F e5 e8 el
    rw [show gi h 1 1 = nI n from B.2.2.1]
    refine ⟨fun _ => st, fun y => ?_⟩
    rw [e8] at y
    exact absurd (nI_le (by omega) (by omega)) y
  | succ k ih =>
    intro j h hj hs2 ew B F e5 e8 al el
    have hn := B.1
    have hc := B.2.1 j
    have sq := sbq (c j) hc
    have st := fun (y : diC (c j) = false) => stop j h hs2 (by omega) (rE_no (Or.inr y)) ew B F e5 e8 el
    refine u_X10_scanNumber_5 ?_
    rw [show gi h 1 1 = nI n from B.2.2.1]
    have nle : ¬ nI n ≤ gi h 1 8 := by rw [e8]; exact nI_ge (by omega) (by omega)
    refine br_f nle ?_
    have eb : gi h 2 (gi h 1 8).toNatClampNeg = sb_b (c j) := by rw [e8, cl (by omega)]; exact B.2.2.2 j (by omega)
    rw [eb]
    have vp : vp_in (gi h 1 8) 900 := by rw [e8]; exact vp_in_nI (by omega) (by omega)
    refine ⟨vp, fun y => st ?_, fun y => ⟨vp, fun y2 => st ?_, fun y2 => ⟨vp, ?_⟩⟩⟩
    · cases e : diC (c j)
      · rfl
      · exact absurd y (sq.2.2.1.2.mp e).1
    · cases e : diC (c j)
      · rfl
      · exact absurd y2 (sq.2.2.1.2.mp e).2
    · have e : diC (c j) = true := sq.2.2.1.2.mpr ⟨y, y2⟩
      have hl := diC_t e
      rw [sq.2.2.2.2 e, pk_sub hl.1]
      intro y1
      have ey : y1 = nI j := by
        show gi (si h 1 7 _) 1 8 = _
        rw [gi_ok (by omega)]; exact e8
      clear_value y1
      subst ey
      rw [nI_add]
      have l1 : j + 1 - s ≤ 3 → gi h 1 7 * nI 10 + nI (c j - 48) = nI (vl c s (j + 1 - s)) := fun d => by
        rw [el (by omega), pk_mul, nI_add, show j + 1 - s = (j - s) + 1 by omega, vl, show s + (j - s) = j by omega]
      intro h2
      have F2 : Fz WA VA h h2 := (FA_i (k := 7) (by omega)).trans (FA_i (k := 8) (by omega))
      have g5 : gi h2 1 5 = nI s := by
        show gi (si (si h 1 7 _) 1 8 _) 1 5 = _
        rw [gi_ok (by omega), gi_ok (by omega)]; exact e5
      have g8 : gi h2 1 8 = nI (j + 1) := gi_same
      have g7 : gi h2 1 7 = gi h 1 7 * nI 10 + nI (c j - 48) := by
        show gi (si (si h 1 7 _) 1 8 _) 1 7 = _
        rw [gi_ok (by omega), gi_same]
      clear_value h2
      refine ih (j + 1) h2 (by omega) (by omega) ?_ (B.fa F2) (F.trans F2) g5 g8 (fun i h2 h3 => ?_) (fun d => by rw [g7]; exact l1 d)
      · rw [← ew]
        exact (rE_go (P := fun i => diC (c i)) (by omega) e).symm
      · by_cases d : i = j
        · rw [d]; exact e
        · exact al i h2 (by omega)
end

