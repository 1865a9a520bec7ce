/-! ===== a report: what it comes to, its names ===== -/
section
variable {q : Nat → PH → Prop} {kk : Int32 → PH → Prop} {kl : Int64 → PH → Prop} {kv : PH → Prop} {h h' h0 : PH} {s t : RW} {C E : Nat} {a m n p i j k r v x u V W : Nat} {c : Nat → Nat} {o4 : Option Value}
theorem ls_d : ∀ m, m < 64 → (((nI m).toInt64 &&& 63).toBitVec.smod 64).toNat = m := by decide +kernel
theorem lsh (hm : m < 64) (h : a < 2 ^ 63) : lN a >>> ((nI m).toInt64 &&& 63) = lN (a / 2 ^ m) := by
  have hd : a / 2 ^ m ≤ a := Nat.div_le_self _ _
  apply Int64.toInt_inj.mp
  have e : (lN a >>> ((nI m).toInt64 &&& 63)).toInt = (lN a).toInt >>> m := by
    show ((lN a).toBitVec.sshiftRight (((nI m).toInt64 &&& 63).toBitVec.smod 64).toNat).toInt = (lN a).toBitVec.toInt >>> m
    rw [ls_d m hm]
    exact BitVec.toInt_sshiftRight ..
  rw [e, Int.shiftRight_eq_div_pow, pk_lT (by omega), pk_lT (by omega)]
  rfl
theorem and255 : nI V &&& nI 255 = nI (V % 256) := by
  apply b_ext
  intro i hi
  have e : ∀ n, bt (nI n) i = n.testBit i := fun n => by
    show (BitVec.ofNat 32 n).getLsbD i = _
    rw [BitVec.getLsbD_ofNat, decide_eq_true hi, Bool.true_and]
  rw [b_and, e, e, e, show (256 : Nat) = 2 ^ 8 from rfl, Nat.testBit_mod_two_pow, show (255 : Nat) = 2 ^ 8 - 1 from rfl, Nat.testBit_two_pow_sub_one, Bool.and_comm]
theorem land31 : lN V &&& lN 31 = lN (V % 32) := by
  apply Int64.toBitVec_inj.mp
  rw [Int64.toBitVec_and]
  apply BitVec.eq_of_getLsbD_eq
  intro i hi
  have e : ∀ n, (lN n).toBitVec.getLsbD i = n.testBit i := fun n => by
    show (BitVec.ofNat 64 n).getLsbD i = _
    rw [BitVec.getLsbD_ofNat, decide_eq_true hi, Bool.true_and]
  rw [BitVec.getLsbD_and, e, e, e, show (32 : Nat) = 2 ^ 5 from rfl, Nat.testBit_mod_two_pow, show (31 : Nat) = 2 ^ 5 - 1 from rfl, Nat.testBit_two_pow_sub_one, Bool.and_comm]
theorem cmpV (h : V < 2 ^ 63) : lg_cmp (lN V) (lN 0) ≤ 0 ↔ V = 0 := by
  rw [← Int32.not_lt, lgc_gt, pk_lT h, pk_lT (by omega)]
  omega
theorem w8_d : ∀ {k}, (∀ j, j < k → leC (c (p + j)) = true) → ∀ u, w8 c p k / 256 ^ u % 256 = if u < k then c (p + (k - 1 - u)) else 0
  | 0, _, u => by
    rw [w8, Nat.zero_div, if_neg (by omega)]
  | k + 1, h, 0 => by
    have := leC_t (h k (by omega))
    rw [w8, Nat.pow_zero, Nat.div_one, if_pos (by omega), show k + 1 - 1 - 0 = k by omega]
    omega
  | k + 1, h, u + 1 => by
    have := leC_t (h k (by omega))
    have e : w8 c p (k + 1) / 256 ^ (u + 1) = w8 c p k / 256 ^ u := by
      rw [w8, Nat.pow_succ, Nat.mul_comm (256 ^ u) 256, ← Nat.div_div_eq_div_mul]
      congr 1
      omega
    rw [e, w8_d (fun j hj => h j (by omega)) u]
    by_cases d : u < k
    · rw [if_pos d, if_pos (by omega)]
      congr 2
      omega
    · rw [if_neg d, if_neg (by omega)]
theorem w5_d : ∀ {k}, (∀ j, j < k → leC (c (p + j)) = true) → ∀ u, w5 c p k / 32 ^ u % 32 = if u < k then c (p + (k - 1 - u)) - 96 else 0
  | 0, _, u => by
    rw [w5, Nat.zero_div, if_neg (by omega)]
  | k + 1, h, 0 => by
    have := leC_t (h k (by omega))
    rw [w5, Nat.pow_zero, Nat.div_one, if_pos (by omega), show k + 1 - 1 - 0 = k by omega]
    omega
  | k + 1, h, u + 1 => by
    have := leC_t (h k (by omega))
    have e : w5 c p (k + 1) / 32 ^ (u + 1) = w5 c p k / 32 ^ u := by
      rw [w5, Nat.pow_succ, Nat.mul_comm (32 ^ u) 32, ← Nat.div_div_eq_div_mul]
      congr 1
      omega
    rw [e, w5_d (fun j hj => h j (by omega)) u]
    by_cases d : u < k
    · rw [if_pos d, if_pos (by omega)]
      congr 3
      omega
    · rw [if_neg d, if_neg (by omega)]
theorem w5_z (h : ∀ j, j < k → leC (c (p + j)) = true) (u : Nat) : w5 c p k / 32 ^ u = 0 ↔ ¬ u < k := by
  constructor
  · intro e d
    have := w5_d h u
    rw [e, if_pos d] at this
    have := leC_t (h (k - 1 - u) (by omega))
    omega
  · intro d
    have h1 : w5 c p k < 32 ^ k := w5_lt (fun j hj => by have := leC_t (h j hj); omega)
    have h2 := Nat.pow_le_pow_right (n := 32) (by omega) (show k ≤ u by omega)
    exact Nat.div_eq_of_lt (by omega)
/-- a report while it grows: its length and its bytes -/
abbrev RPT : Type := Nat × (Nat → Nat)
def aTell (R : RPT) (x : Nat) : RPT := (R.1 + 1, updN R.2 R.1 x)
abbrev NMW : Type := (Nat → Nat) × Nat × Nat
def aNm (R : RPT) (c : Nat → Nat) (p : Nat) : Nat → RPT
  | 0 => R
  | k + 1 => aTell (aNm R c p k) (c (p + k))
theorem aNm_1 {R : RPT} : ∀ k, (aNm R c p k).1 = R.1 + k
  | 0 => rfl
  | k + 1 => by
    show (aNm R c p k).1 + 1 = _
    rw [aNm_1 k]; rfl
/-- letters: the name's word in the class and in the model -/
def NmF (x y : Int64) (w : NMW) : Prop := 1 ≤ w.2.2 ∧ w.2.2 ≤ 8 ∧ (∀ j, j < w.2.2 → leC (w.1 (w.2.1 + j)) = true) ∧ x = lN (w8 w.1 w.2.1 w.2.2) ∧ y = lN (w5 w.1 w.2.1 w.2.2)
theorem nmF_ex {f g : Nat → Int64} (N : ∀ i, i < n → NmE (f i) (g i)) : ∃ NV : Nat → NMW, ∀ i, i < n → NmF (f i) (g i) (NV i) :=
  ⟨fun i => Classical.epsilon (fun w => NmF (f i) (g i) w), fun i hi => Classical.epsilon_spec (p := fun w => NmF (f i) (g i) w) (by
    obtain ⟨c, p, k, a1, a2, a3, a4, a5⟩ := N i hi
    exact ⟨(c, p, k), a1, a2, a3, a4, a5⟩)⟩
def RpC (R : RPT) (h : PH) : Prop := gi h 0 10 = nI R.1 ∧ ∀ j, j < R.1 → gi h 3 j = nI (R.2 j)
def RpM (R : RPT) (h : PH) : Prop := gi h 130 38 = nI R.1 ∧ ∀ j, j < R.1 → gi h 146 j = nI (R.2 j)
def WRp (b k : Nat) : Prop := (b = 0 ∧ k = 10) ∨ b = 3
def WRq (b k : Nat) : Prop := (b = 130 ∧ k = 38) ∨ b = 146
theorem by8 : ∀ x, x < 128 → ((nI x).toInt8.toInt32).toInt8.toInt32 = nI x := by decide +kernel
theorem c_writeByte {R : RPT} (hx : x < 128) (hr : R.1 < 336) (P : RpC R h) (K : ∀ h', Fz WRp (fun _ => False) h h' → RpC (aTell R x) h' → kv h') : MetPM m_X11_writeByte [.ref 0, .int (nI x)] h (rV q kv) := by
  refine t_X11_writeByte ?_
  rw [P.1, by8 x hx]
  refine pk_le 336 R.1 (fun y => absurd y (by omega)) (fun _ => ⟨vp_in_nI (by omega) (by omega), ?_⟩)
  rw [cl (by omega)]
  have e : gi (si h 3 R.1 (nI x)) 0 10 = nI R.1 := (gi_ob (by omega)).trans P.1
  rw [e, nI_add]
  refine K _ ((Fz.si h _ (Or.inr rfl)).trans (Fz.si _ _ (Or.inl ⟨rfl, rfl⟩))) ⟨gi_same, fun j hj => ?_⟩
  have hj : j < R.1 + 1 := hj
  rw [gi_ob (by omega)]
  show _ = nI (updN R.2 R.1 x j)
  by_cases d : j = R.1
  · rw [d, gi_same, updN_s]
  · rw [gi_ok d, updN_n d]
    exact P.2 j (by omega)
theorem s_tell {R : RPT} (hr : R.1 < 400) (P : RpM R h) (K : ∀ h', Fz WRq (fun _ => False) h h' → RpM (aTell R x) h' → kv h') : MetPM m_X12_tell [.ref 130, .int (nI x)] h (rV q kv) := by
  refine t_X12_tell ?_
  rw [P.1]
  refine ⟨vp_in_nI (by omega) (by omega), ?_⟩
  rw [cl (by omega)]
  have e : gi (si h 146 R.1 (nI x)) 130 38 = nI R.1 := (gi_ob (by omega)).trans P.1
  rw [e, nI_add]
  refine K _ ((Fz.si h _ (Or.inr rfl)).trans (Fz.si _ _ (Or.inl ⟨rfl, rfl⟩))) ⟨gi_same, fun j hj => ?_⟩
  have hj : j < R.1 + 1 := hj
  rw [gi_ob (by omega)]
  show _ = nI (updN R.2 R.1 x j)
  by_cases d : j = R.1
  · rw [d, gi_same, updN_s]
  · rw [gi_ok d, updN_n d]
    exact P.2 j (by omega)
def shf : Nat → Int32
  | 0 => -(nI 8)
  | u + 1 => nI (8 * u)
theorem shf_n : ∀ u, u < 8 → nI (8 * u) + (-(nI 8)) = shf u := by decide +kernel
def sh5f : Nat → Int32
  | 0 => -(nI 5)
  | u + 1 => nI (5 * u)
theorem sh5_n : ∀ u, u < 8 → nI (5 * u) + (-(nI 5)) = sh5f u := by decide +kernel
theorem p256 (u : Nat) : (2 : Nat) ^ (8 * u) = 256 ^ u := Nat.pow_mul 2 8 u
theorem p32 (u : Nat) : (2 : Nat) ^ (5 * u) = 32 ^ u := Nat.pow_mul 2 5 u
theorem l_wn {R : RPT} (hk : k ≤ 8) (hl : ∀ j, j < k → leC (c (p + j)) = true) (hr : R.1 + k ≤ 336) (K : ∀ h', Fz WRp (fun _ => False) h0 h' → RpC (aNm R c p k) h' → kv h') : ∀ u h o4, u ≤ 8 → Fz WRp (fun _ => False) h0 h → RpC (aNm R c p (k - u)) h →
    At m_X11_writeName (rV q kv) 3 0 [some (.ref 0), some (.long (lN (w8 c p k))), none, some (.int (shf u)), o4] [] h := by
  intro u
  induction u with
  | zero =>
    intro h o4 _ F P
    exact u_X11_writeName_3 ⟨fun _ => K h F P, fun y => absurd (by decide) y⟩
  | succ u ih =>
    intro h o4 hu F P
    have hW := w8_63 hk hl
    have e1 : ((lN (w8 c p k) >>> ((nI (8 * u)).toInt64 &&& 63)).toInt32 &&& nI 255) = nI (if u < k then c (p + (k - 1 - u)) else 0) := by
      rw [lsh (by omega) hW, lN_i, and255, p256, w8_d hl]
    show At m_X11_writeName (rV q kv) 3 0 [some (.ref 0), some (.long (lN (w8 c p k))), none, some (.int (nI (8 * u))), o4] [] h
    refine u_X11_writeName_3 (pk_lt (8 * u) 0 (fun y => absurd y (by omega)) (fun _ => ?_))
    rw [e1, shf_n u (by omega)]
    by_cases d : u < k
    · rw [if_pos d]
      have hc := leC_t (hl (k - 1 - u) (by omega))
      refine ⟨fun y => ?_, fun _ => c_writeByte (by omega) (by rw [aNm_1]; omega) P (fun h1 x1 P1 => ih h1 _ (by omega) (F.trans x1) ?_)⟩
      · have := (nI_eq (a := c (p + (k - 1 - u))) (b := 0) (by omega) (by omega)).mp y
        omega
      · have : aNm R c p (k - u) = aTell (aNm R c p (k - (u + 1))) (c (p + (k - 1 - u))) := by
          rw [show k - u = (k - (u + 1)) + 1 by omega]
          show aTell (aNm R c p (k - (u + 1))) (c (p + (k - (u + 1)))) = _
          rw [show k - (u + 1) = k - 1 - u by omega]
        rw [this]
        exact P1
    · rw [if_neg d]
      refine ⟨fun _ => ih h _ (by omega) F ?_, fun y => absurd rfl y⟩
      rw [show k - u = k - (u + 1) by omega]
      exact P
theorem c_writeName {R : RPT} (hk : k ≤ 8) (hl : ∀ j, j < k → leC (c (p + j)) = true) (hr : R.1 + k ≤ 336) (P : RpC R h) (K : ∀ h', Fz WRp (fun _ => False) h h' → RpC (aNm R c p k) h' → kv h') : MetPM m_X11_writeName [.ref 0, .long (lN (w8 c p k))] h (rV q kv) :=
  t_X11_writeName (l_wn (h0 := h) hk hl hr K 8 h none (Nat.le_refl _) (Fz.refl _ _ _) (by rw [show k - 8 = 0 by omega]; exact P))
theorem l_tn {R : RPT} (hk : k ≤ 8) (hl : ∀ j, j < k → leC (c (p + j)) = true) (hr : R.1 + k ≤ 400) (K : ∀ h', Fz WRq (fun _ => False) h0 h' → RpM (aNm R c p k) h' → kv h') : ∀ u h, u ≤ 8 → Fz WRq (fun _ => False) h0 h → RpM (aNm R c p (k - u)) h →
    At m_X12_tellName (rV q kv) 3 0 [some (.ref 130), some (.long (lN (w5 c p k))), none, some (.int (sh5f u))] [] h := by
  intro u
  induction u with
  | zero =>
    intro h _ F P
    exact u_X12_tellName_3 ⟨fun _ => K h F P, fun y => absurd (by decide) y⟩
  | succ u ih =>
    intro h hu F P
    have hW := w5_63 hk hl
    have e0 : lN (w5 c p k) >>> ((nI (5 * u)).toInt64 &&& 63) = lN (w5 c p k / 32 ^ u) := by
      rw [lsh (by omega) (by omega), p32]
    have hV : w5 c p k / 32 ^ u ≤ w5 c p k := Nat.div_le_self _ _
    show At m_X12_tellName (rV q kv) 3 0 [some (.ref 130), some (.long (lN (w5 c p k))), none, some (.int (nI (5 * u)))] [] h
    refine u_X12_tellName_3 (pk_lt (5 * u) 0 (fun y => absurd y (by omega)) (fun _ => ?_))
    rw [e0, sh5_n u (by omega), cmpV (by omega), w5_z hl, land31, lN_i, w5_d hl, nI_add]
    refine ⟨fun d => ih h (by omega) F ?_, fun d => ?_⟩
    · rw [show k - u = k - (u + 1) by omega]
      exact P
    · have d : u < k := Classical.not_not.mp d
      have hc := leC_t (hl (k - 1 - u) (by omega))
      rw [if_pos d, show 96 + (c (p + (k - 1 - u)) - 96) = c (p + (k - 1 - u)) by omega]
      refine s_tell (by rw [aNm_1]; omega) P (fun h1 x1 P1 => ih h1 (by omega) (F.trans x1) ?_)
      have : aNm R c p (k - u) = aTell (aNm R c p (k - (u + 1))) (c (p + (k - 1 - u))) := by
        rw [show k - u = (k - (u + 1)) + 1 by omega]
        show aTell (aNm R c p (k - (u + 1))) (c (p + (k - (u + 1)))) = _
        rw [show k - (u + 1) = k - 1 - u by omega]
      rw [this]
      exact P1
theorem s_tellName {R : RPT} (hk : k ≤ 8) (hl : ∀ j, j < k → leC (c (p + j)) = true) (hr : R.1 + k ≤ 400) (P : RpM R h) (K : ∀ h', Fz WRq (fun _ => False) h h' → RpM (aNm R c p k) h' → kv h') : MetPM m_X12_tellName [.ref 130, .long (lN (w5 c p k))] h (rV q kv) :=
  t_X12_tellName (l_tn (h0 := h) hk hl hr K 8 h (Nat.le_refl _) (Fz.refl _ _ _) (by rw [show k - 8 = 0 by omega]; exact P))
end
