/-! ===== the share and the mean: both sides ===== -/
theorem fp_tails : FP.Core.b64.tails = 4503599627370496 := by decide +kernel
theorem fp_exps : FP.Core.b64.exps = 2048 := by decide +kernel
theorem fp_qmin : FP.Core.b64.qmin = -1074 := by decide +kernel
theorem fp_qmax : FP.Core.b64.qmax = 971 := by decide +kernel
theorem fp_p : 2 ^ FP.Core.b64.p = 9007199254740992 := by decide +kernel
def fOk (d : FP.Core.Datum) : Prop := d = .inf false ∨ ∃ c q, d = .fin false c q ∧ c < 9007199254740992 ∧ q ≤ 971
theorem fp_enc {d : FP.Core.Datum} (h : fOk d) : FP.Core.encode FP.Core.b64 d ≤ 9218868437227405312 := by
  rcases h with e | ⟨c, q, e, h1, h2⟩
  · subst e
    simp only [FP.Core.encode, FP.Core.assemble, fp_tails, fp_exps, Bool.toNat_false]
    omega
  · subst e
    simp only [FP.Core.encode, FP.Core.assemble, fp_tails, fp_exps, fp_qmin, Bool.toNat_false]
    split <;> omega
theorem fp_rr (num den : Nat) (e : Int) : fOk (FP.Core.roundRatio FP.Core.b64 false num den e) := by
  unfold FP.Core.roundRatio
  split
  · exact Or.inr ⟨0, FP.Core.b64.qmin, rfl, by omega, by rw [fp_qmin]; omega⟩
  · unfold FP.Core.roundAt FP.Core.settle
    rw [fp_p]
    split
    · rename_i h1
      unfold FP.Core.bound
      rw [fp_qmax]
      split
      · rename_i h2
        exact Or.inr ⟨_, _, rfl, h1, h2⟩
      · exact Or.inl rfl
    · unfold FP.Core.bound
      rw [fp_qmax]
      split
      · rename_i h2
        exact Or.inr ⟨_, _, rfl, by rw [fp_tails]; omega, h2⟩
      · exact Or.inl rfl
theorem fp_dec {x : Nat} (h : x ≤ 9218868437227405312) : FP.Core.decode FP.Core.b64 x = .inf false ∨ ∃ c q, FP.Core.decode FP.Core.b64 x = .fin false c q := by
  have hS : FP.Core.fieldS FP.Core.b64 x = false := by
    unfold FP.Core.fieldS
    rw [fp_tails, fp_exps]
    have : x / 4503599627370496 / 2048 = 0 := by omega
    rw [this]; rfl
  unfold FP.Core.decode
  rw [hS]
  split
  · rename_i h1
    unfold FP.Core.fieldE at h1
    unfold FP.Core.fieldT
    rw [fp_tails, fp_exps] at h1
    rw [fp_tails]
    rw [if_pos (by omega)]
    exact Or.inl rfl
  · split
    · exact Or.inr ⟨_, _, rfl⟩
    · exact Or.inr ⟨_, _, rfl⟩
theorem fp_int {j : Nat} (hj : j < 2 ^ 31) : (FP.i2d (nI j)).toNat ≤ 9218868437227405312 := by
  have h1 : FP.Core.fromInt FP.Core.b64 (nI j).toInt ≤ 9218868437227405312 := by
    rw [nI_toInt hj]
    unfold FP.Core.fromInt FP.Core.ofInt
    have : decide ((j : Int) < 0) = false := decide_eq_false (by omega)
    rw [this]
    exact fp_enc (fp_rr _ _ _)
  show (UInt64.ofNat (FP.Core.fromInt FP.Core.b64 (nI j).toInt)).toNat ≤ _
  rw [UInt64.toNat_ofNat']
  exact Nat.le_trans (Nat.mod_le _ _) h1
def okD : FP.Core.Datum → Bool
  | .fin false d _ => !decide (d = 0)
  | _ => false
theorem fp_den : ∀ k, k < 13 → ¬ k = 0 → okD (FP.Core.decode FP.Core.b64 (FP.i2d (nI k)).toNat) = true := by decide +kernel
theorem fp_div {j k : Nat} (hj : j < 2 ^ 31) (h0 : ¬ k = 0) (hk : k < 13) : vf_n64 (FP.ddiv (FP.i2d (nI j)) (FP.i2d (nI k))) := by
  have hd := fp_den k hk h0
  have h1 : FP.Core.div FP.Core.b64 (FP.i2d (nI j)).toNat (FP.i2d (nI k)).toNat ≤ 9218868437227405312 := by
    unfold FP.Core.div
    refine fp_enc ?_
    generalize FP.Core.decode FP.Core.b64 (FP.i2d (nI k)).toNat = y at hd
    match y, hd with
    | .fin false d r, hd =>
      have hd0 : ¬ d = 0 := by
        intro z
        subst z
        cases hd
      rcases fp_dec (fp_int hj) with e | ⟨c, q, e⟩
      · rw [e]; exact Or.inl rfl
      · rw [e]
        show fOk (if d = 0 then (if c = 0 then .nan else .inf (false != false)) else FP.Core.roundRatio FP.Core.b64 (false != false) c d (q - r))
        rw [if_neg hd0]
        exact fp_rr _ _ _
  unfold vf_n64
  show UInt64.ofNat (FP.Core.div FP.Core.b64 (FP.i2d (nI j)).toNat (FP.i2d (nI k)).toNat) &&& 0x7fffffffffffffff ≤ 0x7ff0000000000000
  generalize FP.Core.div FP.Core.b64 (FP.i2d (nI j)).toNat (FP.i2d (nI k)).toNat = r at h1
  rw [UInt64.le_iff_toNat_le, UInt64.toNat_and, UInt64.toNat_ofNat']
  refine Nat.le_trans Nat.and_le_left (Nat.le_trans (Nat.mod_le _ _) h1)
theorem fp_shr : ∀ n, n < 13 → ∀ k, k < 13 → ¬ k = 0 → vf_n32 (FP.fdiv (FP.i2f (nI n)) (FP.i2f (nI k))) ∧ vf_n64 (FP.f2d (FP.fdiv (FP.i2f (nI n)) (FP.i2f (nI k)))) := by
  unfold vf_n32 vf_n64
  decide +kernel
theorem fp_f0 : vf_n64 (FP.f2d FP.fconst0) := by
  unfold vf_n64
  decide +kernel
section
variable {q : Nat → PH → Prop} {kk : Int32 → PH → Prop} {kf : UInt32 → PH → Prop} {kd : UInt64 → PH → Prop} {kv : PH → Prop} {h : PH} {s : RW} {C E : Nat} {a : Nat}
theorem cnt_z {p : Nat → Bool} : ∀ {n}, cnt n p = 0 ↔ anyN n p = false
  | 0 => ⟨fun _ => rfl, fun _ => rfl⟩
  | n + 1 => by
    rw [cnt, anyN, Bool.or_eq_false_iff, ← cnt_z (n := n)]
    cases p n
    · simp
    · simp
def shaV (s : RW) (v : Nat) : UInt32 := if cnt (nn (s 2)) (plnd s) = 0 then FP.fconst0 else FP.fdiv (FP.i2f (nI (cnt (nn (s 2)) (fun m => upW s v m && plnd s m)))) (FP.i2f (nI (cnt (nn (s 2)) (plnd s))))
theorem shaV_ok (R : Rk C E s) {v : Nat} : vf_n64 (FP.f2d (shaV s v)) := by
  have hm2 := R.m.2
  have h1 := cnt_le (plnd s) (nn (s 2))
  have h2 := cnt_le (fun m => upW s v m && plnd s m) (nn (s 2))
  unfold shaV
  split
  · exact fp_f0
  · rename_i c
    exact (fp_shr _ (by omega) _ (by omega) c).2
theorem l_share {v : Nat} (R : Rk C E s) (hs : h.1 132 = s) (hv : v < nn (s 0)) (K : kf (shaV s v) h) : ∀ k i, i + k = nn (s 2) → At m_X12_share (rF q kf) 21 0 [some (.ref 130), some (.int (nI v)), some (.int (nI (cnt i (plnd s)))), some (.int (nI (cnt i (fun m => upW s v m && plnd s m)))), some (.int (nI i))] [] h := by
  have hm2 := R.m.2
  have hv8 := R.v.2
  intro k
  induction k with
  | zero =>
    intro i hi
    refine u_X12_share_21 ⟨rv (by omega), ?_⟩
    rw [rd hs 2 (by omega), R.m.1]
    refine pk_le (nn (s 2)) i (fun _ => ?_) (fun z => absurd z (by omega))
    have : i = nn (s 2) := by omega
    subst this
    have h1 := cnt_le (plnd s) (nn (s 2))
    have h2 := cnt_le (fun m => upW s v m && plnd s m) (nn (s 2))
    rw [← nI_0, nI_eq (by omega) (by omega)]
    unfold shaV at K
    refine ⟨fun c => ?_, fun c => ?_⟩
    · rw [if_neg c] at K
      exact ⟨(fp_shr _ (by omega) _ (by omega) c).1, K⟩
    · rw [if_pos c] at K; exact K
  | succ k ih =>
    intro i hi
    refine u_X12_share_21 ⟨rv (by omega), ?_⟩
    rw [rd hs 2 (by omega), R.m.1]
    refine pk_le (nn (s 2)) i (fun z => absurd z (by omega)) (fun hlt => ?_)
    have ih2 := ih (i + 1) (by omega)
    rw [cnt, cnt] at ih2
    refine s_isPlanned R hs hlt (bp (fun e => ?_) (fun e => s_isUpWith R hs hlt (by omega) (s_truth ?_)))
    · rw [e, Bool.and_false] at ih2
      rw [nI_add]; exact ih2
    · rw [e, Bool.and_true] at ih2
      rw [nI_add, nI_add, nI_b2i]; exact ih2
theorem s_share {x : Int32} (R : Rk C E s) (hs : h.1 132 = s) (K0 : inV s x = false → kf FP.fconst0 (si h 130 0 (nI 1))) (K1 : inV s x = true → kf (shaV s (nn x)) (si h 130 0 (nI 0))) : MetPM m_X12_share [.ref 130, .int x] h (rF q kf) := by
  refine t_X12_share (s_isV R hs (s_gate (fun e => g0 (K0 e)) (fun e => g1 ?_)))
  have K := K1 e
  obtain ⟨e1, e2⟩ := inV_t R e
  generalize nn x = j at K e1 e2
  subst e1
  exact l_share R (hs0 hs) e2 K _ 0 (Nat.zero_add _)
theorem c_share {x : Int32} (R : Rk C E s) (X : CR 60 s h) (K0 : inV s x = false → q 2 h) (K1 : inV s x = true → kf (shaV s (nn x)) h) : MetPM m_X11_share [.ref 0, .int x] h (rF q kf) := by
  have hm2 := R.m.2
  have hv8 := R.v.2
  refine t_X11_share ⟨Nat.le_of_ble_eq_true rfl, c_needVersion R X.1 K0 (fun e => ?_)⟩
  have K := K1 e
  obtain ⟨e1, e2⟩ := inV_t R e
  generalize nn x = j at K e1 e2
  subst e1
  refine c_plannedMembers R X.1 ?_
  rw [mk_z (by omega), ← cnt_z]
  unfold shaV at K
  refine ⟨fun c => c_upWith (Or.inl rfl) R X.1 X.2 (by omega) ?_, fun c => ?_⟩
  · rw [if_neg c] at K
    rw [mk_and (by omega)]
    refine c_bitMk hm2 (c_bitMk hm2 ?_)
    have h1 := cnt_le (plnd s) (nn (s 2))
    have h2 := cnt_le (fun m => upW s j m && plnd s m) (nn (s 2))
    exact ⟨(fp_shr _ (by omega) _ (by omega) c).1, K⟩
  · rw [if_pos c] at K; exact K
def meaV (s : RW) : UInt64 := if hasP s = true then (if mCnt s = 0 then FP.dconst0 else FP.ddiv (FP.i2d (mSum s)) (FP.i2d (nI (mCnt s)))) else FP.dconst0
theorem sumI_n {p : Nat → Bool} {g : Nat → Int32} : ∀ n, n ≤ 12 → (∀ i, i < n → isN (g i) 999) → ∃ j, j ≤ 999 * n ∧ sumI n p g = nI j
  | 0, _, _ => ⟨0, by omega, rfl⟩
  | n + 1, hn, hg => by
    obtain ⟨j, hj, e⟩ := sumI_n (p := p) (g := g) n (by omega) (fun i hi => hg i (by omega))
    have h1 := hg n (by omega)
    rw [sumI]
    split
    · refine ⟨j + nn (g n), by have := h1.2; omega, ?_⟩
      rw [e, ← nI_add, ← h1.1]
    · exact ⟨j, by omega, e⟩
theorem mSum_n (R : Rk C E s) : ∃ j, j < 2 ^ 31 ∧ mSum s = nI j := by
  have hm2 := R.m.2
  obtain ⟨j, hj, e⟩ := sumI_n (p := mesd s) (g := fun m => mf s m 4) (nn (s 2)) hm2 (fun i hi => R.me i hi)
  exact ⟨j, by omega, e⟩
theorem mCnt_le (R : Rk C E s) : mCnt s ≤ 12 := by
  have := R.m.2
  have := cnt_le (mesd s) (nn (s 2))
  unfold mCnt; omega
theorem mea_ok (R : Rk C E s) (h0 : ¬ mCnt s = 0) : vf_n64 (FP.ddiv (FP.i2d (mSum s)) (FP.i2d (nI (mCnt s)))) := by
  obtain ⟨j, hj, e⟩ := mSum_n R
  have := mCnt_le R
  rw [e]
  exact fp_div hj h0 (by omega)
theorem s_meanMeasure (R : Rk C E s) (hs : h.1 132 = s) (K : ∀ h', Fr WM (si h 130 0 (nI 0)) h' → kd (meaV s) h') : MetPM m_X12_meanMeasure [.ref 130] h (rD q kd) := by
  refine t_X12_meanMeasure (s_measures R (hs0 hs) (fun h' f1 hs1 k1 k2 k3 => ?_))
  have K := K h' f1
  have hc := mCnt_le R
  unfold meaV at K
  cases e : hasP s
  · rw [k2 e]
    rw [if_neg (by rw [e]; decide)] at K
    exact g0 K
  · rw [(k1 e).1, (k1 e).2, ← nI_0, nI_eq (by omega) (by omega)]
    rw [if_pos e] at K
    refine ⟨fun c => ?_, fun c => ?_⟩
    · rw [if_neg c] at K
      exact ⟨mea_ok R c, K⟩
    · rw [if_pos c] at K; exact K
theorem c_meanMeasure (R : Rk C E s) (X : CR 60 s h) (K : kd (meaV s) h) : MetPM m_X11_meanMeasure [.ref 0] h (rD q kd) := by
  have hm2 := R.m.2
  unfold meaV at K
  refine t_X11_meanMeasure (c_isUnderWay (Or.inl rfl) X.2 (bq (fun e => ?_) (fun e => ?_)))
  · rw [if_neg (by rw [e]; decide)] at K
    exact g0 K
  · rw [if_pos e] at K
    refine c_measuredSet (Or.inl rfl) R X.1 X.2 e ?_
    rw [mk_z (by omega), ← cnt_z]
    refine ⟨fun c => c_sumOfMeasures (Or.inl rfl) R X.1 X.2 (c_bitMk hm2 ?_), fun c => ?_⟩
    · rw [if_neg (show ¬ mCnt s = 0 from c)] at K
      exact ⟨mea_ok R c, K⟩
    · rw [if_pos (show mCnt s = 0 from c)] at K; exact K
end
