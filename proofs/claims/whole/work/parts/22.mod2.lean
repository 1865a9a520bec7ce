/-! ===== the reference's questions on the plan, its changes ===== -/
section
variable {q : Nat → PH → Prop} {kk : Int32 → PH → Prop} {kv : PH → Prop} {h : PH} {s : RW} {C E : Nat}
theorem s_hasPlan (hs : h.1 132 = s) (K : kk (b2i (hasP s)) h) : MetPM m_X12_hasPlan [.ref 130] h (rI q kk) := by
  refine t_X12_hasPlan ?_
  rw [rd hs 12 (by omega)]
  refine ⟨rv (by omega), cq (fun e => ⟨isB_0, ?_⟩) (fun e => ⟨rv (by omega), cq (fun e2 => ⟨isB_0, ?_⟩) (fun e2 => ⟨isB_1, ?_⟩)⟩)⟩
  · rw [show hasP s = false by simp [hasP, e]] at K; exact K
  · rw [show hasP s = false by simp [hasP, e2]] at K; exact K
  · rw [show hasP s = true by simp [hasP, e, e2]] at K; exact K
theorem s_isGoing (hs : h.1 132 = s) (K : kk (b2i (going s)) h) : MetPM m_X12_isGoing [.ref 130] h (rI q kk) := by
  refine t_X12_isGoing ?_
  rw [rd hs 12 (by omega)]
  refine ⟨rv (by omega), cq (fun e => ⟨isB_1, ?_⟩) (fun e => ⟨rv (by omega), ⟨fun e2 => ⟨isB_0, ?_⟩, fun e2 => ⟨isB_1, ?_⟩⟩⟩)⟩
  · rw [show going s = true by simp [going, e]] at K; exact K
  · rw [show going s = false by simp [going, e, e2]] at K; exact K
  · rw [show going s = true by simp [going, e2]] at K; exact K
theorem Rk.pm (R : Rk C E s) {m : Nat} (hm : m < nn (s 2)) : mf s m 0 = nI (pN s m) ∧ pN s m < 5 ∧ pN s m < nn (s 1) := by
  have h1 := R.pl m hm
  have h2 := R.p.2
  exact ⟨h1.1.1, by omega, h1.2⟩
theorem s_isPlanned {m : Nat} (R : Rk C E s) (hs : h.1 132 = s) (hm : m < nn (s 2)) (K : kk (b2i (plnd s m)) h) : MetPM m_X12_isPlanned [.ref 130, .int (nI m)] h (rI q kk) := by
  have hp := R.pm hm
  have hm2 := R.m.2
  refine t_X12_isPlanned (s_of hs (by omega) ?_)
  rw [hp.1, nI_add, rd hs _ (by omega), m1_eq]
  refine ⟨rv (by omega), cq (fun e => ⟨isB_0, ?_⟩) (fun e => ⟨isB_1, ?_⟩)⟩
  · rw [show plnd s m = false by simp [plnd, wvOf, e]] at K; exact K
  · rw [show plnd s m = true by simp [plnd, wvOf, e]] at K; exact K
theorem s_isOfWave {m : Nat} {w : Int32} (R : Rk C E s) (hs : h.1 132 = s) (hm : m < nn (s 2)) (K : kk (b2i (ofW s m w)) h) : MetPM m_X12_isOfWave [.ref 130, .int (nI m), .int w] h (rI q kk) := by
  have hp := R.pm hm
  have hm2 := R.m.2
  refine t_X12_isOfWave (s_of hs (by omega) ?_)
  rw [hp.1, nI_add, rd hs _ (by omega)]
  refine ⟨rv (by omega), ⟨fun e => ⟨isB_0, ?_⟩, fun e => ⟨isB_1, ?_⟩⟩⟩
  · rw [show ofW s m w = false by simp [ofW, wvOf, e]] at K; exact K
  · rw [show ofW s m w = true by simp [ofW, wvOf, e]] at K; exact K
theorem s_isFree {m : Nat} (R : Rk C E s) (hs : h.1 132 = s) (hm : m < nn (s 2)) (K : kk (b2i (free s m)) h) : MetPM m_X12_isFree [.ref 130, .int (nI m)] h (rI q kk) := by
  have hm2 := R.m.2
  refine t_X12_isFree (s_isPlanned R hs hm (bq (fun e => ⟨isB_0, ?_⟩) (fun e => s_of hs (by omega) ⟨fun e2 => ⟨isB_0, ?_⟩, fun e2 => ⟨isB_1, ?_⟩⟩)))
  · rw [show free s m = false by simp [free, e]] at K; exact K
  · rw [show free s m = false by simp [free, e2]] at K; exact K
  · rw [show free s m = true by simp [free, e, e2]] at K; exact K
theorem s_isReady {m : Nat} (R : Rk C E s) (hp : hasP s = true) (hs : h.1 132 = s) (hm : m < nn (s 2)) (K : kk (b2i (rdy s m)) h) : MetPM m_X12_isReady [.ref 130, .int (nI m)] h (rI q kk) := by
  have hm2 := R.m.2
  have hv := R.ve m hm
  have hse := (R.se hp).1
  have h7 := hv.1.2
  have h8 := hse.2
  refine t_X12_isReady (s_of hs (by omega) (s_isDown hs (by omega) (bp (fun e => ⟨rv (by omega), ?_⟩) (fun e => ⟨isB_0, ?_⟩))))
  · rw [rd hs 17 (by omega), rd hs 14 (by omega), hse.1, hv.1.1]
    refine ⟨fun e2 => ⟨rv (by omega), pk_lt _ _ (fun e3 => ⟨isB_0, ?_⟩) (fun e3 => ⟨isB_1, ?_⟩)⟩, fun e2 => ⟨rv (by omega), pk_lt _ _ (fun e3 => ⟨isB_0, ?_⟩) (fun e3 => ⟨isB_1, ?_⟩)⟩⟩
    · rw [show rdy s m = false by simp [rdy, vN, e, e2, Nat.not_le.mpr e3]] at K; exact K
    · rw [show rdy s m = true by simp [rdy, vN, e, e2, e3]] at K; exact K
    · rw [show rdy s m = false by simp [rdy, vN, e, e2, Nat.not_le.mpr e3]] at K; exact K
    · rw [show rdy s m = true by simp [rdy, vN, e, e2, e3]] at K; exact K
  · rw [show rdy s m = false by simp [rdy, e]] at K; exact K
theorem l_lags (R : Rk C E s) (hs : h.1 132 = s) (K : kk (mk (nn (s 2)) (lagM s)) h) : ∀ k i, i + k = nn (s 2) → At m_X12_lags (rI q kk) 4 0 [some (.ref 130), some (.int (mk i (lagM s))), some (.int (nI i))] [] h := by
  have hm2 := R.m.2
  intro k
  induction k with
  | zero =>
    intro i hi
    refine u_X12_lags_4 ⟨rv (by omega), ?_⟩
    rw [rd hs 2 (by omega), R.m.1]
    refine pk_le (nn (s 2)) i (fun _ => ?_) (fun z => absurd z (by omega))
    have : i = nn (s 2) := by omega
    rw [this]; exact K
  | succ k ih =>
    intro i hi
    refine u_X12_lags_4 ⟨rv (by omega), ?_⟩
    rw [rd hs 2 (by omega), R.m.1]
    refine pk_le (nn (s 2)) i (fun z => absurd z (by omega)) (fun _ => ?_)
    have ih2 := ih (i + 1) (by omega)
    refine s_hasPlan hs (bq (fun e => ?_) (fun e => ⟨rv (by omega), s_isOfWave R hs (by omega) (bq (fun e2 => s_truth0 ?_) (fun e2 => s_isReady R e hs (by omega) (bp (fun e3 => s_truth1 ?_) (fun e3 => s_truth0 ?_))))⟩))
    · rw [mk_0 (n := i) (p := lagM s) (fun j _ => by simp [lagM, e])]
      rw [mk_0 (p := lagM s) (fun j _ => by simp [lagM, e])] at K
      exact K
    · rw [rd hs 15 (by omega)] at e2
      rw [mk_f (by simp [lagM, e2]), nI_add]; exact ih2
    · rw [rd hs 15 (by omega)] at e2
      rw [mk_t (by simp [lagM, e, e2, e3]), nI_add]; exact ih2
    · rw [mk_f (by simp [lagM, e3]), nI_add]; exact ih2
theorem s_lags (R : Rk C E s) (hs : h.1 132 = s) (K : kk (mk (nn (s 2)) (lagM s)) h) : MetPM m_X12_lags [.ref 130] h (rI q kk) := t_X12_lags (l_lags R hs K _ 0 (Nat.zero_add _))
theorem l_isComplete (R : Rk C E s) (hp : hasP s = true) (hs : h.1 132 = s) (K : kk (b2i (cmpl s)) h) : ∀ k i, i + k = nn (s 2) → At m_X12_isComplete (rI q kk) 4 0 [some (.ref 130), some (.int (b2i (allN i (fun m => !ofW s m (s 15) || (!free s m || rdy s m))))), some (.int (nI i))] [] h := by
  have hm2 := R.m.2
  intro k
  induction k with
  | zero =>
    intro i hi
    refine u_X12_isComplete_4 ⟨rv (by omega), ?_⟩
    rw [rd hs 2 (by omega), R.m.1]
    refine pk_le (nn (s 2)) i (fun _ => ⟨isB_b2i _, ?_⟩) (fun z => absurd z (by omega))
    have : i = nn (s 2) := by omega
    rw [this]; exact K
  | succ k ih =>
    intro i hi
    refine u_X12_isComplete_4 ⟨rv (by omega), ?_⟩
    rw [rd hs 2 (by omega), R.m.1]
    refine pk_le (nn (s 2)) i (fun z => absurd z (by omega)) (fun _ => ?_)
    have ih2 := ih (i + 1) (by omega)
    rw [allN_s] at ih2
    rw [rd hs 15 (by omega), nI_add]
    refine bq (fun e => ?_) (fun e => ⟨rv (by omega), s_isOfWave R hs (by omega) (bq (fun e2 => ?_) (fun e2 => s_isFree R hs (by omega) (bq (fun e3 => ?_) (fun e3 => s_isReady R hp hs (by omega) (bq (fun e4 => ?_) (fun e4 => ?_))))))⟩)
    · rw [e] at ih2; exact ih2
    · rw [e] at ih2; simp only [e2] at ih2; exact ih2
    · rw [e] at ih2; simp only [e2, e3] at ih2; exact ih2
    · rw [e] at ih2; simp only [e2, e3, e4] at ih2; exact ih2
    · rw [e] at ih2; simp only [e2, e3, e4] at ih2; exact ih2
theorem s_isComplete (R : Rk C E s) (hp : hasP s = true) (hs : h.1 132 = s) (K : kk (b2i (cmpl s)) h) : MetPM m_X12_isComplete [.ref 130] h (rI q kk) := t_X12_isComplete (l_isComplete R hp hs K _ 0 (Nat.zero_add _))
theorem l_allRead {f : Int32} (R : Rk C E s) (hs : h.1 132 = s) (K : kk (b2i (allR s f)) h) : ∀ k i, i + k = nn (s 2) → At m_X12_allRead (rI q kk) 4 0 [some (.ref 130), some (.int f), some (.int (b2i (allN i (fun m => rds s (cN s m) f)))), some (.int (nI i))] [] h := by
  have hm2 := R.m.2
  intro k
  induction k with
  | zero =>
    intro i hi
    refine u_X12_allRead_4 ⟨rv (by omega), ?_⟩
    rw [rd hs 2 (by omega), R.m.1]
    refine pk_le (nn (s 2)) i (fun _ => ⟨isB_b2i _, ?_⟩) (fun z => absurd z (by omega))
    have : i = nn (s 2) := by omega
    rw [this]; exact K
  | succ k ih =>
    intro i hi
    refine u_X12_allRead_4 ⟨rv (by omega), ?_⟩
    rw [rd hs 2 (by omega), R.m.1]
    refine pk_le (nn (s 2)) i (fun z => absurd z (by omega)) (fun _ => ?_)
    have ih2 := ih (i + 1) (by omega)
    rw [allN_s] at ih2
    rw [nI_add]
    refine bq (fun e => ?_) (fun e => s_comN R hs (by omega) (s_reads hs (by have := (R.co (m := i) (by omega)).2; have := R.v.2; omega) (bq (fun e2 => ?_) (fun e2 => ?_))))
    · rw [e] at ih2; exact ih2
    · rw [e, e2] at ih2; exact ih2
    · rw [e, e2] at ih2; exact ih2
theorem s_allRead {f : Int32} (R : Rk C E s) (hs : h.1 132 = s) (K : kk (b2i (allR s f)) h) : MetPM m_X12_allRead [.ref 130, .int f] h (rI q kk) := t_X12_allRead (l_allRead R hs K _ 0 (Nat.zero_add _))
theorem s_whyCommit {f : Int32} (R : Rk C E s) (hs : h.1 132 = s) (K : kk (nI (whyF s f)) h) : MetPM m_X12_whyCommit [.ref 130, .int f] h (rI q kk) := by
  refine t_X12_whyCommit ?_
  rw [rd hs 5 (by omega)]
  unfold whyF at K
  refine ⟨rv (by omega), cq (fun e => s_allRead R hs (bq (fun e2 => ?_) (fun e2 => ?_))) (fun e => ?_)⟩
  · rw [if_pos e, if_neg (by rw [e2]; decide)] at K; exact K
  · rw [if_pos e, if_pos e2] at K; exact K
  · rw [if_neg e] at K; exact K
theorem s_mayFollow {a b : Nat} (R : Rk C E s) (hs : h.1 132 = s) (ha : a < 32) (hb : b < 32) (K : kk (b2i (folw s a b)) h) : MetPM m_X12_mayFollow [.ref 130, .int (nI a), .int (nI b)] h (rI q kk) := by
  refine t_X12_mayFollow (pk_eq a b (fun e => ⟨isB_0, ?_⟩) (fun e => ⟨rv (by omega), ?_⟩))
  · rw [show folw s a b = false by simp [folw, e]] at K; exact K
  · rw [rd hs 5 (by omega)]
    refine s_reads hs (by omega) (bq (fun e2 => ⟨isB_0, ?_⟩) (fun e2 => s_talk hs ha hb (bq (fun e3 => ⟨isB_0, ?_⟩) (fun e3 => s_apart (by omega) (by omega) ⟨rv (by omega), ?_⟩))))
    · rw [show folw s a b = false by simp [folw, e2]] at K; exact K
    · rw [show folw s a b = false by simp [folw, e3]] at K; exact K
    · rw [rd hs 6 (by omega), R.sk.1]
      have h7 := R.sk.2
      have h10 : apt a b < 200 := by unfold apt; split <;> omega
      refine pk_lt _ _ (fun e4 => ⟨isB_0, ?_⟩) (fun e4 => ⟨isB_1, ?_⟩)
      · rw [show folw s a b = false by simp [folw, e4]] at K; exact K
      · rw [show folw s a b = true by simp [folw, e, e2, e3, e4]] at K; exact K
theorem s_mayPass {x : Int32} (hs : h.1 132 = s) (K : kk (b2i (mayP s x)) h) : MetPM m_X12_mayPass [.ref 130, .int x] h (rI q kk) := by
  refine t_X12_mayPass (s_isInR (a := 0) (b := 999) (by omega) (by omega) (bq (fun e => ⟨isB_0, ?_⟩) (fun e => ⟨rv (by omega), ?_⟩)))
  · rw [show mayP s x = false by simp only [mayP]; rw [show inR x 0 999 = false from e]; rfl] at K; exact K
  · rw [rd hs 11 (by omega)]
    refine cq (fun e2 => ⟨isB_0, ?_⟩) (fun e2 => ⟨isB_1, ?_⟩)
    · rw [show mayP s x = false by simp only [mayP]; rw [decide_eq_false (Int32.not_le.mpr e2), Bool.and_false]] at K; exact K
    · rw [show mayP s x = true by simp only [mayP]; rw [show inR x 0 999 = true from e, decide_eq_true (Int32.not_lt.mp e2)]; rfl] at K; exact K
theorem s_mayStart (hs : h.1 132 = s) (K : kk (b2i (mayS s)) h) : MetPM m_X12_mayStart [.ref 130] h (rI q kk) := by
  refine t_X12_mayStart ?_
  rw [rd hs 3 (by omega)]
  refine ⟨rv (by omega), cq (fun e => ⟨isB_0, ?_⟩) (fun e => s_isGoing hs (bp (fun e2 => ⟨isB_1, ?_⟩) (fun e2 => ⟨isB_0, ?_⟩)))⟩
  · rw [show mayS s = false by simp [mayS, e]] at K; exact K
  · rw [show mayS s = true by simp [mayS, e, e2]] at K; exact K
  · rw [show mayS s = false by simp [mayS, e2]] at K; exact K
theorem s_keptEvents (hs : h.1 132 = s) (R : Rk C E s) (hE : E < 2 ^ 31) (K : kk (nI (kEv s)) h) : MetPM m_X12_keptEvents [.ref 130] h (rI q kk) := by
  refine t_X12_keptEvents ?_
  have h7 := R.ev.2
  rw [rd hs 19 (by omega), R.ev.1]
  unfold kEv at K
  refine ⟨rv (by omega), pk_le 30 _ (fun e => ?_) (fun e => ⟨rv (by omega), ?_⟩)⟩
  · rw [if_neg (by omega)] at K; exact K
  · rw [if_pos e] at K; exact K
/-! changes of the row -/
theorem s_lays {m w : Nat} {x : Int32} (hs : h.1 132 = s) (hi : 49 + 7 * m + w < 253) (K : ∀ h', h' = si h 132 (49 + 7 * m + w) x → h'.1 132 = ups s (49 + 7 * m + w) x → kv h') : MetPM m_X12_lays [.ref 130, .int (nI m), .int (nI w), .int x] h (rV q kv) := by
  refine t_X12_lays ?_
  rw [ix_of, nI_clamp (by omega)]
  exact ⟨rv hi, K _ rfl (by rw [si_a, hs])⟩
/-- an event in a row -/
def evS (s : RW) (k m n : Int32) : RW := fun j =>
  if j = 133 + 4 * (nn (s 19) % 30) then s 11 else if j = 133 + 4 * (nn (s 19) % 30) + 1 then k else if j = 133 + 4 * (nn (s 19) % 30) + 2 then m
  else if j = 133 + 4 * (nn (s 19) % 30) + 3 then n else if j = 19 then s 19 + nI 1 else s j
/-- the row alone may change -/
def WR (b k : Nat) : Bool := Nat.beq b 132 && Nat.blt k 253
theorem WR_t {k : Nat} (h : k < 253) : WR 132 k = true := Nat.ble_eq_true_of_le h
theorem s_notes {k m n : Int32} (hs : h.1 132 = s) (he : isN (s 19) E) (hE : E < 2 ^ 31) (K : ∀ h', Fr WR h h' → h'.1 132 = evS s k m n → kv h') : MetPM m_X12_notes [.ref 130, .int k, .int m, .int n] h (rV q kv) := by
  refine t_X12_notes ?_
  have h7 := he.2
  have e0 : nI 133 + nI 4 * (s 19 - s 19 / nI 30 * nI 30) = nI (133 + 4 * (nn (s 19) % 30)) := by
    rw [he.1, pk_rem (by omega) (by omega) (by omega), pk_mul, nI_add, nn_nI (by omega)]
  have hr : nn (s 19) % 30 < 30 := Nat.mod_lt _ (by omega)
  rw [rd hs 19 (by omega), rd hs 11 (by omega)]
  refine ⟨rv (by omega), by decide, ?_⟩
  intro y1
  show _ ∧ _
  have e1 : nI 133 + nI 4 * (y1 - y1 / nI 30 * nI 30) = nI (133 + 4 * (nn (s 19) % 30)) := e0
  rw [e1, nI_add, nI_add, nI_add, nI_clamp (by omega), nI_clamp (by omega), nI_clamp (by omega), nI_clamp (by omega), nI_clamp (by omega)]
  refine ⟨rv (by omega), rv (by omega), rv (by omega), rv (by omega), rv (by omega), rv (by omega), rv (by omega), K _ ?_ ?_⟩
  · exact ((((Fr.wr h _ (WR_t (by omega))).and _ (WR_t (by omega))).and _ (WR_t (by omega))).and _ (WR_t (by omega))).and _ rfl
  · rw [si_a, si_a, si_a, si_a, si_a, hs, gi_ok (by omega), gi_ok (by omega), gi_ok (by omega), gi_ok (by omega), show gi h 132 19 = s 19 from congrFun hs 19]
    funext j
    simp only [ups, evS]
    by_cases j0 : j = 19
    · subst j0
      rw [if_pos rfl, if_neg (by omega), if_neg (by omega), if_neg (by omega), if_neg (by omega), if_pos rfl]
    · rw [if_neg j0]
      by_cases j1 : j = 133 + 4 * (nn (s 19) % 30)
      · subst j1
        rw [if_neg (by omega), if_neg (by omega), if_neg (by omega), if_pos rfl, if_pos rfl]
      · by_cases j2 : j = 133 + 4 * (nn (s 19) % 30) + 1
        · subst j2
          rw [if_neg (by omega), if_neg (by omega), if_pos rfl, if_neg (by omega), if_pos rfl]
        · by_cases j3 : j = 133 + 4 * (nn (s 19) % 30) + 2
          · subst j3
            rw [if_neg (by omega), if_pos rfl, if_neg (by omega), if_neg (by omega), if_pos rfl]
          · by_cases j4 : j = 133 + 4 * (nn (s 19) % 30) + 3
            · subst j4
              rw [if_pos rfl, if_neg (by omega), if_neg (by omega), if_neg (by omega), if_pos rfl]
            · rw [if_neg j4, if_neg j3, if_neg j2, if_neg j1, if_neg j1, if_neg j2, if_neg j3, if_neg j4, if_neg j0]
end
