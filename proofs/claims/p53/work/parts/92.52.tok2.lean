/-! ===== the class's tokens, one after another ===== -/
section
variable {q : Nat → PH → Prop} {kk : Int32 → PH → Prop} {kl : Int64 → PH → Prop} {kv : PH → Prop} {h h' : PH} {s t s' : RW} {C E D F : Nat} {a b0 u w n p : Nat} {f g z : FI} {c : Nat → Nat}
theorem l_adv52 {h0 : PH} {s : Nat} (hs : s ≤ n) (hp : s = tS c n p) (B : CB c n h) (F : Fz WA VA h0 h) (e8 : gi h 1 8 = nI s) (K : ∀ h', Fz WA VA h0 h' → CT c n p h' → kv h') : At m_X10_advance (rV q kv) 52 0 [some (.ref 1), none] [] h := by
  have hn := B.1
  refine u_X10_advance_52 ?_
  have F1 : Fz WA VA h (si h 1 5 (gi h 1 8)) := FA_i (by omega)
  have g5 : gi (si h 1 5 (gi h 1 8)) 1 5 = nI s := by rw [gi_same]; exact e8
  have g8 : gi (si h 1 5 (gi h 1 8)) 1 8 = nI s := by rw [gi_ok (by omega)]; exact e8
  generalize si h 1 5 (gi h 1 8) = h1 at F1 g5 g8
  have B1 := B.fa F1
  have F01 := F.trans F1
  have tk : tK c n p = kK c n s := by unfold tK; rw [hp]
  have te : tE c n p = kE c n s := by unfold tE; rw [hp]
  rw [g8, show gi h1 1 1 = nI n from B1.2.2.1, cl (by omega)]
  refine pk_lt s n (fun d => ⟨vp_in_nI (by omega) (by omega), ?_⟩) (fun d => ?_)
  · rw [B1.2.2.2 s d]
    have hc := B1.2.1 s
    have sq := sbq (c s) hc
    have nd : ¬ n ≤ s := by omega
    have p106 : leC (c s) = false → At m_X10_advance (rV q kv) 106 0 [some (.ref 1), some (.int (sb_b (c s)))] [] h1 := fun el => by
      have nel : ¬ leC (c s) = true := by rw [el]; decide
      have p125 : diC (c s) = false → At m_X10_advance (rV q kv) 125 0 [some (.ref 1), some (.int (sb_b (c s)))] [] h1 := fun ed => by
        have ned : ¬ diC (c s) = true := by rw [ed]; decide
        have fin : ∀ x : Nat, x = kK c n s → 3 ≤ x → At m_X10_advance (rV q kv) 171 0 [some (.ref 1), some (.int (sb_b (c s)))] [] (si (si h1 1 4 (nI x)) 1 8 (gi (si h1 1 4 (nI x)) 1 8 + nI 1)) := fun x hx hx3 => by
          have F2 : Fz WA VA h1 (si h1 1 4 (nI x)) := FA_i (by omega)
          have F3 : Fz WA VA (si h1 1 4 (nI x)) (si (si h1 1 4 (nI x)) 1 8 (gi (si h1 1 4 (nI x)) 1 8 + nI 1)) := FA_i (by omega)
          refine u_X10_advance_171 (K _ ((F01.trans F2).trans F3) ⟨?_, ?_, ?_, fun y => ?_, fun y => ?_⟩)
          · rw [gi_ok (by omega), gi_same, tk, hx]
          · rw [gi_ok (by omega), gi_ok (by omega), g5, hp]
          · rw [gi_same, gi_ok (by omega), g8, nI_add, te]
            unfold kE
            rw [if_neg nd, if_neg nel, if_neg ned]
          · rw [tk, ← hx] at y; omega
          · rw [tk, ← hx] at y; omega
        have kk9 : kK c n s = if c s = 59 then 3 else if c s = 40 then 4 else if c s = 41 then 5 else 6 := by
          unfold kK
          rw [if_neg nd, if_neg nel, if_neg ned]
        refine u_X10_advance_125 ⟨fun y1 => ⟨fun y2 => ⟨fun y3 => fin 6 ?_ (by omega), fun y3 => fin 5 ?_ (by omega)⟩, fun y2 => fin 4 ?_ (by omega)⟩, fun y1 => fin 3 ?_ (by omega)⟩
        · rw [kk9, if_neg (fun e => y1 (sq.2.1.1.mpr e)), if_neg (fun e => y2 (sq.2.1.2.1.mpr e)), if_neg (fun e => y3 (sq.2.1.2.2.mpr e))]
        · rw [kk9, if_neg (fun e => y1 (sq.2.1.1.mpr e)), if_neg (fun e => y2 (sq.2.1.2.1.mpr e)), if_pos (sq.2.1.2.2.mp y3)]
        · rw [kk9, if_neg (fun e => y1 (sq.2.1.1.mpr e)), if_pos (sq.2.1.2.1.mp y2)]
        · rw [kk9, if_pos (sq.2.1.1.mp y1)]
      refine u_X10_advance_106 ⟨fun y => p125 ?_, fun y => ⟨fun y2 => p125 ?_, fun y2 => t_X10_scanNumber ?_⟩⟩
      · cases e : diC (c s)
        · rfl
        · exact absurd y (sq.2.2.1.2.mp e).1
      · cases e : diC (c s)
        · rfl
        · exact absurd y2 (sq.2.2.1.2.mp e).2
      · have ed : diC (c s) = true := sq.2.2.1.2.mpr ⟨y, y2⟩
        have F2 : Fz WA VA h1 (si h1 1 7 (nI 0)) := FA_i (by omega)
        have eE : kE c n s = dE c n s := by unfold kE; rw [if_neg nd, if_neg nel, if_pos ed]
        have eK : kK c n s = if dE c n s - s ≤ 3 then 2 else 6 := by unfold kK; rw [if_neg nd, if_neg nel, if_pos ed]
        refine l_scanD (h0 := si h1 1 7 (nI 0)) hs (fun h3 f3 k1 k2 k3 k4 => ?_) _ s _ (by omega : s + (n - s) = n) (Nat.le_refl _) rfl (B1.fa F2) (Fz.refl _ _ _) (by rw [gi_ok (by omega)]; exact g5) (by rw [gi_ok (by omega)]; exact g8) (fun i x1 x2 => absurd x2 (by omega)) (fun _ => by rw [gi_same, Nat.sub_self]; rfl)
        refine u_X10_advance_171 (K _ ((F01.trans F2).trans f3) ⟨?_, ?_, ?_, fun y => ?_, fun y => ?_⟩)
        · rw [k1, tk, eK]
        · rw [k2, hp]
        · rw [k3, te, eE]
        · rw [tk, eK] at y
          split at y <;> omega
        · rw [tk, eK] at y
          have : dE c n s - s ≤ 3 := by
            split at y
            · assumption
            · omega
          rw [k4 this]
          unfold tV
          rw [te, eE, ← hp]
    refine ⟨fun y => p106 ?_, fun y => ⟨fun y2 => p106 ?_, fun y2 => t_X10_scanWord ?_⟩⟩
    · cases e : leC (c s)
      · rfl
      · exact absurd y (sq.2.2.1.1.mp e).1
    · cases e : leC (c s)
      · rfl
      · exact absurd y2 (sq.2.2.1.1.mp e).2
    · have el : leC (c s) = true := sq.2.2.1.1.mpr ⟨y, y2⟩
      have F2 : Fz WA VA h1 (sl h1 1 6 (lN 0)) := FA_l
      have eE : kE c n s = wE c n s := by unfold kE; rw [if_neg nd, if_pos el]
      have eK : kK c n s = if wE c n s - s ≤ 8 then 1 else 6 := by unfold kK; rw [if_neg nd, if_pos el]
      refine l_scanW (h0 := sl h1 1 6 (lN 0)) hs (fun h3 f3 k1 k2 k3 k4 => ?_) _ s _ (by omega : s + (n - s) = n) (Nat.le_refl _) rfl (B1.fa F2) (Fz.refl _ _ _) g5 g8 (fun i x1 x2 => absurd x2 (by omega)) (fun _ => by rw [gl_same, Nat.sub_self]; rfl)
      refine u_X10_advance_171 (K _ ((F01.trans F2).trans f3) ⟨?_, ?_, ?_, fun y => ?_, fun y => ?_⟩)
      · rw [k1, tk, eK]
      · rw [k2, hp]
      · rw [k3, te, eE]
      · rw [tk, eK] at y
        have : wE c n s - s ≤ 8 := by
          split at y
          · assumption
          · omega
        rw [k4 this]
        unfold tW
        rw [te, eE, ← hp]
      · rw [tk, eK] at y
        split at y <;> omega
  · have F2 : Fz WA VA h1 (si h1 1 4 (nI 0)) := FA_i (by omega)
    have tk0 : tK c n p = 0 := by rw [tk]; unfold kK; rw [if_pos d]
    refine K _ (F01.trans F2) ⟨?_, ?_, ?_, fun y => ?_, fun y => ?_⟩
    · rw [gi_same, tk0]
    · rw [gi_ok (by omega), g5, hp]
    · rw [gi_ok (by omega), g8, te]
      unfold kE
      rw [if_pos d]
    · rw [tk0] at y; cases y
    · rw [tk0] at y; cases y
theorem l_adv {h0 : PH} (hpn : p ≤ n) (K : ∀ h', Fz WA VA h0 h' → CT c n p h' → kv h') : ∀ k j h, j + k = n → tS c n j = tS c n p → CB c n h → Fz WA VA h0 h → gi h 1 8 = nI j →
    (((gi h 1 1) ≤ (gi h 1 8) → At m_X10_advance (rV q kv) 52 0 [some (.ref 1), none] [] h) ∧ (¬ (gi h 1 1) ≤ (gi h 1 8) → (vp_in (gi h 1 8) 900 ∧ (((gi h 2 (gi h 1 8).toNatClampNeg) = (nI 32) → At m_X10_advance (rV q kv) 39 0 [some (.ref 1), none] [] h) ∧ (¬ (gi h 2 (gi h 1 8).toNatClampNeg) = (nI 32) → (vp_in (gi h 1 8) 900 ∧ ((¬ (gi h 2 (gi h 1 8).toNatClampNeg) = (nI 10) → At m_X10_advance (rV q kv) 52 0 [some (.ref 1), none] [] h) ∧ ((gi h 2 (gi h 1 8).toNatClampNeg) = (nI 10) → At m_X10_advance (rV q kv) 39 0 [some (.ref 1), none] [] h)))))))) := by
  intro k
  induction k with
  | zero =>
    intro j h hj ej B F e8
    have hn := B.1
    rw [show gi h 1 1 = nI n from B.2.2.1, e8]
    refine pk_le n j (fun _ => ?_) (fun y => absurd y (by omega))
    have e9 : tS c n j = j := rE_no (Or.inl (by omega))
    exact l_adv52 (p := p) (by omega : j ≤ n) (by rw [← ej, e9]) B F e8 K
  | succ k ih =>
    intro j h hj ej B F e8
    have hn := B.1
    have sq := sbq (c j) (B.2.1 j)
    rw [show gi h 1 1 = nI n from B.2.2.1, e8, cl (by omega), B.2.2.2 j (by omega), sq.1.1, sq.1.2]
    refine pk_le n j (fun y => absurd y (by omega)) (fun _ => ⟨vp_in_nI (by omega) (by omega), ?_⟩)
    have go : spC (c j) = true → At m_X10_advance (rV q kv) 39 0 [some (.ref 1), none] [] h := fun e => by
      refine u_X10_advance_39 (u_X10_advance_0 ?_)
      have F2 : Fz WA VA h (si h 1 8 (gi h 1 8 + nI 1)) := FA_i (by omega)
      refine ih (j + 1) _ (by omega) ?_ (B.fa F2) (F.trans F2) (by rw [gi_same, e8, nI_add])
      rw [← ej]
      exact (rE_go (P := fun i => spC (c i)) (by omega) e).symm
    refine ⟨fun y => go (by unfold spC; rw [y]; rfl), fun y => ⟨vp_in_nI (by omega) (by omega), fun y2 => ?_, fun y2 => go (by unfold spC; rw [y2]; rfl)⟩⟩
    have e9 : tS c n j = j := rE_no (Or.inr (by
      unfold spC
      rw [decide_eq_false y, decide_eq_false y2]; rfl))
    exact l_adv52 (p := p) (by omega : j ≤ n) (by rw [← ej, e9]) B F e8 K
theorem c_advance (hp : p ≤ n) (B : CB c n h) (e8 : gi h 1 8 = nI p) (K : ∀ h', Fz WA VA h h' → CT c n p h' → kv h') : MetPM m_X10_advance [.ref 1] h (rV q kv) := t_X10_advance (l_adv hp K (n - p) p h (by omega) rfl B (Fz.refl _ _ _) e8)
/-- on to the next token -/
theorem c_next (hp : p ≤ n) (B : CB c n h) (T : CT c n p h) (K : ∀ h', Fz WA VA h h' → CT c n (tE c n p) h' → kv h') : MetPM m_X10_advance [.ref 1] h (rV q kv) := c_advance (tE_le hp).2 B T.2.2.1 K
/-- what reading may change of a text: tokens and the error -/
def WB (b k : Nat) : Prop := b = 1 ∧ 2 ≤ k
theorem FA_B (x : Fz WA VA h h') : Fz WB VA h h' := x.mono (fun b k y => by unfold WA at y; unfold WB; omega) (fun _ y => y)
theorem CB.fb (x : Fz WB VA h h') (B : CB c n h) : CB c n h' := B.fz x (by unfold WB; omega) (fun k => by unfold WB; omega)
theorem c_begin (B : CB c n h) (K : ∀ h', Fz WB VA h h' → gi h' 1 2 = nI 0 → gi h' 1 3 = -(nI 1) → CT c n 0 h' → kv h') : MetPM m_X10_begin [.ref 1] h (rV q kv) := by
  have F1 : Fz WB VA h (si (si (si h 1 2 (nI 0)) 1 3 (-(nI 1))) 1 8 (nI 0)) := ((Fz.si h _ ⟨rfl, by omega⟩).trans (Fz.si _ _ ⟨rfl, by omega⟩)).trans (Fz.si _ _ ⟨rfl, by omega⟩)
  refine t_X10_begin (c_advance (p := 0) (Nat.zero_le _) (B.fb F1) gi_same (fun h1 f1 T => K h1 (F1.trans (FA_B f1)) ?_ ?_ T))
  · rw [f1.1 1 2 (by unfold WA; omega), gi_ok (by omega), gi_ok (by omega), gi_same]
  · rw [f1.1 1 3 (by unfold WA; omega), gi_ok (by omega), gi_same]
/-- an error is told -/
def ER (x : Int32) (p : Nat) (h : PH) : Prop := gi h 1 2 = x ∧ gi h 1 3 = nI p
theorem c_fail {x : Int32} (T : CT c n p h) (K : ∀ h', Fz WB VA h h' → ER x (tS c n p) h' → kk (nI 0) h') : MetPM m_X10_fail [.ref 1, .int x] h (rI q kk) := by
  refine t_X10_fail ⟨isB_0, K _ ((Fz.si h _ ⟨rfl, by omega⟩).trans (Fz.si _ _ ⟨rfl, by omega⟩)) ⟨?_, ?_⟩⟩
  · rw [gi_ok (by omega), gi_same]
  · rw [gi_same, gi_ok (by omega)]; exact T.2.1
theorem c_takeSign {x : Nat} (hx : x < 100) (hp : p ≤ n) (B : CB c n h) (T : CT c n p h) (K0 : ¬ tK c n p = x → ∀ h', Fz WB VA h h' → ER (nI 1) (tS c n p) h' → kk (nI 0) h') (K1 : tK c n p = x → ∀ h', Fz WA VA h h' → CT c n (tE c n p) h' → kk (nI 1) h') : MetPM m_X10_takeSign [.ref 1, .int (nI x)] h (rI q kk) := by
  have hk : tK c n p < 100 := by
    unfold tK kK
    repeat' split
    all_goals omega
  refine t_X10_takeSign ?_
  rw [show gi h 1 4 = _ from T.1, nI_eq (by omega) (by omega)]
  exact ⟨fun e => c_next hp B T (fun h1 f1 T1 => ⟨isB_1, K1 e h1 f1 T1⟩), fun e => c_fail T (fun h1 f1 e1 => ⟨isB_0, K0 e h1 f1 e1⟩)⟩
theorem tK_lt : tK c n p < 7 := by
  unfold tK kK
  repeat' split
  all_goals omega
theorem tV_lt (hp : p ≤ n) (e : tK c n p = 2) : tV c n p < 1000 := by
  have hs := (tS_le (c := c) hp).2
  unfold tV
  have h1 : n ≤ tS c n p → False := fun d => by
    unfold tK kK at e
    rw [if_pos d] at e; cases e
  have nd : ¬ n ≤ tS c n p := h1
  unfold tK kK at e
  rw [if_neg nd] at e
  unfold tE kE
  rw [if_neg nd]
  split at e
  · split at e <;> omega
  · rename_i el
    rw [if_neg el]
    split at e
    · rename_i ed
      rw [if_pos ed]
      have l3 : dE c n (tS c n p) - tS c n p ≤ 3 := by
        split at e
        · assumption
        · omega
      have al := (rE_in (P := fun j => diC (c j)) (n := n) (n - tS c n p) (tS c n p) (by omega)).2.2.1
      refine Nat.lt_of_lt_of_le (vl_lt (fun j hj => ?_)) (Nat.pow_le_pow_right (n := 10) (by omega) l3)
      have := diC_t (al (tS c n p + j) (by omega) (by unfold dE at hj; omega))
      omega
    · split at e
      · cases e
      · split at e
        · cases e
        · split at e <;> cases e
theorem c_takeNumber {lo hi : Nat} (hlo : lo < 2000) (hhi : hi < 2000) (hp : p ≤ n) (B : CB c n h) (T : CT c n p h) (K0 : ¬ tK c n p = 2 → ∀ h', Fz WB VA h h' → ER (nI 1) (tS c n p) h' → kk (-(nI 1)) h') (K2 : tK c n p = 2 → ¬ (lo ≤ tV c n p ∧ tV c n p ≤ hi) → ∀ h', Fz WB VA h h' → ER (nI 2) (tS c n p) h' → kk (-(nI 1)) h') (K1 : tK c n p = 2 → lo ≤ tV c n p ∧ tV c n p ≤ hi → ∀ h', Fz WA VA h h' → CT c n (tE c n p) h' → kk (nI (tV c n p)) h') : MetPM m_X10_takeNumber [.ref 1, .int (nI lo), .int (nI hi)] h (rI q kk) := by
  have hk := tK_lt (c := c) (n := n) (p := p)
  refine t_X10_takeNumber ?_
  rw [show gi h 1 4 = _ from T.1, nI_eq (by omega) (by omega)]
  refine ⟨fun e => ?_, fun e => c_fail T (fun h1 f1 e1 => K0 e h1 f1 e1)⟩
  have hv := tV_lt hp e
  rw [T.2.2.2.2 e]
  refine pk_lt (tV c n p) lo (fun d => c_fail T (fun h1 f1 e1 => K2 e (by omega) h1 f1 e1)) (fun d => pk_le (tV c n p) hi (fun d2 => c_next hp B T (fun h1 f1 T1 => K1 e ⟨d, d2⟩ h1 f1 T1)) (fun d2 => c_fail T (fun h1 f1 e1 => K2 e (by omega) h1 f1 e1)))
end

