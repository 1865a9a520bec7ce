/-! ===== the model's tokens, one after another ===== -/
section
variable {q : Nat → PH → Prop} {kk : Int32 → PH → Prop} {kl : Int64 → PH → Prop} {kv : PH → Prop} {h h' : PH} {t : RW} {C E L : Nat} {a b n m p v w : Nat} {f g : FI} {nm : Nat → Int64} {c : Nat → Nat} {td : Nat → Bool}
theorem cha : ∀ x, x < 256 → ((nI x = nI 32 ↔ x = 32) ∧ (nI x = nI 10 ↔ x = 10)) ∧ ((nI x = nI 59 ↔ x = 59) ∧ (nI x = nI 40 ↔ x = 40) ∧ (nI x = nI 41 ↔ x = 41)) ∧ 0 ≤ nI x := by decide +kernel
theorem chm : ¬ (-(nI 1)) = nI 32 ∧ ¬ (-(nI 1)) = nI 10 ∧ ¬ 0 ≤ (-(nI 1)) := by decide
/-- the token that begins at s -/
theorem m_tok {h0 : PH} {s : Nat} (hs : s ≤ n) (hp : s = tS c n p) (B : MB c n h) (F : Fz WT VT h0 h) (e4 : gi h 130 4 = nI s) (K : ∀ h', Fz WT VT h0 h' → MT c n p h' → kv h') :
    ∀ q', MetPM m_X12_here [.ref 130, .int (nI 0)] (si (sl (si h 130 5 (gi h 130 4)) 130 12 (lN 0)) 130 7 (nI 0)) (rI q' (fun x6 h5 => ((0 ≤ x6 → MetPM m_X12_isLetter [.int x6] h5 (rI q' (fun x8 h7 => ((x8 = 0 → MetPM m_X12_isDigit [.int x6] h7 (rI q' (fun x10 h9 => ((x10 = 0 → ((x6 = (nI 59) → At m_X12_goOn (rV q kv) 239 0 [some (.ref 130), some (.int x6), some (.int (nI 1))] [] (si (si h9 130 6 (nI 3)) 130 7 x6)) ∧ (¬ x6 = (nI 59) → ((x6 = (nI 40) → At m_X12_goOn (rV q kv) 239 0 [some (.ref 130), some (.int x6), some (.int (nI 1))] [] (si (si h9 130 6 (nI 3)) 130 7 x6)) ∧ (¬ x6 = (nI 40) → ((¬ x6 = (nI 41) → At m_X12_goOn (rV q kv) 239 0 [some (.ref 130), some (.int x6), some (.int (nI 1))] [] (si (si h9 130 6 (nI 4)) 130 7 x6)) ∧ (x6 = (nI 41) → At m_X12_goOn (rV q kv) 239 0 [some (.ref 130), some (.int x6), some (.int (nI 1))] [] (si (si h9 130 6 (nI 3)) 130 7 x6)))))))) ∧ (¬ x10 = 0 → At m_X12_goOn (rV q kv) 146 0 [some (.ref 130), some (.int x6), some (.int (nI 0))] [] h9))))) ∧ (¬ x8 = 0 → At m_X12_goOn (rV q kv) 76 0 [some (.ref 130), some (.int x6), some (.int (nI 0))] [] h7))))) ∧ (¬ 0 ≤ x6 → rV q kv (.inl none) (si h5 130 6 (nI 0)))))) := by
  intro q'
  have hn := B.1
  have F1 : Fz WT VT h (si (sl (si h 130 5 (gi h 130 4)) 130 12 (lN 0)) 130 7 (nI 0)) := ((FT_i (by omega) (by omega)).trans FT_l).trans (FT_i (by omega) (by omega))
  have g5 : gi (si (sl (si h 130 5 (gi h 130 4)) 130 12 (lN 0)) 130 7 (nI 0)) 130 5 = nI s := by
    rw [gi_ok (by omega), show gi (sl (si h 130 5 (gi h 130 4)) 130 12 (lN 0)) 130 5 = gi (si h 130 5 (gi h 130 4)) 130 5 from rfl, gi_same]; exact e4
  have g4 : gi (si (sl (si h 130 5 (gi h 130 4)) 130 12 (lN 0)) 130 7 (nI 0)) 130 4 = nI s := by
    rw [gi_ok (by omega), show gi (sl (si h 130 5 (gi h 130 4)) 130 12 (lN 0)) 130 4 = gi (si h 130 5 (gi h 130 4)) 130 4 from rfl, gi_ok (by omega)]; exact e4
  have g7 : gi (si (sl (si h 130 5 (gi h 130 4)) 130 12 (lN 0)) 130 7 (nI 0)) 130 7 = nI 0 := gi_same
  have g12 : gl (si (sl (si h 130 5 (gi h 130 4)) 130 12 (lN 0)) 130 7 (nI 0)) 130 12 = lN 0 := (gl_same : gl (sl (si h 130 5 (gi h 130 4)) 130 12 (lN 0)) 130 12 = lN 0)
  generalize si (sl (si h 130 5 (gi h 130 4)) 130 12 (lN 0)) 130 7 (nI 0) = h1 at F1 g5 g4 g7 g12
  have B1 := B.ft F1
  have F01 := F.trans F1
  have tk : tK c n p = kK c n s := by unfold tK; rw [hp]
  have te : tE c n p = kE c n s := by unfold tE; rw [hp]
  refine s_here B1 g4 (by omega) (fun d => ?_) (fun d => ⟨fun y => absurd y chm.2.2, fun _ => ?_⟩)
  · have hc := B1.2.1 (s + 0)
    have ch := cha (c s) hc
    have nd : ¬ n ≤ s := by omega
    refine ⟨fun _ => s_isLetter hc (bq (fun el => ?_) (fun el => ?_)), fun y => absurd ch.2.2 y⟩
    · have nel : ¬ leC (c s) = true := by
        intro z
        rw [show leC (c s) = false from el] at z
        cases z
      refine s_isDigit hc (bq (fun ed => ?_) (fun ed => ?_))
      · have ned : ¬ diC (c s) = true := by
          intro z
          rw [show diC (c s) = false from ed] at z
          cases z
        have kk9 : kK c n s = if c s = 59 then 3 else if c s = 40 then 4 else if c s = 41 then 5 else 6 := by
          unfold kK
          rw [if_neg nd, if_neg nel, if_neg ned]
        have fin : ∀ x k : Nat, ∀ y, k = kK c n s → x = sK k → 3 ≤ k → ((k = 3 → y = nI 59) ∧ (k = 4 → y = nI 40) ∧ (k = 5 → y = nI 41)) → At m_X12_goOn (rV q kv) 239 0 [some (.ref 130), some (.int (nI (c (s + 0)))), some (.int (nI 1))] [] (si (si h1 130 6 (nI x)) 130 7 y) := fun x k y hk hx hk3 hy => by
          refine u_X12_goOn_239 (K _ (F01.trans (((FT_i (by omega) (by omega)).trans (FT_i (by omega) (by omega))).trans (FT_i (by omega) (by omega)))) ⟨?_, ?_, ?_, fun z => ?_, fun z => ?_, fun z => ?_, fun z => ?_, fun z => ?_⟩)
          · rw [gi_ok (by omega), gi_ok (by omega), gi_same, tk, ← hk, hx]
          · rw [gi_ok (by omega), gi_ok (by omega), gi_ok (by omega), g5, hp]
          · rw [gi_same, gi_ok (by omega), gi_ok (by omega), g4, nI_add, te]
            unfold kE
            rw [if_neg nd, if_neg nel, if_neg ned]
          · rw [tk, ← hk] at z; omega
          · rw [tk, ← hk] at z; omega
          · rw [tk, ← hk] at z
            rw [gi_ok (by omega), gi_same]; exact hy.1 z
          · rw [tk, ← hk] at z
            rw [gi_ok (by omega), gi_same]; exact hy.2.1 z
          · rw [tk, ← hk] at z
            rw [gi_ok (by omega), gi_same]; exact hy.2.2 z
        refine ⟨fun y => fin 3 3 _ ?_ rfl (by omega) ⟨fun _ => y, fun z => by omega, fun z => by omega⟩, fun y => ⟨fun y2 => fin 3 4 _ ?_ rfl (by omega) ⟨fun z => by omega, fun _ => y2, fun z => by omega⟩, fun y2 => ⟨fun y3 => fin 4 6 _ ?_ rfl (by omega) ⟨fun z => by omega, fun z => by omega, fun z => by omega⟩, fun y3 => fin 3 5 _ ?_ rfl (by omega) ⟨fun z => by omega, fun z => by omega, fun _ => y3⟩⟩⟩⟩
        · rw [kk9, if_pos (ch.2.1.1.mp y)]
        · rw [kk9, if_neg (fun e => y (ch.2.1.1.mpr e)), if_pos (ch.2.1.2.1.mp y2)]
        · rw [kk9, if_neg (fun e => y (ch.2.1.1.mpr e)), if_neg (fun e => y2 (ch.2.1.2.1.mpr e)), if_neg (fun e => y3 (ch.2.1.2.2.mpr e))]
        · rw [kk9, if_neg (fun e => y (ch.2.1.1.mpr e)), if_neg (fun e => y2 (ch.2.1.2.1.mpr e)), if_pos (ch.2.1.2.2.mp y3)]
      · have ed' : diC (c s) = true := ed
        have eE : kE c n s = dE c n s := by unfold kE; rw [if_neg nd, if_neg nel, if_pos ed']
        have eK : kK c n s = if dE c n s - s ≤ 3 then 2 else 6 := by unfold kK; rw [if_neg nd, if_neg nel, if_pos ed']
        refine m_scanD (h0 := h1) hs (fun h3 f3 k1 k2 k3 k4 => ?_) (n - s) 0 _ (by omega) rfl B1 (Fz.refl _ _ _) g5 g4 (fun i x2 => absurd x2 (by omega)) (fun _ => g7)
        refine K _ (F01.trans f3) ⟨?_, ?_, ?_, fun y => ?_, fun y => ?_, fun y => ?_, fun y => ?_, fun y => ?_⟩
        · rw [k1, tk, eK]; split <;> rfl
        · rw [k2, hp]
        · rw [k3, te, eE]
        · rw [tk, eK] at y
          split at y <;> omega
        · rw [tk, eK] at y
          have : dE c n s - s ≤ 3 := by
            split at y
            · assumption
            · omega
          rw [k4 this]
          unfold tV
          rw [te, eE, ← hp]
        all_goals
          rw [tk, eK] at y
          split at y <;> omega
    · have el' : leC (c s) = true := el
      have eE : kE c n s = wE c n s := by unfold kE; rw [if_neg nd, if_pos el']
      have eK : kK c n s = if wE c n s - s ≤ 8 then 1 else 6 := by unfold kK; rw [if_neg nd, if_pos el']
      refine m_scanW (h0 := h1) hs (fun h3 f3 k1 k2 k3 k4 => ?_) (n - s) 0 _ (by omega) rfl B1 (Fz.refl _ _ _) g5 g4 (fun i x2 => absurd x2 (by omega)) (fun _ => g12) (fun z => absurd z (by omega))
      refine K _ (F01.trans f3) ⟨?_, ?_, ?_, fun y => ?_, fun y => ?_, fun y => ?_, fun y => ?_, fun y => ?_⟩
      · rw [k1, tk, eK]; split <;> rfl
      · rw [k2, hp]
      · rw [k3, te, eE]
      · rw [tk, eK] at y
        have : wE c n s - s ≤ 8 := by
          split at y
          · assumption
          · omega
        rw [k4 this]
        unfold tM
        rw [te, eE, ← hp]
      all_goals
        rw [tk, eK] at y
        split at y <;> omega
  · have F2 : Fz WT VT h1 (si h1 130 6 (nI 0)) := FT_i (by omega) (by omega)
    have tk0 : tK c n p = 0 := by rw [tk]; unfold kK; rw [if_pos (by omega)]
    refine K _ (F01.trans F2) ⟨?_, ?_, ?_, fun y => ?_, fun y => ?_, fun y => ?_, fun y => ?_, fun y => ?_⟩
    · rw [gi_same, tk0]; rfl
    · rw [gi_ok (by omega), g5, hp]
    · rw [gi_ok (by omega), g4, te]
      unfold kE
      rw [if_pos (by omega)]
    all_goals
      rw [tk0] at y
      omega
theorem l_goOn {h0 : PH} (hpn : p ≤ n) (K : ∀ h', Fz WT VT h0 h' → MT c n p h' → kv h') : ∀ k j h, j + k = n → tS c n j = tS c n p → MB c n h → Fz WT VT h0 h → gi h 130 4 = nI j →
    At m_X12_goOn (rV q kv) 0 0 [some (.ref 130), none, none] [] h := by
  intro k
  induction k with
  | zero =>
    intro j h hj ej B F e4
    have hn := B.1
    have e9 : tS c n j = j := rE_no (Or.inl (by omega))
    have T := m_tok (q := q) (p := p) (by omega : j ≤ n) (by rw [← ej, e9]) B F e4 K
    refine u_X12_goOn_0 (s_here B e4 (by omega) (fun d => absurd d (by omega)) (fun d => ⟨fun y => absurd y chm.1, fun _ => ?_⟩))
    exact s_here B e4 (by omega) (fun d => absurd d (by omega)) (fun d => ⟨fun _ => T _, fun y => absurd y chm.2.1⟩)
  | succ k ih =>
    intro j h hj ej B F e4
    have hn := B.1
    have ch := cha (c j) (B.2.1 j)
    have go : spC (c j) = true → At m_X12_goOn (rV q kv) 20 0 [some (.ref 130), none, none] [] h := fun e => by
      refine u_X12_goOn_20 ?_
      have F2 : Fz WT VT h (si h 130 4 (gi h 130 4 + nI 1)) := FT_i (by omega) (by omega)
      refine ih (j + 1) _ (by omega) ?_ (B.ft F2) (F.trans F2) (by rw [gi_same, e4, nI_add])
      rw [← ej]
      exact (rE_go (P := fun i => spC (c i)) (by omega) e).symm
    refine u_X12_goOn_0 (s_here B e4 (by omega) (fun _ => ?_) (fun d => absurd d (by omega)))
    rw [Nat.add_zero]
    refine ⟨fun y => go (by unfold spC; rw [ch.1.1.mp y]; rfl), fun y => s_here B e4 (by omega) (fun _ => ?_) (fun d => absurd d (by omega))⟩
    rw [Nat.add_zero]
    refine ⟨fun y2 => ?_, fun y2 => go (by unfold spC; rw [ch.1.2.mp y2]; rfl)⟩
    have e9 : tS c n j = j := rE_no (Or.inr (by
      unfold spC
      rw [decide_eq_false (fun z => y (ch.1.1.mpr z)), decide_eq_false (fun z => y2 (ch.1.2.mpr z))]; rfl))
    exact m_tok (q := q) (p := p) (by omega : j ≤ n) (by rw [← ej, e9]) B F e4 K _
theorem s_goOn (hp : p ≤ n) (B : MB c n h) (e4 : gi h 130 4 = nI p) (K : ∀ h', Fz WT VT h h' → MT c n p h' → kv h') : MetPM m_X12_goOn [.ref 130] h (rV q kv) := by
  exact met_of o_X12_goOn (Nat.le_of_ble_eq_true rfl) (fun q => absurd rfl q) (l_goOn hp K (n - p) p h (by omega) rfl B (Fz.refl _ _ _) e4)
theorem s_next (hp : p ≤ n) (B : MB c n h) (T : MT c n p h) (K : ∀ h', Fz WT VT h h' → MT c n (tE c n p) h' → kv h') : MetPM m_X12_goOn [.ref 130] h (rV q kv) := s_goOn (tE_le hp).2 B T.2.2.1 K
end
