/-! ===== the class reads a command, or the end of a repeat ===== -/
section
variable {q : Nat → PH → Prop} {kk kj : Int32 → PH → Prop} {kl : Int64 → PH → Prop} {kv : PH → Prop} {h h' : PH} {s t g : RW} {C E L : Nat} {a b n m p v w j ct : Nat} {nm : Nat → Int64} {c : Nat → Nat} {td : Nat → Bool}
theorem y_end (W : WFg g) (G : PGc g h) (S : CY c n s nm p h) (e9 : gi h 5 9 = nI 0) (hD : 0 < pD g) (K : Kz (JC c n s nm) h kk (if tK c n (tE c n p) = 3 then .inr (aEnd g, nm, td, tE c n (tE c n p)) else .inl (1, tS c n (tE c n p)))) : MetPM m_X7_readEndOfRepeat [.ref 5, .ref 1] h (rI q kk) := by
  obtain ⟨⟨w1, w2, w3⟩, w4, w5, w6, w7, w8⟩ := W
  have W : WFg g := ⟨⟨w1, w2, w3⟩, w4, w5, w6, w7, w8⟩
  obtain ⟨g1, g2, g3, g4, g5⟩ := G
  have G : PGc g h := ⟨g1, g2, g3, g4, g5⟩
  obtain ⟨q1, q2, q3, q4, q5⟩ := w7 (pD g - 1) (by omega)
  have lt := sig_lt W q1 (j := 9) (by omega) q2
  refine t_X7_readEndOfRepeat ?_
  rw [g2, pk_sub (by omega)]
  have e58 : gi (si h 5 8 (nI (pD g - 1))) 5 8 = nI (pD g - 1) := gi_same
  have e55 : gi (si h 5 8 (nI (pD g - 1))) 5 5 = nI (pC g) := (gi_ok (by omega)).trans g1
  have e11 : ∀ o, gi (si h 5 8 (nI (pD g - 1))) 11 o = gi h 11 o := fun o => gi_ob (by omega)
  rw [e58, e55, cl (by omega), e11, g3 (pD g - 1) (by omega)]
  refine ⟨vp_in_nI (by omega) (by omega), ?_⟩
  intro y1
  have ey : y1 = nI (sig g (pS g (pD g - 1))) := rfl
  clear_value y1
  subst ey
  rw [cl (by omega)]
  refine ⟨vp_in_nI (by omega) (by omega), ?_⟩
  intro h2
  have F2 : Fz (fun b _ => 5 ≤ b ∧ b ≤ 12) (fun _ => False) h h2 := (Fz.si h _ (by omega)).trans (Fz.si _ _ (by omega))
  have r2 : h2.2 = h.2 := rfl
  have a10 : ∀ i, gi h2 10 i = if i = sig g (pS g (pD g - 1)) then nI (pC g) else gi h 10 i := fun i => by
    show gi (si (si h 5 8 (nI (pD g - 1))) 10 (sig g (pS g (pD g - 1))) (nI (pC g))) 10 i = _
    by_cases d : i = sig g (pS g (pD g - 1))
    · rw [if_pos d, d, gi_same]
    · rw [if_neg d, gi_ok d, gi_ob (by omega)]
  have a5 : gi h2 5 8 = nI (pD g - 1) ∧ gi h2 5 5 = nI (pC g) := by
    refine ⟨?_, ?_⟩
    · show gi (si (si h 5 8 (nI (pD g - 1))) 10 _ _) 5 8 = _
      rw [gi_ob (by omega)]; exact e58
    · show gi (si (si h 5 8 (nI (pD g - 1))) 10 _ _) 5 5 = _
      rw [gi_ob (by omega)]; exact e55
  have a59 : gi h2 5 9 = nI 0 := by
    show gi (si (si h 5 8 (nI (pD g - 1))) 10 _ _) 5 9 = _
    rw [gi_ob (by omega), gi_ok (by omega)]; exact e9
  have ao : ∀ b i, b ≠ 5 → b ≠ 10 → gi h2 b i = gi h b i := fun b i x1 x2 => by
    show gi (si (si h 5 8 (nI (pD g - 1))) 10 _ _) b i = _
    rw [gi_ob x2, gi_ob x1]
  clear_value h2
  have x2 : Fq WCs VCs h h2 := ⟨fun b k e => F2.1 b k (fun z => e (Or.inr z)), fun b e => F2.2.1 b (fun z => z), fun b _ e => F2.2.2 b e⟩
  refine y_next (S.pr F2) (fun h3 x3 S3 => y_sign (k := 3) (F := fun p2 => .inr (aEnd g, nm, td, p2)) (by omega) S3 (K.fz (x2.trans (FCb x3))) (fun h4 x4 S4 K4 => K4.ok ⟨W.en hD, ?_, S4, (x4.1 5 9 (by unfold WB; omega)).trans ((x3.1 5 9 (by unfold WB; omega)).trans a59)⟩))
  have gg : ∀ b i, b ≠ 1 → gi h4 b i = gi h2 b i := fun b i hb => by rw [x4.1 b i (by unfold WB; omega), x3.1 b i (by unfold WB; omega)]
  refine G.en W hD (by rw [gg _ _ (by omega), a5.2, g1]) (by rw [gg _ _ (by omega), a5.1]) (fun o => by rw [gg _ _ (by omega), ao _ _ (by omega) (by omega)]) (fun i hi => by rw [gg _ _ (by omega), a10, if_neg hi]) (by rw [gg _ _ (by omega), a10, if_pos rfl]) (fun b i hb => by rw [gg _ _ (by omega), ao _ _ (by omega) (by omega)]) (fun i => ?_)
  show h4.2.2.1 6 i = h.2.2.1 6 i
  rw [x4.2.2 6 (by omega), x3.2.2 6 (by omega), r2]
theorem y_cmd (W : WFg g) (G : PGc g h) (S : CY c n s nm p h) (e9 : gi h 5 9 = nI 0) (K : Kz (JC c n s nm) h kk (aCmd c n s nm td g p)) : MetPM m_X7_readCommand [.ref 5, .ref 1, .ref 15] h (rI q kk) := by
  obtain ⟨⟨w1, w2, w3⟩, w4, w5, w6, w7, w8⟩ := W
  have W : WFg g := ⟨⟨w1, w2, w3⟩, w4, w5, w6, w7, w8⟩
  have g1 := G.1
  have g2 := G.2.1
  unfold aCmd at K
  refine t_X7_readCommand (c_atC S.pn S.T (fun e => ?_) (fun j hj e => ?_))
  · rw [e] at K
    exact y_fail S K
  · rw [e] at K
    have K2 : Kz (JC c n s nm) h kk (if j = 9 ∧ pD g = 2 then .inl (4, tS c n p) else if pC g = 30 then .inl (6, tS c n p)
      else aArg c n s nm j (tE c n p) (fun x y p1 => if tK c n p1 = (if j = 9 then 4 else 3) then .inr (aPut g j x y, nm, td, tE c n p1) else .inl (1, tS c n p1))) := K
    have a36 : ¬ (j = 9 ∧ pD g = 2) → At m_X7_readCommand (rI q kk) 36 0 [some (.ref 5), some (.ref 1), some (.ref 15), some (.ref (1020 + j))] [] h := fun d => by
      rw [if_neg d] at K2
      refine u_X7_readCommand_36 ?_
      rw [g1]
      refine pk_lt (pC g) 30 (fun z => ?_) (fun z => y_fail S (by rw [if_pos (by omega)] at K2; exact K2))
      rw [if_neg (by omega)] at K2
      refine y_next S (fun h1 x1 S1 => ⟨Or.inr (Or.inl ⟨rfl, by omega, by omega⟩), ?_⟩)
      rw [x1.1 5 5 (by unfold WB; omega), g1, cl (by omega)]
      refine ⟨vp_in_nI (by omega) (by omega), ?_⟩
      have Sr : CY c n s nm (tE c n p) (sr h1 6 (pC g) (some (1020 + j))) := S1
      have er : gi (sr h1 6 (pC g) (some (1020 + j))) 5 5 = nI (pC g) := (x1.1 5 5 (by unfold WB; omega)).trans g1
      refine y_arg hj (by omega) er Sr (K2.fz ((FCb x1).trans Fq.sr)) (fun h' z => ⟨fun y => absurd rfl y, fun _ => ⟨isB_0, z⟩⟩) (fun x y p2 h2 x2 A S2 K3 => ⟨fun _ => ⟨⟨Or.inr (Or.inl ⟨rfl, by omega, by omega⟩), Or.inr (Or.inl ⟨rfl, by omega, by omega⟩)⟩, fun d9 => ?_, fun d9 => ?_⟩, fun y => absurd y (by decide)⟩)
      all_goals
        have c5 : gi h2 5 5 = nI (pC g) := (x2.1 5 5 (by unfold WAr; omega)).trans er
        have c8 : gi h2 5 8 = nI (pD g) := (x2.1 5 8 (by unfold WAr; omega)).trans ((x1.1 5 8 (by unfold WB; omega)).trans g2)
        have c9 : gi h2 5 9 = nI 0 := (x2.1 5 9 (by unfold WAr; omega)).trans ((x1.1 5 9 (by unfold WB; omega)).trans e9)
        have co : ∀ b i, b ≠ 1 → ¬ ((b = 7 ∨ b = 8 ∨ b = 9) ∧ i = pC g) → gi h2 b i = gi h b i := fun b i hb hb2 => (x2.1 b i (by unfold WAr; omega)).trans (x1.1 b i (by unfold WB; omega))
        have cr : ∀ i, gr h2 6 i = if i = pC g then some (1020 + j) else gr h 6 i := fun i => by
          show h2.2.2.1 6 i = _
          rw [x2.2.2 6 (by omega)]
          show (if (6 : Nat) = 6 then (if i = pC g then some (1020 + j) else h1.2.2.1 6 i) else h1.2.2.1 6 i) = _
          rw [if_pos rfl, x1.2.2 6 (by omega)]; rfl
      · have j9 : j = 9 := by omega
        have hD : pD g < 2 := by omega
        rw [c5, nI_add]
        have e58 : gi (si h2 5 5 (nI (pC g + 1))) 5 8 = nI (pD g) := (gi_ok (by omega)).trans c8
        have e55 : gi (si h2 5 5 (nI (pC g + 1))) 5 5 = nI (pC g + 1) := gi_same
        rw [e58, e55, pk_sub (by omega), cl (by omega), Nat.add_sub_cancel]
        refine ⟨vp_in_nI (by omega) (by omega), ?_⟩
        intro h4
        have f5 : gi h4 5 8 = nI (pD g) := by
          show gi (si (si h2 5 5 (nI (pC g + 1))) 11 (pD g) (nI (pC g))) 5 8 = _
          rw [gi_ob (by omega)]; exact e58
        have f55 : gi h4 5 5 = nI (pC g + 1) := by
          show gi (si (si h2 5 5 (nI (pC g + 1))) 11 (pD g) (nI (pC g))) 5 5 = _
          rw [gi_ob (by omega)]; exact e55
        have f59 : gi h4 5 9 = nI 0 := by
          show gi (si (si h2 5 5 (nI (pC g + 1))) 11 (pD g) (nI (pC g))) 5 9 = _
          rw [gi_ob (by omega), gi_ok (by omega)]; exact c9
        have f11 : ∀ o, gi h4 11 o = if o = pD g then nI (pC g) else gi h2 11 o := fun o => by
          show gi (si (si h2 5 5 (nI (pC g + 1))) 11 (pD g) (nI (pC g))) 11 o = _
          by_cases dd : o = pD g
          · rw [if_pos dd, dd, gi_same]
          · rw [if_neg dd, gi_ok dd, gi_ob (by omega)]
        have fo : ∀ b i, b ≠ 5 → b ≠ 11 → gi h4 b i = gi h2 b i := fun b i z1 z2 => by
          show gi (si (si h2 5 5 (nI (pC g + 1))) 11 (pD g) (nI (pC g))) b i = _
          rw [gi_ob z2, gi_ob z1]
        have F4 : Fz (fun b _ => 5 ≤ b ∧ b ≤ 12) (fun _ => False) h2 h4 := (Fz.si h2 _ (by omega)).trans (Fz.si _ _ (by omega))
        have r4 : h4.2 = h2.2 := rfl
        clear_value h4
        rw [f5, nI_add]
        rw [if_pos j9] at K3
        have F5 : Fz (fun b _ => 5 ≤ b ∧ b ≤ 12) (fun _ => False) h2 (si h4 5 8 (nI (pD g + 1))) := F4.trans (Fz.si _ _ (by omega))
        have q5 : Fq WCs VCs h2 (si h4 5 8 (nI (pD g + 1))) := ⟨fun b k e => F5.1 b k (fun z => e (Or.inr z)), fun b e => F5.2.1 b (fun z => z), fun b _ e => F5.2.2 b e⟩
        refine y_sign (k := 4) (F := fun p2 => .inr (aPut g j x y, nm, td, p2)) (by omega) (S2.pr F5) (K3.fz q5) (fun h6 x6 S6 K6 => K6.ok ⟨W.put hj (by omega) (fun _ => hD), ?_, S6, (x6.1 5 9 (by unfold WB; omega)).trans ((gi_ok (by omega)).trans f59)⟩)
        have gg : ∀ b i, b ≠ 1 → gi h6 b i = gi (si h4 5 8 (nI (pD g + 1))) b i := fun b i hb => x6.1 b i (by unfold WB; omega)
        have gr6 : ∀ i, gr h6 6 i = gr h2 6 i := fun i => by
          show h6.2.2.1 6 i = _
          rw [x6.2.2 6 (by omega)]
          show h4.2.2.1 6 i = _
          rw [r4]; rfl
        have AA : AG j (pC g) (nI x) (nI y) h2 := A
        refine G.put W hj (by omega) (fun _ => hD) (by rw [gg _ _ (by omega), gi_ok (by omega)]; exact f55) (by rw [gg _ _ (by omega), gi_same, if_pos j9]) (fun o ho => by rw [gg _ _ (by omega), gi_ob (by omega), f11, if_neg (by omega), co _ _ (by omega) (by omega)]) (fun _ => by rw [gg _ _ (by omega), gi_ob (by omega), f11, if_pos rfl]) (fun i => by rw [gg _ _ (by omega), gi_ob (by omega), fo _ _ (by omega) (by omega), co _ _ (by omega) (by omega)]) (fun b i hb hi => by rw [gg _ _ (by omega), gi_ob (by omega), fo _ _ (by omega) (by omega), co _ _ (by omega) (by omega)]) (fun i hi => by rw [gr6, cr, if_neg hi]) (by rw [gr6, cr, if_pos rfl]) (AA.eq (fun b hb => by rw [gg _ _ (by omega), gi_ob (by omega), fo _ _ (by omega) (by omega)]))
      · have j9 : ¬ j = 9 := by omega
        rw [c5, nI_add]
        rw [if_neg j9] at K3
        have F5 : Fz (fun b _ => 5 ≤ b ∧ b ≤ 12) (fun _ => False) h2 (si h2 5 5 (nI (pC g + 1))) := Fz.si _ _ (by omega)
        have q5 : Fq WCs VCs h2 (si h2 5 5 (nI (pC g + 1))) := ⟨fun b k e => F5.1 b k (fun z => e (Or.inr z)), fun b e => F5.2.1 b (fun z => z), fun b _ e => F5.2.2 b e⟩
        refine y_sign (k := 3) (F := fun p2 => .inr (aPut g j x y, nm, td, p2)) (by omega) (S2.pr F5) (K3.fz q5) (fun h6 x6 S6 K6 => K6.ok ⟨W.put hj (by omega) (fun z => absurd z j9), ?_, S6, (x6.1 5 9 (by unfold WB; omega)).trans ((gi_ok (by omega)).trans c9)⟩)
        have gg : ∀ b i, b ≠ 1 → gi h6 b i = gi (si h2 5 5 (nI (pC g + 1))) b i := fun b i hb => x6.1 b i (by unfold WB; omega)
        have gr6 : ∀ i, gr h6 6 i = gr h2 6 i := fun i => by
          show h6.2.2.1 6 i = _
          rw [x6.2.2 6 (by omega)]; rfl
        have AA : AG j (pC g) (nI x) (nI y) h2 := A
        refine G.put W hj (by omega) (fun z => absurd z j9) (by rw [gg _ _ (by omega), gi_same]) (by rw [gg _ _ (by omega), gi_ok (by omega), if_neg j9]; exact c8) (fun o ho => by rw [gg _ _ (by omega), gi_ob (by omega), co _ _ (by omega) (by omega)]) (fun z => absurd z j9) (fun i => by rw [gg _ _ (by omega), gi_ob (by omega), co _ _ (by omega) (by omega)]) (fun b i hb hi => by rw [gg _ _ (by omega), gi_ob (by omega), co _ _ (by omega) (by omega)]) (fun i hi => by rw [gr6, cr, if_neg hi]) (by rw [gr6, cr, if_pos rfl]) (AA.eq (fun b hb => by rw [gg _ _ (by omega), gi_ob (by omega)]))
    refine ⟨⟨Or.inr (Or.inl ⟨rfl, by omega, by omega⟩), Or.inr (Or.inl ⟨rfl, by omega, by omega⟩)⟩, fun d => a36 (by omega), fun d => ?_⟩
    rw [g2]
    refine pk_lt (pD g) 2 (fun z => a36 (by omega)) (fun z => y_fail (J := JC c n s nm) S ?_)
    rw [if_pos (by omega)] at K2
    exact K2
end
