/-! ===== the class reads a whole script ===== -/
section
variable {q : Nat → PH → Prop} {kk kj : Int32 → PH → Prop} {kl : Int64 → PH → Prop} {kv : PH → Prop} {h h' : PH} {s t g : RW} {C E L : Nat} {a b n m p v w j ct : Nat} {nm : Nat → Int64} {c : Nat → Nat} {td : Nat → Bool}
theorem l_scr : ∀ k i g p h o4, i + k = 900 → WFg g → PGc g h → CY c n s nm p h → gi h 5 9 = nI 0 → Kz (JC c n s nm) h kk (aScr c n s nm td k g p) → At m_X7_readAll (rI q kk) 21 0 [some (.ref 5), some (.ref 1), some (.ref 15), some (.int (nI i)), o4] [] h := by
  intro k
  induction k with
  | zero =>
    intro i g p h o4 hi W G S e9 K
    exact u_X7_readAll_21 (pk_le 900 i (fun _ => u_X7_readAll_97 ⟨isB_1, K.ok ⟨W, G, S, e9⟩⟩) (fun y => absurd y (by omega)))
  | succ k ih =>
    intro i g p h o4 hi W G S e9 K
    have tk := tK_lt (c := c) (n := n) (p := p)
    have w3 := W.1.2.2
    unfold aScr at K
    have cmd : ¬ (tK c n p = 0 ∧ pD g = 0) → ¬ (tK c n p = 5 ∧ 0 < pD g) → ∀ o, At m_X7_readAll (rI q kk) 61 0 [some (.ref 5), some (.ref 1), some (.ref 15), some (.int (nI i)), o] [] h := fun d1 d2 o => by
      rw [if_neg d1, if_neg d2] at K
      refine u_X7_readAll_61 ⟨fun _ => y_cmd (td := td) W G S e9 ⟨fun e pl er h2 x y => ⟨fun z => absurd rfl z, fun _ => u_X7_readAll_89 ⟨isB_0, ?_⟩⟩, fun g' nm' td' p' er h2 x JJ => ⟨fun _ => u_X7_readAll_91 ?_, fun z => absurd z (by decide)⟩⟩, fun y => absurd rfl y⟩
      · rw [er] at K
        exact K.er x y
      · rw [er] at K
        rw [nI_add]
        exact ih (i + 1) _ _ _ _ (by omega) JJ.1 JJ.2.1 JJ.2.2.1 JJ.2.2.2 (K.fz x)
    have go42 : ¬ (tK c n p = 0 ∧ pD g = 0) → ∀ o, At m_X7_readAll (rI q kk) 42 0 [some (.ref 5), some (.ref 1), some (.ref 15), some (.int (nI i)), o] [] h := fun d1 o => by
      refine u_X7_readAll_42 ?_
      rw [show gi h 1 4 = _ from S.T.1, G.2.1, nI_eq (by omega) (by omega)]
      refine ⟨fun y => cmd d1 (fun z => y z.1) _, fun y => pk_le (pD g) 0 (fun z => cmd d1 (fun z2 => by omega) _) (fun z => ⟨fun y2 => absurd y2 (by decide), fun _ => ?_⟩)⟩
      rw [if_neg d1, if_pos ⟨y, z⟩] at K
      refine y_end (td := td) W G S e9 z ⟨fun e pl er h2 x y2 => ⟨fun _ => u_X7_readAll_89 ⟨isB_0, ?_⟩, fun z => absurd rfl z⟩, fun g' nm' td' p' er h2 x JJ => ⟨fun z => absurd z (by decide), fun _ => u_X7_readAll_91 ?_⟩⟩
      · by_cases d3 : tK c n (tE c n p) = 3
        · rw [if_pos d3] at er; cases er
        · rw [if_neg d3] at er K
          cases er
          exact K.er x y2
      · by_cases d3 : tK c n (tE c n p) = 3
        · rw [if_pos d3] at er K
          cases er
          rw [nI_add]
          exact ih (i + 1) _ _ _ _ (by omega) JJ.1 JJ.2.1 JJ.2.2.1 JJ.2.2.2 (K.fz x)
        · rw [if_neg d3] at er; cases er
    refine u_X7_readAll_21 (pk_le 900 i (fun y => absurd y (by omega)) (fun _ => ?_))
    rw [show gi h 1 4 = _ from S.T.1, G.2.1]
    refine ⟨fun d => go42 (fun z => d (by rw [z.1]; rfl)) _, fun d => ?_⟩
    have t0 : tK c n p = 0 := (nI_eq (a := tK c n p) (b := 0) (by omega) (by omega)).mp d
    refine pk_le (pD g) 0 (fun z => ?_) (fun z => go42 (by omega) _)
    rw [if_pos ⟨t0, by omega⟩] at K
    exact u_X7_readAll_97 ⟨isB_1, K.ok ⟨W, G, S, e9⟩⟩
theorem PGc.z (e5 : gi h 5 5 = nI 0) (e8 : gi h 5 8 = nI 0) : PGc pg0 h := by
  have m0 : pM pg0 = 0 := by decide
  have d0 : pD pg0 = 0 := by decide
  have c0 : pC pg0 = 0 := by decide
  refine ⟨by rw [c0]; exact e5, by rw [d0]; exact e8, fun o ho => ?_, fun k hk => ?_, fun k hk => ?_⟩
  · rw [d0] at ho; omega
  · rw [m0] at hk; omega
  · rw [m0] at hk; omega
theorem c_scr (B : CB c n h) (R : Rk C E s) (Y : LyR 15 s h.1) (N : NmR 15 137 s h) (K : Kz (JC c n s (fun i => gl h 137 i)) h kk (aScr c n s (fun i => gl h 137 i) td 900 pg0 0)) : MetPM m_X7_readAll [.ref 5, .ref 1, .ref 15] h (rI q kk) := by
  have F : Fz (fun b _ => 5 ≤ b ∧ b ≤ 12) (fun _ => False) h (si (si (si h 5 5 (nI 0)) 5 8 (nI 0)) 5 9 (nI 0)) := ((Fz.si h _ (by omega)).trans (Fz.si _ _ (by omega))).trans (Fz.si _ _ (by omega))
  have q1 : Fq WCs VCs h (si (si (si h 5 5 (nI 0)) 5 8 (nI 0)) 5 9 (nI 0)) := ⟨fun b k e => F.1 b k (fun z => e (Or.inr z)), fun b e => F.2.1 b (fun z => z), fun b _ e => F.2.2 b e⟩
  have a5 : gi (si (si (si h 5 5 (nI 0)) 5 8 (nI 0)) 5 9 (nI 0)) 5 5 = nI 0 := by rw [gi_ok (by omega), gi_ok (by omega), gi_same]
  have a8 : gi (si (si (si h 5 5 (nI 0)) 5 8 (nI 0)) 5 9 (nI 0)) 5 8 = nI 0 := by rw [gi_ok (by omega), gi_same]
  have a9 : gi (si (si (si h 5 5 (nI 0)) 5 8 (nI 0)) 5 9 (nI 0)) 5 9 = nI 0 := gi_same
  have ll : ∀ b i, gl (si (si (si h 5 5 (nI 0)) 5 8 (nI 0)) 5 9 (nI 0)) b i = gl h b i := fun b i => rfl
  refine t_X7_readAll ?_
  generalize si (si (si h 5 5 (nI 0)) 5 8 (nI 0)) 5 9 (nI 0) = h0 at F q1 a5 a8 a9 ll
  have B0 := B.fz F (by omega) (fun k => by omega)
  refine c_begin B0 (fun h1 x1 e2 e3 T => l_scr 900 0 pg0 0 h1 none (by omega) WFg.z (PGc.z ((x1.1 5 5 (by unfold WB; omega)).trans a5) ((x1.1 5 8 (by unfold WB; omega)).trans a8)) ⟨⟨?_, R.v.2, ?_, R.m.2⟩, ⟨fun i hi => ?_, fun i hi => ?_⟩, B0.fb x1, T, Nat.zero_le _, e2, e3⟩ ((x1.1 5 9 (by unfold WB; omega)).trans a9) (K.fz (q1.trans (FCb x1))))
  · rw [x1.1 16 1 (by unfold WB; omega), F.1 16 1 (by omega)]; exact Y.nv.trans R.v.1
  · rw [x1.1 26 1 (by unfold WB; omega), F.1 26 1 (by omega)]; exact Y.nm.trans R.m.1
  · have : gl h1 17 i = gl h 17 i := by
      show h1.2.1 17 i = _
      rw [x1.2.1 17 (by unfold VA; omega)]; exact ll 17 i
    rw [this]; exact N.1 i hi
  · have : gl h1 27 i = gl h 27 i := by
      show h1.2.1 27 i = _
      rw [x1.2.1 27 (by unfold VA; omega)]; exact ll 27 i
    rw [this]; exact N.2.2.1 i hi
end
