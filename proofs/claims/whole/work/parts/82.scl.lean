/-! ===== the class reads a whole script ===== -/
section
variable {q : Nat → PH → Prop} {kk kj : Int32 → PH → Prop} {kl : Int64 → PH → Prop} {kv : PH → Prop} {h h' : PH} {s t g : RW} {C E L : Nat} {a b n m p v w j ct : Nat} {nm : Nat → Int64} {c : Nat → Nat} {td : Nat → Bool}
theorem l_scr : ∀ k i g p h o4, i + k = 900 → WFg g → PGc g h → CY c n s nm p h → Kz (JC c n s nm) h kk (aScr c n s nm td k g p) → At m_X7_readAll (rI q kk) 21 0 [some (.ref 5), some (.ref 1), some (.ref 15), some (.int (nI i)), o4] [] h := by
  intro k
  induction k with
  | zero =>
    intro i g p h o4 hi W G S K
    exact u_X7_readAll_21 (pk_le 900 i (fun _ => u_X7_readAll_97 ⟨isB_1, K.ok ⟨W, G, S⟩⟩) (fun y => absurd y (by omega)))
  | succ k ih =>
    intro i g p h o4 hi W G S K
    have tk := tK_lt (c := c) (n := n) (p := p)
    have w3 := W.1.2.2
    unfold aScr at K
    have cmd : ¬ (tK c n p = 0 ∧ pD g = 0) → ¬ (tK c n p = 5 ∧ 0 < pD g) → ∀ o, At m_X7_readAll (rI q kk) 61 0 [some (.ref 5), some (.ref 1), some (.ref 15), some (.int (nI i)), o] [] h := fun d1 d2 o => by
      rw [if_neg d1, if_neg d2] at K
      refine u_X7_readAll_61 ⟨fun _ => y_cmd (td := td) W G S ⟨fun e pl er h2 x y => ⟨fun z => absurd rfl z, fun _ => u_X7_readAll_89 ⟨isB_0, ?_⟩⟩, fun g' nm' td' p' er h2 x JJ => ⟨fun _ => u_X7_readAll_91 ?_, fun z => absurd z (by decide)⟩⟩, fun y => absurd rfl y⟩
      · rw [er] at K
        exact K.er x y
      · rw [er] at K
        rw [nI_add]
        exact ih (i + 1) _ _ _ _ (by omega) JJ.1 JJ.2.1 JJ.2.2 (K.fz x)
    have go42 : ¬ (tK c n p = 0 ∧ pD g = 0) → ∀ o, At m_X7_readAll (rI q kk) 42 0 [some (.ref 5), some (.ref 1), some (.ref 15), some (.int (nI i)), o] [] h := fun d1 o => by
      refine u_X7_readAll_42 ?_
      rw [show gi h 1 4 = _ from S.T.1, G.2.1, nI_eq (by omega) (by omega)]
      refine ⟨fun y => cmd d1 (fun z => y z.1) _, fun y => pk_le (pD g) 0 (fun z => cmd d1 (fun z2 => by omega) _) (fun z => ⟨fun y2 => absurd y2 (by decide), fun _ => ?_⟩)⟩
      rw [if_neg d1, if_pos ⟨y, z⟩] at K
      refine y_end (td := td) W G S z ⟨fun e pl er h2 x y2 => ⟨fun _ => u_X7_readAll_89 ⟨isB_0, ?_⟩, fun z => absurd rfl z⟩, fun g' nm' td' p' er h2 x JJ => ⟨fun z => absurd z (by decide), fun _ => u_X7_readAll_91 ?_⟩⟩
      · by_cases d3 : tK c n (tE c n p) = 3
        · rw [if_pos d3] at er; cases er
        · rw [if_neg d3] at er K
          cases er
          exact K.er x y2
      · by_cases d3 : tK c n (tE c n p) = 3
        · rw [if_pos d3] at er K
          cases er
          rw [nI_add]
          exact ih (i + 1) _ _ _ _ (by omega) JJ.1 JJ.2.1 JJ.2.2 (K.fz x)
        · rw [if_neg d3] at er; cases er
    refine u_X7_readAll_21 (pk_le 900 i (fun y => absurd y (by omega)) (fun _ => ?_))
    rw [show gi h 1 4 = _ from S.T.1, G.2.1]
    refine ⟨fun d => go42 (fun z => d (by rw [z.1]; rfl)) _, fun d => ?_⟩
    have t0 : tK c n p = 0 := (nI_eq (a := tK c n p) (b := 0) (by omega) (by omega)).mp d
    refine pk_le (pD g) 0 (fun z => ?_) (fun z => go42 (by omega) _)
    rw [if_pos ⟨t0, by omega⟩] at K
    exact u_X7_readAll_97 ⟨isB_1, K.ok ⟨W, G, S⟩⟩
end
