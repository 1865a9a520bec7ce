/-! ===== the model reads a whole script ===== -/
section
variable {q q' : Nat → PH → Prop} {kk kj : Int32 → PH → Prop} {kl : Int64 → PH → Prop} {kv kw k1 : PH → Prop} {h h' h0 : PH} {s t g : RW} {a b n m p p1 v w e pl j x y i k : Nat} {nm : Nat → Int64} {c : Nat → Nat} {td : Nat → Bool} {v2 : Int32} {r : Rs} {o1 : Option Value}
theorem e_closes (M : ME e pl h) (K : kv h) : At m_X12_closes (rV q kv) 0 0 [some (.ref 130)] [] h :=
  u_X12_closes_0 ⟨fun _ => K, fun _ => t_X12_isSign ⟨fun _ => ⟨isB_0, fun _ => K, fun y => absurd rfl y⟩, fun y => absurd y M.ne⟩⟩
theorem e_rs63 (M : ME e pl h) (K : At m_X12_runScript (rI q kk) 82 0 [some (.ref 130), o1] [] h) : At m_X12_runScript (rI q kk) 63 0 [some (.ref 130), o1] [] h :=
  u_X12_runScript_63 (e_good M ⟨fun _ => K, fun y => absurd rfl y⟩)
theorem e_rs19 (M : ME e pl h) (K : At m_X12_runScript (rI q kk) 82 0 [some (.ref 130), o1] [] h) : At m_X12_runScript (rI q kk) 19 0 [some (.ref 130), o1] [] h :=
  u_X12_runScript_19 (e_good M ⟨fun _ => e_rs63 M K, fun y => absurd rfl y⟩)
theorem closes_of (K : At m_X12_closes (rV q kv) 0 0 [some (.ref 130)] [] h) : MetPM m_X12_closes [.ref 130] h (rV q kv) := met_of o_X12_closes (Nat.le_of_ble_eq_true rfl) (fun q => absurd rfl q) K
theorem PGm.tk (x : Fz WT VT h h') (G : PGm g h) : PGm g h' := by
  obtain ⟨g1, g2, g3, g4⟩ := G
  refine ⟨(x.1 130 33 (by unfold WT; omega)).trans g1, (x.1 130 34 (by unfold WT; omega)).trans g2, (x.1 130 35 (by unfold WT; omega)).trans g3, fun k hk => ?_⟩
  rw [x.1 141 k (by unfold WT; omega), x.1 142 k (by unfold WT; omega), x.1 143 k (by unfold WT; omega)]
  exact g4 k hk
theorem l_mscr (P : CNT s) (N : ND nm s) (hn : n ≤ 900) : ∀ k g p h, p ≤ n → (900 < k + p ∨ (k = 900 ∧ p = 0 ∧ pD g = 0)) → WFg g → AVg s g → PGm g h → MX c n s nm td p h → Ks (JM c n s nm td) h (fun h' => ∀ o1, At m_X12_runScript (rI q kk) 82 0 [some (.ref 130), o1] [] h') (aScr c n s nm td k g p) →
    (¬ (tK c n p = 5 ∧ 0 < pD g) → ∀ o1, At m_X12_runScript (rI q kk) 19 0 [some (.ref 130), o1] [] h) ∧ (∀ q' o1, At m_X12_closes (rV q' (fun h' => At m_X12_runScript (rI q kk) 19 0 [some (.ref 130), o1] [] h')) 0 0 [some (.ref 130)] [] h) := by
  intro k
  induction k with
  | zero =>
    intro g p h hp hk
    omega
  | succ k ih =>
    intro g p h hp hk W A G S K
    have w3 := W.1.2.2
    have w1 := W.1.1
    have w2 := W.1.2.1
    have e35 := G.2.2.1
    have sk := sK_1 (tK_lt (c := c) (n := n) (p := p))
    unfold aScr at K
    have hB : ¬ (tK c n p = 5 ∧ 0 < pD g) → ∀ o1, At m_X12_runScript (rI q kk) 19 0 [some (.ref 130), o1] [] h := fun d5 o1 => by
      refine u_X12_runScript_19 (s_good S.e8 ⟨fun y => absurd y (by decide), fun _ => ?_⟩)
      rw [show gi h 130 6 = _ from S.T.1, sk.2.2.2.2]
      refine ⟨fun d0 => ?_, fun d0 => ?_⟩
      · refine u_X12_runScript_63 (s_good S.e8 ⟨fun y => absurd y (by decide), fun _ => ?_⟩)
        rw [e35]
        refine pk_le (pD g) 0 (fun z => ?_) (fun z => ?_)
        · rw [if_pos ⟨d0, by omega⟩] at K
          exact K.ok ⟨W, G, S⟩ o1
        · rw [if_neg (by omega), if_neg d5] at K
          have ea : aCmd c n s nm td g p = .inl (1, tS c n p) := by
            have e0 : fst1 10 (kwC c n p) = 0 := fst1_no (fun j hj => by
              cases e : kwC c n p j
              · rfl
              · have := kw_1 (c := c) (n := n) (p := p) e
                omega)
            unfold aCmd
            rw [e0]
          rw [ea] at K
          have K2 : Ks (JM c n s nm td) h (fun h' => ∀ o1, At m_X12_runScript (rI q kk) 82 0 [some (.ref 130), o1] [] h') (.inl (1, tS c n p)) := K
          exact S.wz P (by omega) (by omega) (fun _ => rfl) K2 (fun h1 M1 z => z o1)
      · rw [if_neg (by omega), if_neg d5] at K
        rw [e35]
        have K2 : Ks (JM c n s nm td) h (fun h3 => At m_X12_runScript (rI q kk) 56 0 [some (.ref 130), some (.int (nI (pD g)))] [] h3) (aCmd c n s nm td g p) := by
          refine ⟨fun e pl er h2 x2 M2 => ?_, fun g' nm' td' p' er h2 x2 JJ => ?_⟩
          · rw [er] at K
            have K3 : Ks (JM c n s nm td) h (fun h' => ∀ o1, At m_X12_runScript (rI q kk) 82 0 [some (.ref 130), o1] [] h') (.inl (e, pl)) := K
            exact u_X12_runScript_56 (closes_of (e_closes M2 (e_rs19 M2 (K3.er x2 M2 _))))
          · obtain ⟨s1, s2, s3, s4⟩ := po_cmd P W A hp _ _ _ _ er
            rw [er] at K
            have K3 : Ks (JM c n s nm td) h (fun h' => ∀ o1, At m_X12_runScript (rI q kk) 82 0 [some (.ref 130), o1] [] h') (aScr c n s nm td k g' p') := K
            exact u_X12_runScript_56 (closes_of ((ih g' p' h2 s2 (by omega) s3 s4 JJ.2.1 JJ.2.2 (K3.fz x2)).2 _ _))
        refine m_cmd W G P N S K2 (fun e pl h1 M1 z => ⟨fun _ => z, fun _ => e_mustSign M1 z⟩) (fun h1 e1 z => ⟨fun _ => z, fun y => ?_⟩) (fun j x y p1 h1 hj S1 W1 G1 e1 K1 => ⟨fun y => absurd e1 y, fun _ => ?_⟩)
        · have := (nI_eq (a := pD g + 1) (b := pD g) (by omega) (by omega)).mp (e1.symm.trans y)
          omega
        · exact z_sign (x := 59) (k := 3) (F := fun p2 => .inr (aPut g j x y, nm, td, p2)) (Or.inl ⟨rfl, rfl⟩) P S1 K1 (fun e pl h2 M2 z => z) (fun h2 x2 S2 K3 => K3.ok ⟨W1, G1.tk x2, S2⟩)
    refine ⟨hB, fun q' o1 => u_X12_closes_0 ?_⟩
    rw [e35]
    refine pk_le (pD g) 0 (fun z => hB (by omega) o1) (fun z => s_isSign (x := 41) (k := 5) (Or.inr (Or.inr ⟨rfl, rfl⟩)) S.T S.e8 (bq (fun y => hB (fun z2 => absurd z2.1 (of_decide_eq_false y)) o1) (fun y => ?_)))
    have d5 : tK c n p = 5 := of_decide_eq_true y
    rw [if_neg (by omega), if_pos ⟨d5, z⟩] at K
    rw [e35, pk_sub (by omega)]
    have a33 : gi (si h 130 35 (nI (pD g - 1))) 130 33 = nI (pM g) := (gi_ok (by omega)).trans G.1
    rw [a33, cl (by omega)]
    refine ⟨vp_in_nI (by omega) (by omega), ?_⟩
    intro h3
    have b33 : gi h3 130 33 = nI (pM g) := by
      show gi (si (si h 130 35 (nI (pD g - 1))) 141 (pM g) (nI 10)) 130 33 = _
      rw [gi_ob (by omega)]; exact a33
    have F3 : Fz WN (fun _ => False) h h3 := (FNi (by omega)).trans (FNa (by omega))
    have f3 : Fz WSc VSc h h3 := (FSi (by omega)).trans (FSa (by omega))
    have b35 : gi h3 130 35 = nI (pD g - 1) := by
      show gi (si (si h 130 35 (nI (pD g - 1))) 141 (pM g) (nI 10)) 130 35 = _
      rw [gi_ob (by omega), gi_same]
    have b34 : gi h3 130 34 = gi h 130 34 := by
      show gi (si (si h 130 35 (nI (pD g - 1))) 141 (pM g) (nI 10)) 130 34 = _
      rw [gi_ob (by omega), gi_ok (by omega)]
    have bo : ∀ b k, 141 ≤ b → b ≤ 143 → k ≠ pM g → gi h3 b k = gi h b k := fun b k x1 x2 x3 => by
      show gi (si (si h 130 35 (nI (pD g - 1))) 141 (pM g) (nI 10)) b k = _
      by_cases d : b = 141
      · subst d
        rw [gi_ok x3, gi_ob (by omega)]
      · rw [gi_ob d, gi_ob (by omega)]
    have bK : gi h3 141 (pM g) = nI 10 := gi_same
    clear_value h3
    rw [b33, nI_add]
    have F4 : Fz WN (fun _ => False) h (si h3 130 33 (nI (pM g + 1))) := F3.trans (FNi (by omega))
    have f4 : Fz WSc VSc h (si h3 130 33 (nI (pM g + 1))) := f3.trans (FSi (by omega))
    have G4 : PGm (aEnd g) (si h3 130 33 (nI (pM g + 1))) := G.en W gi_same ((gi_ok (by omega)).trans b34) ((gi_ok (by omega)).trans b35) (fun b k x1 x2 x3 => (gi_ob (by omega)).trans (bo b k x1 x2 x3)) ((gi_ob (by omega)).trans bK)
    have S4 := S.zz F4
    have K4 := K.fz f4
    generalize si h3 130 33 (nI (pM g + 1)) = h4 at S4 G4 K4
    have x1 := nx_le (c := c) hp
    have x2 := nx_le (c := c) x1.2
    have t1 := tE_lt hp (by rw [d5]; decide : tK c n p ≠ 0)
    refine S4.nz (fun h5 f5 S5 => z_sign (x := 59) (k := 3) (F := fun p2 => aScr c n s nm td k (aEnd g) p2) (Or.inl ⟨rfl, rfl⟩) P S5 (K4.fz (FSt f5)) (fun e pl h6 M6 z6 => e_closes M6 (e_rs19 M6 (z6 _))) (fun h6 f6 S6 K6 => ?_))
    have t2 : tE c n p < tE c n (tE c n p) ∨ tE c n p = tE c n (tE c n p) := by omega
    exact (ih (aEnd g) _ h6 x2.2 (by omega) (W.en z) (A.en W z) ((G4.tk f5).tk f6) S6 K6).2 _ _
end
