/-! ===== the model's readers of statements, 2 ===== -/
section
variable {q : Nat → PH → Prop} {kk kj : Int32 → PH → Prop} {kl : Int64 → PH → Prop} {kv kw k1 : PH → Prop} {h h' : PH} {s t : RW} {C E L : Nat} {a b n m p v w e pl i : Nat} {f g : FI} {nm : Nat → Int64} {c : Nat → Nat} {td : Nat → Bool} {y : Int64}
theorem aFnd_up {o k : Nat} {F : Nat → Rs} (hk : ∀ i, i < m → o + i ≠ k) : aFnd c n (upn nm k y) o m p F = aFnd c n nm o m p F := by
  have e : fndT c n (upn nm k y) o m p = fndT c n nm o m p := fst1_eq fun i hi => by rw [upn_n (hk i hi)]
  unfold aFnd
  rw [e]
theorem m_mem (S : MS c n s nm td p h) (hk : tK c n p = 1) (K : Km c n h kw (aBdy c n s nm td 3 p)) : MetPM m_X12_readsMember [.ref 130] h (rV q kw) := by
  obtain ⟨P, N, S0⟩ := S
  have l8 := P.v.1.2
  have l5 := P.x.1.2
  have l12 := P.x.2.1.2
  have e87 : ∀ {e pl x y z h' q}, ME e pl h' → kw h' → At m_X12_readsMember (rV q kw) 87 0 [some (.ref 130), some (.int x), some (.int y), some (.int z), none] [] h' := fun {e pl x y z h' q} M Z => u_X12_readsMember_87 (e_good M ⟨fun y => absurd rfl y, fun _ => Z⟩)
  have e71 : ∀ {e pl x y h' q}, ME e pl h' → kw h' → At m_X12_readsMember (rV q kw) 71 0 [some (.ref 130), some (.int x), some (.int y), none, none] [] h' := fun {e pl x y h' q} M Z => u_X12_readsMember_71 (e_isWord M ⟨fun _ => e87 M Z, fun y => absurd rfl y⟩)
  have e60 : ∀ {e pl x y h' q}, ME e pl h' → kw h' → At m_X12_readsMember (rV q kw) 60 0 [some (.ref 130), some (.int x), some (.int y), none, none] [] h' := fun {e pl x y h' q} M Z => u_X12_readsMember_60 (e_good M ⟨fun _ => e71 M Z, fun y => absurd rfl y⟩)
  have eS : ∀ {e pl h'}, ME e pl h' → gi h' 132 (nI 0).toNatClampNeg = nI (nn (h'.1 132 0)) ∧ nn (h'.1 132 0) ≤ 8 := fun {e pl h'} M => M.2.2.2.2.1
  have eP : ∀ {e pl h'}, ME e pl h' → gi h' 132 (nI 1).toNatClampNeg = nI (nn (h'.1 132 1)) ∧ nn (h'.1 132 1) ≤ 5 := fun {e pl h'} M => M.2.2.2.2.2.1
  refine t_X12_readsMember ⟨rv (by omega), ?_⟩
  rw [rd S0.r 2 (by omega), P.x.2.1.1]
  refine m_new (mx := 12) (Or.inr (Or.inr ⟨rfl, rfl⟩)) (by omega) l12 P.cnt N S0 (fun e pl h1 M z => ⟨rv (by omega), ?_⟩) (fun d => K.b1 (x := 6) (eF3.trans (if_neg (by omega))) (by decide)) hk (F := fun p1 => aFnd c n nm 8 (nn (s 1)) p1 fun a => aFnd c n nm 0 (nn (s 0)) (tE c n p1) fun v =>
    if joN s a v = true then (if kwB c n (tE c n (tE c n p1)) 22 = true then .inr (memS s a v true, upn nm (13 + nn (s 2)) (lN (tM c n (tE c n p))), td, tE c n (tE c n (tE c n p1))) else .inr (memS s a v false, upn nm (13 + nn (s 2)) (lN (tM c n (tE c n p))), td, tE c n (tE c n p1)))
    else .inl (5, tS c n (tE c n p1))) (fun d => K.b0 (eF3.trans (if_pos (by omega)))) (fun h1 d ne S1 K1 => ⟨rv (by omega), ?_⟩)
  · rw [(eP M).1]
    refine e_told M (by have := (eP M).2; omega) (fun x => ⟨rv (by omega), ?_⟩)
    rw [(eS M).1]
    exact e_seen M (by have := (eS M).2; omega) (fun y => e_good M ⟨fun _ => e60 M z, fun y => absurd rfl y⟩)
  · have N1 : ND (upn nm (13 + nn (s 2)) (lN (tM c n (tE c n p)))) s := by
      refine ⟨fun i j hi hj => ?_, fun i j hi hj => ?_, fun i j hi hj => ?_⟩
      · rw [upn_n (by omega), upn_n (by omega)]; exact N.1 i j hi hj
      · rw [upn_n (by omega), upn_n (by omega)]; exact N.2.1 i j hi hj
      · rw [upn_n (by omega), upn_n (by omega)]; exact N.2.2 i j hi hj
    rw [rd S1.r 1 (by omega), P.x.1.1]
    rw [← aFnd_up (k := 13 + nn (s 2)) (y := lN (tM c n (tE c n p))) (fun i hi => by omega)] at K1
    refine m_told (Or.inr (Or.inl ⟨rfl, rfl⟩)) P.cnt N1 S1 K1 (fun e pl x h2 M z => ⟨rv (by omega), ?_⟩) (fun a h2 ha S2 K2 => ⟨rv (by omega), ?_⟩)
    · rw [(eS M).1]
      exact e_seen M (by have := (eS M).2; omega) (fun y => e_good M ⟨fun _ => e60 M z, fun y => absurd rfl y⟩)
    · rw [rd S2.r 0 (by omega), P.v.1.1]
      rw [← aFnd_up (k := 13 + nn (s 2)) (y := lN (tM c n (tE c n p))) (fun i hi => by omega)] at K2
      refine m_seen (Or.inl ⟨rfl, rfl⟩) P.cnt N1 S2 K2 (fun e pl x h3 M z => e_good M ⟨fun _ => e60 M z, fun y => absurd rfl y⟩) (fun v hv tk K3 => s_good S2.e8 ⟨fun y => absurd y (by decide), fun _ => s_mayBe P.rk S2.r (by omega) hv (bp (fun y => ?_) (fun y => ?_))⟩)
      · rw [if_neg (by rw [y]; decide)] at K3
        exact S2.wr P.cnt (by omega) (by omega) (fun y => by omega) K3 (fun h1 M z => e60 M z)
      · rw [if_pos y] at K3
        have fin : ∀ hb px h5, MX c n s (upn nm (13 + nn (s 2)) (lN (tM c n (tE c n p)))) td px h5 → Km c n h5 kw (.inr (memS s a v hb, upn nm (13 + nn (s 2)) (lN (tM c n (tE c n p))), td, px)) → ∀ q', At m_X12_readsMember (rV q' kw) 87 0 [some (.ref 130), some (.int (nI a)), some (.int (nI v)), some (.int (b2i hb)), none] [] h5 := fun hb px h5 S5 K5 q' => by
          refine u_X12_readsMember_87 (s_good S5.e8 ⟨fun _ => ⟨rv (by omega), ?_⟩, fun y => absurd y (by decide)⟩)
          rw [rd S5.r 2 (by omega), show s 2 = nI (nn (s 2)) from P.x.2.1.1]
          refine s_lays S5.r (by omega) (fun h6 a6 r6 => s_lays r6 (by omega) (fun h7 a7 r7 => s_lays r7 (by omega) (fun h8 a8 r8 => s_lays r8 (by omega) (fun h9 a9 r9 => s_truth (s_lays r9 (by omega) (fun h10 a10 r10 => ⟨rv (by omega), rv (by omega), ?_⟩))))))
          have F : Fr WR h5 h10 := by
            rw [a10, a9, a8, a7, a6]
            exact ((((Fr.wr h5 _ (WR_t (by omega))).and _ (WR_t (by omega))).and _ (WR_t (by omega))).and _ (WR_t (by omega))).and _ (WR_t (by omega))
          have e2 : gi h10 132 (nI 2).toNatClampNeg = s 2 := by
            rw [rd r10 2 (by omega), ups_n (by omega), ups_n (by omega), ups_n (by omega), ups_n (by omega), ups_n (by omega)]
          rw [e2, cl (by omega)]
          have F2 := F.and (s 2 + nI 1) (WR_t (show 2 < 253 by omega))
          have S6 : MX c n (memS s a v hb) _ td px _ := S5.row F2 (by rw [si_a, r10]; rfl)
          have m2 : nn (memS s a v hb 2) = nn (s 2) + 1 := by
            unfold memS
            rw [ups_s]; exact (P.x.2.1.sc (by omega)).2
          exact (K5.fz (FPr F2)).ok ⟨P.mem (by omega) ha hv, N.up2 P ne (by rw [mem_lo (by omega) (by omega)]) (by rw [mem_lo (by omega) (by omega)]) m2, S6⟩
        refine u_X12_readsMember_60 (s_good S2.e8 ⟨fun y => absurd y (by decide), fun _ => S2.nx (fun h3 x3 S3 => u_X12_readsMember_71 (s_isWord (i := 22) (by omega) (by decide +kernel) S3.pn S3.T S3.e8 ?_))⟩)
        have K4 := K3.fz x3
        cases d2 : kwB c n (tE c n (tE c n (tE c n (tE c n p)))) 22
        · rw [d2, if_neg (by decide)] at K4
          exact ⟨fun _ => fin false _ _ S3 K4 _, fun y => absurd rfl y⟩
        · rw [d2, if_pos rfl] at K4
          exact ⟨fun y => absurd y (by decide), fun _ => S3.nx (fun h4 x4 S4 => fin true _ _ S4 (K4.fz x4) _)⟩
theorem m_lnk (S : MS c n s nm td p h) (hk : tK c n p = 1) (K : Km c n h kw (aBdy c n s nm td 4 p)) : MetPM m_X12_readsLink [.ref 130] h (rV q kw) := by
  obtain ⟨P, N, S0⟩ := S
  have l8 := P.v.1.2
  have l12 := P.x.2.1.2
  have l20 := P.x.2.2.2.1.2
  have B : MN s 13 (nn (s 2)) := Or.inr (Or.inr ⟨rfl, rfl⟩)
  have e130 : ∀ {e pl x y h' q}, ME e pl h' → kw h' → At m_X12_readsLink (rV q kw) 130 0 [some (.ref 130), some (.int x), some (.int y)] [] h' := fun {e pl x y h' q} M Z => u_X12_readsLink_130 (e_good M ⟨fun y => absurd rfl y, fun _ => Z⟩)
  have e99 : ∀ {e pl x y h' q}, ME e pl h' → kw h' → At m_X12_readsLink (rV q kw) 99 0 [some (.ref 130), some (.int x), some (.int y)] [] h' := fun {e pl x y h' q} M Z => u_X12_readsLink_99 (e_good M ⟨fun _ => e130 M Z, fun y => absurd rfl y⟩)
  have e73 : ∀ {e pl x y h' q}, ME e pl h' → kw h' → At m_X12_readsLink (rV q kw) 73 0 [some (.ref 130), some (.int x), some (.int y)] [] h' := fun {e pl x y h' q} M Z => u_X12_readsLink_73 (e_good M ⟨fun _ => e99 M Z, fun y => absurd rfl y⟩)
  have eM : ∀ {e pl h'}, ME e pl h' → gi h' 132 (nI 2).toNatClampNeg = nI (nn (h'.1 132 2)) ∧ nn (h'.1 132 2) ≤ 12 := fun {e pl h'} M => M.2.2.2.2.2.2.1
  have e28 : ∀ {e pl h' q}, ME e pl h' → kw h' → At m_X12_readsLink (rV q kw) 28 0 [some (.ref 130), none, none] [] h' := fun {e pl h' q} M Z => by
    refine u_X12_readsLink_28 (t_X12_toldMember ⟨rv (by omega), ?_⟩)
    rw [(eM M).1]
    refine e_told M (by have := (eM M).2; omega) (fun x => ⟨rv (by omega), ?_⟩)
    rw [(eM M).1]
    exact e_seen M (by have := (eM M).2; omega) (fun y => e_good M ⟨fun _ => e73 M Z, fun y => absurd rfl y⟩)
  have e17 : ∀ {e pl h' q}, ME e pl h' → kw h' → At m_X12_readsLink (rV q kw) 17 0 [some (.ref 130), none, none] [] h' := fun {e pl h' q} M Z => u_X12_readsLink_17 (e_good M ⟨fun _ => e28 M Z, fun y => absurd rfl y⟩)
  refine t_X12_readsLink ⟨rv (by omega), ?_⟩
  rw [rd S0.r 4 (by omega), P.x.2.2.2.1.1, nI_eq (by omega) (by omega)]
  refine ⟨fun d => u_X12_readsLink_17 (s_good S0.e8 ⟨fun y => absurd y (by decide), fun _ => S0.nx (fun h1 x1 S1 => u_X12_readsLink_28 (t_X12_toldMember ⟨rv (by omega), ?_⟩))⟩), fun d => S0.wr P.cnt (by omega) (by omega) (fun y => by omega) (K.b1 (x := 6) (eF4.trans (if_neg (by omega))) (by decide)) (fun h1 M z => e17 M z)⟩
  have h4 : nn (s 4) < 20 := by omega
  have K0 : Km c n h kw (aLnk c n s nm td (tE c n p)) := K.b0 (eF4.trans (if_pos h4))
  rw [rd S1.r 2 (by omega), P.x.2.1.1]
  refine m_told B P.cnt N S1 (K0.fz x1) (fun e pl x h2 M z => ⟨rv (by omega), ?_⟩) (fun a h2 ha S2 K2 => ⟨rv (by omega), ?_⟩)
  · rw [(eM M).1]
    exact e_seen M (by have := (eM M).2; omega) (fun y => e_good M ⟨fun _ => e73 M z, fun y => absurd rfl y⟩)
  · rw [rd S2.r 2 (by omega), P.x.2.1.1]
    refine m_seen B P.cnt N S2 K2 (fun e pl x h3 M z => e_good M ⟨fun _ => e73 M z, fun y => absurd rfl y⟩) (fun b hb tk K3 => s_good S2.e8 ⟨fun y => absurd y (by decide), fun _ => s_of S2.r (by omega) (s_of S2.r (by omega) ⟨fun d2 => ?_, fun d2 => ?_⟩)⟩)
    · rw [if_neg d2] at K3
      have hab : a ≠ b := fun z => d2 (by rw [z])
      have pq : par s a b = bt (mf s a 6) b := by
        unfold par
        rw [decide_eq_false hab, decide_eq_false d2]; rfl
      rw [pq] at K3
      refine u_X12_readsLink_73 (s_good S2.e8 ⟨fun y => absurd y (by decide), fun _ => s_of S2.r (by omega) (s_hasBit (by omega) (bq (fun y => ?_) (fun y => ?_)))⟩)
      · rw [if_neg (by rw [y]; decide)] at K3
        have Va := P.rk.ve a ha
        have Vb := P.rk.ve b hb
        refine u_X12_readsLink_99 (s_good S2.e8 ⟨fun y => absurd y (by decide), fun _ => s_of S2.r (by omega) (s_of S2.r (by omega) ?_)⟩)
        rw [Va.1.1, Vb.1.1]
        refine s_talk S2.r (by have := Va.2; unfold vN at this; omega) (by have := Vb.2; unfold vN at this; omega) (bp (fun y2 => ?_) (fun y2 => ?_))
        · rw [if_neg (by
            show ¬ tlk s (vN s a) (vN s b) = true
            rw [show tlk s (vN s a) (vN s b) = false from y2]; decide)] at K3
          exact S2.wr P.cnt (by omega) (by omega) (fun y => by omega) K3 (fun h1 M z => e130 M z)
        · rw [if_pos (show tlk s (vN s a) (vN s b) = true from y2)] at K3
          refine u_X12_readsLink_130 (s_good S2.e8 ⟨fun _ => S2.nx (fun h3 x3 S3 => s_of S3.r (by omega) (s_lays S3.r (by omega) (fun g4 a4 r4 => s_of r4 (by omega) (s_lays r4 (by omega) (fun h5 a5 r5 => ⟨rv (by omega), rv (by omega), ?_⟩))))), fun y => absurd y (by decide)⟩)
          have F : Fr WR h3 h5 := by
            rw [a5, a4]
            exact (Fr.wr h3 _ (WR_t (by omega))).and _ (WR_t (by omega))
          have e4 : gi h5 132 (nI 4).toNatClampNeg = s 4 := by
            rw [rd r5 4 (by omega), ups_n (by omega), ups_n (by omega)]
          rw [e4, cl (by omega)]
          have F2 := F.and (s 4 + nI 1) (WR_t (show 4 < 253 by omega))
          have q6 : mf (ups s (49 + 7 * a + 6) (mf s a 6 ||| ((nI 1) <<< (nI b &&& 31)))) b 6 = mf s b 6 := ups_n (by omega)
          have S6 : MX c n (lnkS s a b) nm td _ _ := S3.row F2 (by
            rw [si_a, r5, q6]; rfl)
          exact ((K3.fz x3).fz (FPr F2)).ok ⟨P.lnk hab ha hb h4, N.same (by rw [lnk_lo (by omega) (by omega)]) (by rw [lnk_lo (by omega) (by omega)]) (by rw [lnk_lo (by omega) (by omega)]), S6⟩
      · rw [if_pos y] at K3
        exact S2.wr P.cnt (by omega) (by omega) (fun y => by omega) K3 (fun h1 M z => e99 M z)
    · rw [if_pos d2] at K3
      exact S2.wr P.cnt (by omega) (by omega) (fun y => by omega) K3 (fun h1 M z => e73 M z)
end
