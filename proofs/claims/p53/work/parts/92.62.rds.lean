/-! ===== the class's readers of statements ===== -/
section
variable {q : Nat → PH → Prop} {kk kj : Int32 → PH → Prop} {kl : Int64 → PH → Prop} {kv : PH → Prop} {h h' : PH} {s t : RW} {C E L : Nat} {a b n m p v w : Nat} {f g : FI} {nm : Nat → Int64} {c : Nat → Nat} {td : Nat → Bool}
theorem mk_hit {n k : Nat} {P : Nat → Bool} (hn : n ≤ 32) (hk : k < n) : (mk n P &&& ((nI 1) <<< (nI k &&& 31))) = 0 ↔ P k = false := by
  constructor
  · intro e
    have e2 : bt (mk n P &&& ((nI 1) <<< (nI k &&& 31))) k = bt 0 k := by rw [e]
    rw [b_and, bt_mk_in hn hk, bt_one (by omega) (by omega), b_0, decide_eq_true rfl, Bool.and_true] at e2
    exact e2
  · intro e
    refine b_ext fun i hi => ?_
    rw [b_and, bt_one (by omega) hi, b_0]
    by_cases d : i = k
    · subst d; rw [bt_mk_in hn hk, e]; rfl
    · rw [decide_eq_false d, Bool.and_false]
theorem nIm {x : Nat} (hx : x < 2 ^ 31) : ¬ nI x = -(nI 1) := fun y => (isN_nI (n := x) (Nat.le_refl _) hx).nm1 (y.trans m1_eq)
theorem Kr.ib {r : Rs} (K : Kr c n h kk r) : Kr c n h (fun x h' => isB x ∧ kk x h') r := ⟨fun e pl er h2 x y => ⟨isB_0, K.1 e pl er h2 x y⟩, fun s nm td p er h2 x y => ⟨isB_1, K.2 s nm td p er h2 x y⟩⟩
theorem vpo : ∀ i, i < 12 → cfv (1000 + i) 9 = nI i := by decide +kernel
theorem vpi {i : Nat} (hi : i < 12) : vp_in (cfv (1000 + i) 9) (cln 1082) := by
  rw [vpo i hi, show cln 1082 = 12 from rfl]
  exact vp_in_nI (by omega) (by omega)
theorem and0 {x : Int32} : x &&& 0 = 0 := b_ext fun i hi => by rw [b_and, b_0, Bool.and_false]
theorem a_ver (h8 : nn (s 0) < 8) (S : CS c n s nm td p h) (K : Kr c n h kk (aVer c n s nm td p)) : MetPM m_X1_readVersion [.ref 4] h (rI q kk) := by
  refine t_X1_readVersion (a_new (Or.inl ⟨rfl, rfl, rfl, rfl⟩) S K (fun x h1 e z => ⟨fun y => absurd e y, fun _ => ⟨isB_0, z⟩⟩) (fun x p1 h1 e N S1 K1 => ⟨fun _ => ?_, fun y => absurd y e⟩))
  refine a_num (by omega) (by omega) S1 K1 (fun h2 z => ⟨fun y => absurd rfl y, fun _ => ⟨isB_0, z⟩⟩) (fun lo p2 h2 l1 l2 l3 S2 K2 => ⟨fun _ => ?_, fun y => absurd y (nIm (by omega))⟩)
  refine a_num (by omega) (by omega) S2 K2 (fun h3 z => ⟨fun y => absurd rfl y, fun _ => ⟨isB_0, z⟩⟩) (fun hi p3 h3 l4 l5 l6 S3 K3 => ⟨fun _ => ?_, fun y => absurd y (nIm (by omega))⟩)
  exact c_addVersion S3.P h8 S3.D N (fun h4 x4 D4 => ⟨isB_1, (K3.fz (F2d x4)).ok (S3.dr x4 (S3.P.ver h8) D4)⟩)
theorem a_pla (h5 : nn (s 1) < 5) (S : CS c n s nm td p h) (K : Kr c n h kk (aPla c n s nm td p)) : MetPM m_X1_readPlace [.ref 4] h (rI q kk) := by
  refine t_X1_readPlace (a_new (Or.inr (Or.inl ⟨rfl, rfl, rfl, rfl⟩)) S K (fun x h1 e z => ⟨fun y => absurd e y, fun _ => ⟨isB_0, z⟩⟩) (fun x p1 h1 e N S1 K1 => ⟨fun _ => ?_, fun y => absurd y e⟩))
  exact c_addPlace S1.P h5 S1.D N (fun h4 x4 D4 => ⟨isB_1, (K1.fz (F2d x4)).ok (S1.dr x4 (S1.P.pla h5) D4)⟩)
theorem a_tal (S : CS c n s nm td p h) (K : Kr c n h kk (aTal c n s nm td p)) : MetPM m_X1_readTalks [.ref 4] h (rI q kk) := by
  have h8 := S.P.v.1.2
  refine t_X1_readTalks (a_fnd (Or.inl ⟨rfl, rfl, rfl, rfl⟩) S K (fun h1 z => ⟨fun y => absurd rfl y, fun _ => ⟨isB_0, z⟩⟩) (fun a ha _ K1 => ⟨fun _ => ?_, fun y => absurd y (nIm (by omega))⟩))
  refine a_next S (fun h1 x1 S1 => ?_)
  refine a_fnd (Or.inl ⟨rfl, rfl, rfl, rfl⟩) S1 (K1.fz x1) (fun h1 z => ⟨fun y => absurd rfl y, fun _ => ⟨isB_0, z⟩⟩) (fun b hb _ K2 => ⟨fun _ => ?_, fun y => absurd y (nIm (by omega))⟩)
  rw [nI_eq (by omega) (by omega)]
  refine ⟨fun d => ?_, fun d => a_fail S1 (by rw [if_pos d] at K2; exact K2)⟩
  rw [if_neg d] at K2
  refine c_talkersOf (Or.inr rfl) S1.P.rk S1.D.1 ha (fun x hx => c_isIn (by omega) ?_)
  rw [hx b (by omega)]
  refine bq (fun y => ?_) (fun y => ?_)
  · rw [if_neg (by rw [y]; decide)] at K2
    exact a_next S1 (fun h2 x2 S2 => c_addTalk S2.P (fun z => d z.symm) ha hb S2.D (fun h3 x3 D3 => ⟨isB_1, ((K2.fz x2).fz (F2d x3)).ok (S2.dr x3 (S2.P.tal (fun z => d z.symm) ha hb) D3)⟩))
  · rw [if_pos y] at K2
    exact a_fail S1 K2
theorem a_mem (hm : nn (s 2) < 12) (S : CS c n s nm td p h) (K : Kr c n h kk (aMem c n s nm td p)) : MetPM m_X1_readMember [.ref 4] h (rI q kk) := by
  have h8 := S.P.v.1.2
  have h5 := S.P.x.1.2
  refine t_X1_readMember (a_new (Or.inr (Or.inr ⟨rfl, rfl, rfl, rfl⟩)) S K (fun x h1 e z => ⟨fun y => absurd e y, fun _ => ⟨isB_0, z⟩⟩) (fun x p1 h1 e N S1 K1 => ⟨fun _ => ?_, fun y => absurd y e⟩))
  refine a_fnd (Or.inr (Or.inl ⟨rfl, rfl, rfl, rfl⟩)) S1 K1 (fun h1 z => ⟨fun y => absurd rfl y, fun _ => ⟨isB_0, z⟩⟩) (fun a ha _ K2 => ⟨fun _ => ?_, fun y => absurd y (nIm (by omega))⟩)
  refine a_next S1 (fun h2 x2 S2 => ?_)
  refine a_fnd (Or.inl ⟨rfl, rfl, rfl, rfl⟩) S2 (K2.fz x2) (fun h1 z => ⟨fun y => absurd rfl y, fun _ => ⟨isB_0, z⟩⟩) (fun b hb _ K3 => ⟨fun _ => ?_, fun y => absurd y (nIm (by omega))⟩)
  refine c_canJoin S2.P S2.D (by omega) hb (bp (fun y => ?_) (fun y => ?_))
  · rw [if_neg (by rw [y]; decide)] at K3
    exact a_fail S2 K3
  · rw [if_pos y] at K3
    refine a_next S2 (fun h3 x3 S3 => c_isWord (i := 22) (by omega) S3.pn S3.T ?_)
    have K4 := K3.fz x3
    cases d : kwB c n (tE c n (tE c n p1)) 22
    · rw [d, if_neg (by decide)] at K4
      refine ⟨fun _ => u_X1_readMember_128 (c_addMember (hb := false) S3.P hm ha hb S3.D N (fun h4 x4 D4 => ⟨isB_1, (K4.fz (F2d x4)).ok (S3.dr x4 (S3.P.mem hm ha hb) D4)⟩)), fun y => absurd rfl y⟩
    · rw [d, if_pos rfl] at K4
      refine ⟨fun y => absurd y (by decide), fun _ => a_next S3 (fun h4 x4 S4 => u_X1_readMember_128 (c_addMember (hb := true) S4.P hm ha hb S4.D N (fun h5 x5 D5 => ⟨isB_1, ((K4.fz x4).fz (F2d x5)).ok (S4.dr x5 (S4.P.mem hm ha hb) D5)⟩)))⟩
theorem a_lnk (h4 : nn (s 4) < 20) (S : CS c n s nm td p h) (K : Kr c n h kk (aLnk c n s nm td p)) : MetPM m_X1_readLink [.ref 4] h (rI q kk) := by
  have h8 := S.P.v.1.2
  have h2 := S.P.x.2.1.2
  refine t_X1_readLink (a_fnd (Or.inr (Or.inr ⟨rfl, rfl, rfl, rfl⟩)) S K (fun h1 z => ⟨fun y => absurd rfl y, fun _ => ⟨isB_0, z⟩⟩) (fun a ha _ K1 => ⟨fun _ => ?_, fun y => absurd y (nIm (by omega))⟩))
  refine a_next S (fun h1 x1 S1 => ?_)
  refine a_fnd (Or.inr (Or.inr ⟨rfl, rfl, rfl, rfl⟩)) S1 (K1.fz x1) (fun h1 z => ⟨fun y => absurd rfl y, fun _ => ⟨isB_0, z⟩⟩) (fun b hb _ K2 => ⟨fun _ => ?_, fun y => absurd y (nIm (by omega))⟩)
  refine ⟨vp_in_nI (by omega) (by omega), vp_in_nI (by omega) (by omega), ?_⟩
  have pa := S1.D.1.po a ha
  have pb := S1.D.1.po b hb
  have V := S1.P.rk.ve
  rw [cl (by omega), cl (by omega), show gi h1 43 a = mf s a 0 from pa, show gi h1 43 b = mf s b 0 from pb, show gi h1 44 a = _ from S1.D.1.pa a ha]
  refine ⟨fun d => ?_, fun d => a_fail S1 (by rw [if_pos d] at K2; exact K2)⟩
  rw [if_neg d] at K2
  refine ⟨vp_in_nI (by omega) (by omega), c_isIn (by omega) ?_⟩
  rw [bt_mk_in (by omega) hb]
  refine bq (fun y => ?_) (fun y => ?_)
  · rw [if_neg (by rw [y]; decide)] at K2
    refine ⟨vp_in_nI (by omega) (by omega), ?_⟩
    rw [show gi h1 75 a = nI (vN s a) from (S1.D.2.1.ve a ha).trans (V a ha).1.1]
    refine c_talkersOf (Or.inr rfl) S1.P.rk S1.D.1 (V a ha).2 (fun x hx => ⟨vp_in_nI (by omega) (by omega), ?_⟩)
    rw [show gi h1 75 b = nI (vN s b) from (S1.D.2.1.ve b hb).trans (V b hb).1.1]
    have vb := (V b hb).2
    refine c_isIn (by omega) ?_
    rw [hx _ (by omega)]
    have hab : a ≠ b := fun z => d (by rw [z])
    refine bp (fun y2 => ?_) (fun y2 => ?_)
    · rw [if_neg (by rw [y2]; decide)] at K2
      exact a_fail S1 K2
    · rw [if_pos y2] at K2
      exact a_next S1 (fun h2 x2 S2 => c_addLink S2.P hab ha hb h4 S2.D (fun h3 x3 D3 => ⟨isB_1, ((K2.fz x2).fz (F2d x3)).ok (S2.dr x3 (S2.P.lnk hab ha hb h4) D3)⟩))
  · rw [if_pos y] at K2
    exact a_fail S1 K2
theorem l_wav (hw : w < nn (s 3)) : ∀ k j s p h q', j + k = 5 → w < nn (s 3) → CS c n s nm td p h → Kr c n h kk (aPls c n nm td w (k + 1) s p) → MetPM m_X1_readPlaceOfWave [.ref 4, .int (nI w)] h (rI q' (fun x h1 => At m_X1_readWave (rI q kk) 23 0 [some (.ref 4), some (.int (nI w)), some (.int x), some (.int (nI j))] [] h1)) := by
  intro k
  induction k with
  | zero =>
    intro j s p h q' hj hw S K
    have h5 := S.P.x.1.2
    have bad : ∀ h', kk (nI 0) h' → At m_X1_readWave (rI q kk) 23 0 [some (.ref 4), some (.int (nI w)), some (.int (nI 0)), some (.int (nI j))] [] h' := fun h' z => u_X1_readWave_23 (pk_le 5 j (fun _ => ⟨isB_0, z⟩) (fun _ => ⟨fun _ => ⟨isB_0, z⟩, fun y => absurd rfl y⟩))
    have good : ∀ h', kk (nI 1) h' → At m_X1_readWave (rI q kk) 23 0 [some (.ref 4), some (.int (nI w)), some (.int (nI 1)), some (.int (nI j))] [] h' := fun h' z => u_X1_readWave_23 (pk_le 5 j (fun _ => ⟨isB_1, z⟩) (fun y => absurd y (by omega)))
    refine t_X1_readPlaceOfWave (a_fnd (Or.inr (Or.inl ⟨rfl, rfl, rfl, rfl⟩)) S K (fun h1 z => ⟨fun y => absurd rfl y, fun _ => ⟨isB_0, bad _ z⟩⟩) (fun a ha _ K1 => ⟨fun _ => ⟨vp_in_nI (by omega) (by omega), ?_⟩, fun y => absurd y (nIm (by omega))⟩))
    rw [cl (by omega), show gi h 38 a = _ from S.D.1.wp a ha, m1_eq]
    refine ⟨fun d => ?_, fun d => ?_⟩
    · rw [if_pos d] at K1
      refine a_next S (fun h1 x1 S1 => c_addToWave S1.P ha hw d S1.D (fun h2 x2 D2 => ⟨isB_1, good _ ?_⟩))
      have K2 := (K1.fz x1).fz (F2d x2)
      have S2 := S1.dr x2 (S1.P.wp ha hw) D2
      split at K2
      · exact K2.ok S2
      · exact K2.ok S2
    · rw [if_neg d] at K1
      exact c_fail S.T (fun h1 x1 y1 => ⟨isB_0, bad _ (K1.er (F2b x1) y1)⟩)
  | succ k ih =>
    intro j s p h q' hj hw S K
    have h5 := S.P.x.1.2
    have bad : ∀ h', kk (nI 0) h' → At m_X1_readWave (rI q kk) 23 0 [some (.ref 4), some (.int (nI w)), some (.int (nI 0)), some (.int (nI j))] [] h' := fun h' z => u_X1_readWave_23 (pk_le 5 j (fun _ => ⟨isB_0, z⟩) (fun _ => ⟨fun _ => ⟨isB_0, z⟩, fun y => absurd rfl y⟩))
    refine t_X1_readPlaceOfWave (a_fnd (Or.inr (Or.inl ⟨rfl, rfl, rfl, rfl⟩)) S K (fun h1 z => ⟨fun y => absurd rfl y, fun _ => ⟨isB_0, bad _ z⟩⟩) (fun a ha _ K1 => ⟨fun _ => ⟨vp_in_nI (by omega) (by omega), ?_⟩, fun y => absurd y (nIm (by omega))⟩))
    rw [cl (by omega), show gi h 38 a = _ from S.D.1.wp a ha, m1_eq]
    refine ⟨fun d => ?_, fun d => ?_⟩
    · rw [if_pos d] at K1
      refine a_next S (fun h1 x1 S1 => c_addToWave S1.P ha hw d S1.D (fun h2 x2 D2 => ⟨isB_1, ?_⟩))
      have K2 := (K1.fz x1).fz (F2d x2)
      have S2 := S1.dr x2 (S1.P.wp ha hw) D2
      have tk := tK_lt (c := c) (n := n) (p := tE c n p)
      refine u_X1_readWave_23 (pk_le 5 j (fun y => absurd y (by omega)) (fun _ => ⟨fun y => absurd y (by decide), fun _ => ?_⟩))
      rw [show gi h2 1 4 = _ from S2.T.1, nI_eq (by omega) (by omega)]
      refine ⟨fun d2 => ?_, fun d2 => ?_⟩
      · rw [if_neg d2] at K2
        exact ⟨isB_1, K2.ok S2⟩
      · rw [if_pos d2] at K2
        rw [nI_add]
        have e3 : wpS s a w 3 = s 3 := ups_n (by omega)
        exact ih (j + 1) _ _ _ _ (by omega) (by rw [e3]; exact hw) S2 K2
    · rw [if_neg d] at K1
      exact c_fail S.T (fun h1 x1 y1 => ⟨isB_0, bad _ (K1.er (F2b x1) y1)⟩)
theorem a_wav (h5 : nn (s 3) < 5) (S : CS c n s nm td p h) (K : Kr c n h kk (aWav c n s nm td p)) : MetPM m_X1_readWave [.ref 4] h (rI q kk) := by
  have W := S.P.wv h5
  refine t_X1_readWave (c_addWave S.P h5 S.D (fun h1 x1 D1 => ?_))
  rw [show gi h 30 12 = nI (nn (s 3)) from S.D.1.wa.trans S.P.x.2.2.1.1]
  have hw : nn (s 3) < nn (wvS s 3) := by rw [W.2.1]; omega
  exact l_wav hw 5 0 _ _ _ _ (by omega) hw (S.dr x1 W.1 D1) (K.fz (F2d x1))
theorem DR.f43 {x : Int32} (D : DR nm s h) (_ : (0 : Nat) = 0) : DR nm s (si h 4 3 x) := ⟨D.1.heap (fun b _ _ => si_b (by omega)), D.2.1.heap (fun b _ _ => si_b (by omega)), D.2.2.same (h' := si h 4 3 x) rfl rfl rfl (fun _ _ _ => rfl)⟩
theorem CT.f43 {x : Int32} (T : CT c n p h) : CT c n p (si h 4 3 x) := by
  unfold CT
  rw [gi_ob (by omega), gi_ob (by omega), gi_ob (by omega), gi_ob (by omega)]
  exact T
theorem set_ok : ∀ i, i < 12 → 6 ≤ i → cfv (1000 + i) 2 = nI (sLo (i - 1)) ∧ cfv (1000 + i) 3 = nI (sHi (i - 1)) ∧ cfv (1000 + i) 1 = (nI 1) <<< (nI (i - 6) &&& 31) ∧ sLo (i - 1) < 2000 ∧ sHi (i - 1) < 2000 := by decide +kernel
theorem PR.set_i {i x : Nat} (hi : i < 12) (h6 : 6 ≤ i) (l2 : sLo (i - 1) ≤ x) (l3 : x ≤ sHi (i - 1)) (P : PR s) : PR (ups s (i - 1) (nI x)) := by
  refine P.set ?_
  rcases (by omega : i = 6 ∨ i = 7 ∨ i = 8 ∨ i = 9 ∨ i = 10 ∨ i = 11) with rfl | rfl | rfl | rfl | rfl | rfl
  · exact Or.inl ⟨rfl, isN_nI l3 (by decide)⟩
  · exact Or.inr (Or.inl ⟨rfl, isN_nI l3 (by decide)⟩)
  · exact Or.inr (Or.inr (Or.inl ⟨rfl, isN_nI l3 (by decide)⟩))
  · exact Or.inr (Or.inr (Or.inr (Or.inl ⟨rfl, isN_nI l3 (by decide), by rw [nn_nI (Nat.lt_of_le_of_lt l3 (by decide))]; exact l2⟩)))
  · exact Or.inr (Or.inr (Or.inr (Or.inr (Or.inl ⟨rfl, isN_nI l3 (by decide)⟩))))
  · exact Or.inr (Or.inr (Or.inr (Or.inr (Or.inr ⟨rfl, isN_nI l3 (by decide)⟩))))
theorem CS.st {i x : Nat} (hi : i < 12) (h6 : 6 ≤ i) (l2 : sLo (i - 1) ≤ x) (l3 : x ≤ sHi (i - 1)) (S : CS c n s nm td p h) : CS c n (ups s (i - 1) (nI x)) nm (updB td (i - 1)) p (si (si h 4 3 ((gi h 4 3) ||| ((nI 1) <<< (nI (i - 6) &&& 31)))) (if i = 6 then 74 else 30) (if i = 6 then 2 else i + 6) (nI x)) ∧ Fz WS2 VS2 h (si (si h 4 3 ((gi h 4 3) ||| ((nI 1) <<< (nI (i - 6) &&& 31)))) (if i = 6 then 74 else 30) (if i = 6 then 2 else i + 6) (nI x)) := by
  have e4 : gi h 4 3 ||| ((nI 1) <<< (nI (i - 6) &&& 31)) = mk 6 (fun j => updB td (i - 1) (j + 5)) := by
    rw [S.tl, mk_set (by omega) (by omega)]
    refine mk_eq fun j hj => ?_
    show (td (j + 5) || decide (j = i - 6)) = (td (j + 5) || decide (j + 5 = i - 1))
    rw [decide_eq_decide.mpr (show j = i - 6 ↔ j + 5 = i - 1 by omega)]
  rw [e4]
  have x4 : Fz (fun b k => b = 4 ∧ k = 3) (fun _ => False) h (si h 4 3 (mk 6 (fun j => updB td (i - 1) (j + 5)))) := Fz.si h _ ⟨rfl, rfl⟩
  have D4 : DR nm s (si h 4 3 (mk 6 (fun j => updB td (i - 1) (j + 5)))) := S.D.f43 rfl
  have P2 : PR (ups s (i - 1) (nI x)) := by
    refine S.P.set ?_
    rcases (by omega : i = 6 ∨ i = 7 ∨ i = 8 ∨ i = 9 ∨ i = 10 ∨ i = 11) with rfl | rfl | rfl | rfl | rfl | rfl
    · exact Or.inl ⟨rfl, isN_nI l3 (by decide)⟩
    · exact Or.inr (Or.inl ⟨rfl, isN_nI l3 (by decide)⟩)
    · exact Or.inr (Or.inr (Or.inl ⟨rfl, isN_nI l3 (by decide)⟩))
    · exact Or.inr (Or.inr (Or.inr (Or.inl ⟨rfl, isN_nI l3 (by decide), by rw [nn_nI (Nat.lt_of_le_of_lt l3 (by decide))]; exact l2⟩)))
    · exact Or.inr (Or.inr (Or.inr (Or.inr (Or.inl ⟨rfl, isN_nI l3 (by decide)⟩))))
    · exact Or.inr (Or.inr (Or.inr (Or.inr (Or.inr ⟨rfl, isN_nI l3 (by decide)⟩))))
  by_cases d : i = 6
  · subst d
    rw [if_pos rfl, if_pos rfl]
    have F : Fz WD VD (si h 4 3 (mk 6 (fun j => updB td (6 - 1) (j + 5)))) (si (si h 4 3 (mk 6 (fun j => updB td (6 - 1) (j + 5)))) 74 2 (nI x)) := Fz.si _ _ (wdd (by omega))
    have x5 : Fz WS2 VS2 h (si (si h 4 3 (mk 6 (fun j => updB td (6 - 1) (j + 5)))) 74 2 (nI x)) := (x4.mono (fun b k y => Or.inr (Or.inr y)) (fun _ y => absurd y id)).trans (F2d F)
    exact ⟨⟨P2, D4.set5 S.P, (S.B.fz x4 (by omega) (by omega)).fd F, (S.T.f43).fd F, S.pn, by rw [gi_ob (by omega)]; exact gi_same, by rw [gi_ob (by omega), gi_ob (by omega)]; exact S.e2, by rw [gi_ob (by omega), gi_ob (by omega)]; exact S.e3⟩, x5⟩
  · rw [if_neg d, if_neg d]
    have F : Fz WD VD (si h 4 3 (mk 6 (fun j => updB td (i - 1) (j + 5)))) (si (si h 4 3 (mk 6 (fun j => updB td (i - 1) (j + 5)))) 30 (i + 6) (nI x)) := Fz.si _ _ (wdd (by omega))
    have x5 : Fz WS2 VS2 h (si (si h 4 3 (mk 6 (fun j => updB td (i - 1) (j + 5)))) 30 (i + 6) (nI x)) := (x4.mono (fun b k y => Or.inr (Or.inr y)) (fun _ y => absurd y id)).trans (F2d F)
    have D5 : DR nm (ups s (i - 1) (nI x)) (si (si h 4 3 (mk 6 (fun j => updB td (i - 1) (j + 5)))) 30 (i - 1 + 7) (nI x)) := D4.setN S.P (by omega)
    rw [show i - 1 + 7 = i + 6 by omega] at D5
    exact ⟨⟨P2, D5, (S.B.fz x4 (by omega) (by omega)).fd F, (S.T.f43).fd F, S.pn, by rw [gi_ob (by omega)]; exact gi_same, by rw [gi_ob (by omega), gi_ob (by omega)]; exact S.e2, by rw [gi_ob (by omega), gi_ob (by omega)]; exact S.e3⟩, x5⟩
theorem a_set {i : Nat} (hi : i < 12) (h6 : 6 ≤ i) (S : CS c n s nm td p h) (K : Kr c n h kk (aSet c n s nm td (i - 1) p)) : MetPM m_X1_readSetting [.ref 4, .ref (1000 + i)] h (rI q kk) := by
  obtain ⟨c2, c3, c1, b2, b3⟩ := set_ok i hi h6
  refine t_X1_readSetting ⟨Or.inl ⟨rfl, by omega, by omega⟩, Or.inl ⟨rfl, by omega, by omega⟩, ?_⟩
  rw [c1, c2, c3]
  refine a_num b2 b3 S K (fun h2 z => ⟨fun y => absurd rfl y, fun _ => ⟨isB_0, z⟩⟩) (fun x p1 h1 l1 l2 l3 S1 K1 => ⟨fun _ => ⟨Or.inl ⟨rfl, by omega, by omega⟩, Or.inl ⟨rfl, by omega, by omega⟩, Or.inl ⟨rfl, Or.inl rfl⟩, ?_⟩, fun y => absurd y (nIm (by omega))⟩)
  have R := S1.st hi h6 l2 l3
  have fin := (K1.fz R.2).ok R.1
  rcases (by omega : i = 6 ∨ i = 7 ∨ i = 8 ∨ i = 9 ∨ i = 10 ∨ i = 11) with rfl | rfl | rfl | rfl | rfl | rfl
  · rw [show csw 1082 (cfv (1000 + 6) 9).toNatClampNeg = nI 6 by decide +kernel]
    exact ⟨vpi (by omega), ⟨fun y => absurd rfl (y 6 (by omega) (by omega)), fun _ => (⟨isB_1, fin⟩), fun y => absurd y (by decide), fun y => absurd y (by decide), fun y => absurd y (by decide), fun y => absurd y (by decide), fun y => absurd y (by decide), trivial⟩⟩
  · rw [show csw 1082 (cfv (1000 + 7) 9).toNatClampNeg = nI 7 by decide +kernel]
    exact ⟨vpi (by omega), ⟨fun y => absurd rfl (y 7 (by omega) (by omega)), fun y => absurd y (by decide), fun _ => (⟨isB_1, fin⟩), fun y => absurd y (by decide), fun y => absurd y (by decide), fun y => absurd y (by decide), fun y => absurd y (by decide), trivial⟩⟩
  · rw [show csw 1082 (cfv (1000 + 8) 9).toNatClampNeg = nI 9 by decide +kernel]
    exact ⟨vpi (by omega), ⟨fun y => absurd rfl (y 9 (by omega) (by omega)), fun y => absurd y (by decide), fun y => absurd y (by decide), fun y => absurd y (by decide), fun _ => (⟨isB_1, fin⟩), fun y => absurd y (by decide), fun y => absurd y (by decide), trivial⟩⟩
  · rw [show csw 1082 (cfv (1000 + 9) 9).toNatClampNeg = nI 10 by decide +kernel]
    exact ⟨vpi (by omega), ⟨fun y => absurd rfl (y 10 (by omega) (by omega)), fun y => absurd y (by decide), fun y => absurd y (by decide), fun y => absurd y (by decide), fun y => absurd y (by decide), fun _ => (⟨isB_1, fin⟩), fun y => absurd y (by decide), trivial⟩⟩
  · rw [show csw 1082 (cfv (1000 + 10) 9).toNatClampNeg = nI 11 by decide +kernel]
    exact ⟨vpi (by omega), ⟨fun y => absurd rfl (y 11 (by omega) (by omega)), fun y => absurd y (by decide), fun y => absurd y (by decide), fun y => absurd y (by decide), fun y => absurd y (by decide), fun y => absurd y (by decide), fun _ => (⟨isB_1, fin⟩), trivial⟩⟩
  · rw [show csw 1082 (cfv (1000 + 11) 9).toNatClampNeg = nI 0 by decide +kernel]
    exact ⟨vpi (by omega), ⟨fun _ => (⟨isB_1, fin⟩), fun y => absurd y (by decide), fun y => absurd y (by decide), fun y => absurd y (by decide), fun y => absurd y (by decide), fun y => absurd y (by decide), fun y => absurd y (by decide), trivial⟩⟩
theorem lt_of {x y z : Nat} (hz : z ≠ 0) (e : (if x < y then 0 else z) = 0) : x < y := by
  by_cases d : x < y
  · exact d
  · rw [if_neg d] at e; exact absurd e hz
theorem fl {A B B' : Prop} (x : (A → B) ∧ (¬ A → B')) : (A → (isB (nI 0) ∧ ((((nI 0 : Int32) = 0 → B) ∧ (¬ (nI 0 : Int32) = 0 → B'))))) ∧ (¬ A → (isB (nI 1) ∧ ((((nI 1 : Int32) = 0 → B) ∧ (¬ (nI 1 : Int32) = 0 → B'))))) := ⟨fun y => ⟨isB_0, fun _ => x.1 y, fun z => absurd rfl z⟩, fun y => ⟨isB_1, fun z => absurd z (by decide), fun _ => x.2 y⟩⟩
theorem a_err {i : Nat} (hi : i < 12) (S : CS c n s nm td p h) (K : kj (nI (eFst s td i)) h) : MetPM m_X1_errorOfFirstWord [.ref 4, .ref (1000 + i)] h (rI q kj) := by
  have e0 : gi h 31 1 = nI (nn (s 0)) := S.D.1.nv.trans S.P.v.1.1
  have e1 : gi h 36 1 = nI (nn (s 1)) := S.D.1.np.trans S.P.x.1.1
  have e2 : gi h 41 1 = nI (nn (s 2)) := S.D.1.nm.trans S.P.x.2.1.1
  have e3 : gi h 30 12 = nI (nn (s 3)) := S.D.1.wa.trans S.P.x.2.2.1.1
  have e4 : gi h 30 11 = nI (nn (s 4)) := S.D.1.li.trans S.P.x.2.2.2.1.1
  have l0 := S.P.v.1.2
  have l1 := S.P.x.1.2
  have l2 := S.P.x.2.1.2
  have l3 := S.P.x.2.2.1.2
  have l4 := S.P.x.2.2.2.1.2
  have tl := S.tl
  have full : ∀ {x y : Nat}, x < 100 → y < 100 → eFst s td i = (if x < y then 0 else 6) → (nI x < nI y → kj (nI 0) h) ∧ (¬ nI x < nI y → kj (nI 6) h) := fun {x y} hx hy e => by
    rw [e] at K
    refine pk_lt x y (fun z => ?_) (fun z => ?_)
    · rw [if_pos z] at K; exact K
    · rw [if_neg (by omega)] at K; exact K
  have one : ∀ {k : Nat}, k < 6 → i = k + 6 → 2 ≤ k → (((gi h 4 3) &&& ((nI 1) <<< (nI k &&& 31))) = 0 → kj (nI 0) h) ∧ (¬ ((gi h 4 3) &&& ((nI 1) <<< (nI k &&& 31))) = 0 → kj (nI 4) h) := fun {k} hk e k2 => by
    unfold eFst at K
    rw [if_neg (by omega), if_neg (by omega), if_neg (by omega), if_neg (by omega), if_neg (by omega), if_neg (by omega)] at K
    rw [tl, mk_hit (by omega) hk]
    have ei : k + 5 = i - 1 := by omega
    refine ⟨fun z => ?_, fun z => ?_⟩
    · rw [if_neg (by rw [← ei, z]; decide), if_neg (by omega)] at K; exact K
    · rw [if_pos (by rw [← ei]; simpa using z)] at K; exact K
  have two : ∀ {k : Nat}, k < 2 → i = k + 6 → (¬ ((gi h 4 3) &&& ((nI 1) <<< (nI k &&& 31))) = 0 → kj (nI 4) h) ∧ (((gi h 4 3) &&& ((nI 1) <<< (nI k &&& 31))) = 0 → ((gi h 41 1) ≤ 0 → kj (nI 0) h) ∧ (¬ (gi h 41 1) ≤ 0 → kj (nI 4) h)) := fun {k} hk e => by
    unfold eFst at K
    rw [if_neg (by omega), if_neg (by omega), if_neg (by omega), if_neg (by omega), if_neg (by omega), if_neg (by omega)] at K
    rw [tl, mk_hit (by omega) (by omega), e2]
    have ei : k + 5 = i - 1 := by omega
    refine ⟨fun z => ?_, fun z => ?_⟩
    · rw [if_pos (by rw [← ei]; simpa using z)] at K; exact K
    · rw [if_neg (by rw [← ei, z]; decide), if_pos (by omega)] at K
      refine pk_le (nn (s 2)) 0 (fun y => ?_) (fun y => ?_)
      · rw [if_pos (by omega)] at K; exact K
      · rw [if_neg (by omega)] at K; exact K
  refine t_X1_errorOfFirstWord ⟨Or.inl ⟨rfl, by omega, by omega⟩, Or.inl ⟨rfl, Or.inl rfl⟩, ?_⟩
  rcases (by omega : i = 0 ∨ i = 1 ∨ i = 2 ∨ i = 3 ∨ i = 4 ∨ i = 5 ∨ i = 6 ∨ i = 7 ∨ i = 8 ∨ i = 9 ∨ i = 10 ∨ i = 11) with rfl | rfl | rfl | rfl | rfl | rfl | rfl | rfl | rfl | rfl | rfl | rfl
  · have e : csw 1082 (cfv (1000 + 0) 9).toNatClampNeg = nI 1 := by decide +kernel
    rw [e]
    exact ⟨vpi (by omega), ⟨fun y => absurd rfl (y 1 (by omega) (by omega)), fun _ => (t_X6_isFull_31 (by rw [e0]; exact fl (full (x := nn (s 0)) (y := 8) (by omega) (by omega) rfl))), fun y => absurd y (by decide), fun y => absurd y (by decide), fun y => absurd y (by decide), fun y => absurd y (by decide), fun y => absurd y (by decide), fun y => absurd y (by decide), trivial⟩⟩
  · have e : csw 1082 (cfv (1000 + 1) 9).toNatClampNeg = nI 8 := by decide +kernel
    rw [e]
    exact ⟨vpi (by omega), ⟨fun _ => (⟨Or.inl ⟨rfl, by omega, by omega⟩, by rw [show cfv (1000 + 1) 1 = 0 by decide, and0]; exact ⟨fun _ => K, fun y => absurd rfl y⟩⟩), fun y => absurd y (by decide), fun y => absurd y (by decide), fun y => absurd y (by decide), fun y => absurd y (by decide), fun y => absurd y (by decide), fun y => absurd y (by decide), fun y => absurd y (by decide), trivial⟩⟩
  · have e : csw 1082 (cfv (1000 + 2) 9).toNatClampNeg = nI 2 := by decide +kernel
    rw [e]
    exact ⟨vpi (by omega), ⟨fun y => absurd rfl (y 2 (by omega) (by omega)), fun y => absurd y (by decide), fun _ => (t_X6_isFull_36 (by rw [e1]; exact fl (full (x := nn (s 1)) (y := 5) (by omega) (by omega) rfl))), fun y => absurd y (by decide), fun y => absurd y (by decide), fun y => absurd y (by decide), fun y => absurd y (by decide), fun y => absurd y (by decide), trivial⟩⟩
  · have e : csw 1082 (cfv (1000 + 3) 9).toNatClampNeg = nI 3 := by decide +kernel
    rw [e]
    exact ⟨vpi (by omega), ⟨fun y => absurd rfl (y 3 (by omega) (by omega)), fun y => absurd y (by decide), fun y => absurd y (by decide), fun _ => (t_X6_isFull_41 (by rw [e2]; exact fl (full (x := nn (s 2)) (y := 12) (by omega) (by omega) rfl))), fun y => absurd y (by decide), fun y => absurd y (by decide), fun y => absurd y (by decide), fun y => absurd y (by decide), trivial⟩⟩
  · have e : csw 1082 (cfv (1000 + 4) 9).toNatClampNeg = nI 5 := by decide +kernel
    rw [e]
    exact ⟨vpi (by omega), ⟨fun y => absurd rfl (y 5 (by omega) (by omega)), fun y => absurd y (by decide), fun y => absurd y (by decide), fun y => absurd y (by decide), fun y => absurd y (by decide), fun _ => (by rw [e4]; exact full (x := nn (s 4)) (y := 20) (by omega) (by omega) rfl), fun y => absurd y (by decide), fun y => absurd y (by decide), trivial⟩⟩
  · have e : csw 1082 (cfv (1000 + 5) 9).toNatClampNeg = nI 4 := by decide +kernel
    rw [e]
    exact ⟨vpi (by omega), ⟨fun y => absurd rfl (y 4 (by omega) (by omega)), fun y => absurd y (by decide), fun y => absurd y (by decide), fun y => absurd y (by decide), fun _ => (by rw [e3]; exact full (x := nn (s 3)) (y := 5) (by omega) (by omega) rfl), fun y => absurd y (by decide), fun y => absurd y (by decide), fun y => absurd y (by decide), trivial⟩⟩
  · have e : csw 1082 (cfv (1000 + 6) 9).toNatClampNeg = nI 6 := by decide +kernel
    rw [e]
    exact ⟨vpi (by omega), ⟨fun y => absurd rfl (y 6 (by omega) (by omega)), fun y => absurd y (by decide), fun y => absurd y (by decide), fun y => absurd y (by decide), fun y => absurd y (by decide), fun y => absurd y (by decide), fun _ => (⟨Or.inl ⟨rfl, by omega, by omega⟩, two (k := 0) (by omega) rfl⟩), fun y => absurd y (by decide), trivial⟩⟩
  · have e : csw 1082 (cfv (1000 + 7) 9).toNatClampNeg = nI 7 := by decide +kernel
    rw [e]
    exact ⟨vpi (by omega), ⟨fun y => absurd rfl (y 7 (by omega) (by omega)), fun y => absurd y (by decide), fun y => absurd y (by decide), fun y => absurd y (by decide), fun y => absurd y (by decide), fun y => absurd y (by decide), fun y => absurd y (by decide), fun _ => (⟨Or.inl ⟨rfl, by omega, by omega⟩, two (k := 1) (by omega) rfl⟩), trivial⟩⟩
  · have e : csw 1082 (cfv (1000 + 8) 9).toNatClampNeg = nI 9 := by decide +kernel
    rw [e]
    exact ⟨vpi (by omega), ⟨fun _ => (⟨Or.inl ⟨rfl, by omega, by omega⟩, one (k := 2) (by omega) rfl (by omega)⟩), fun y => absurd y (by decide), fun y => absurd y (by decide), fun y => absurd y (by decide), fun y => absurd y (by decide), fun y => absurd y (by decide), fun y => absurd y (by decide), fun y => absurd y (by decide), trivial⟩⟩
  · have e : csw 1082 (cfv (1000 + 9) 9).toNatClampNeg = nI 10 := by decide +kernel
    rw [e]
    exact ⟨vpi (by omega), ⟨fun _ => (⟨Or.inl ⟨rfl, by omega, by omega⟩, one (k := 3) (by omega) rfl (by omega)⟩), fun y => absurd y (by decide), fun y => absurd y (by decide), fun y => absurd y (by decide), fun y => absurd y (by decide), fun y => absurd y (by decide), fun y => absurd y (by decide), fun y => absurd y (by decide), trivial⟩⟩
  · have e : csw 1082 (cfv (1000 + 10) 9).toNatClampNeg = nI 11 := by decide +kernel
    rw [e]
    exact ⟨vpi (by omega), ⟨fun _ => (⟨Or.inl ⟨rfl, by omega, by omega⟩, one (k := 4) (by omega) rfl (by omega)⟩), fun y => absurd y (by decide), fun y => absurd y (by decide), fun y => absurd y (by decide), fun y => absurd y (by decide), fun y => absurd y (by decide), fun y => absurd y (by decide), fun y => absurd y (by decide), trivial⟩⟩
  · have e : csw 1082 (cfv (1000 + 11) 9).toNatClampNeg = nI 0 := by decide +kernel
    rw [e]
    exact ⟨vpi (by omega), ⟨fun _ => (⟨Or.inl ⟨rfl, by omega, by omega⟩, one (k := 5) (by omega) rfl (by omega)⟩), fun y => absurd y (by decide), fun y => absurd y (by decide), fun y => absurd y (by decide), fun y => absurd y (by decide), fun y => absurd y (by decide), fun y => absurd y (by decide), fun y => absurd y (by decide), trivial⟩⟩
theorem a_rst {i : Nat} (hi : i < 12) (z : eFst s td i = 0) (S : CS c n s nm td p h) (K : Kr c n h kk (aRst c n s nm td i p)) : MetPM m_X1_readRest [.ref 4, .ref (1000 + i)] h (rI q kk) := by
  refine t_X1_readRest ⟨Or.inl ⟨rfl, by omega, by omega⟩, Or.inl ⟨rfl, Or.inl rfl⟩, ?_⟩
  unfold eFst at z
  rcases (by omega : i = 0 ∨ i = 1 ∨ i = 2 ∨ i = 3 ∨ i = 4 ∨ i = 5 ∨ i = 6 ∨ i = 7 ∨ i = 8 ∨ i = 9 ∨ i = 10 ∨ i = 11) with rfl | rfl | rfl | rfl | rfl | rfl | rfl | rfl | rfl | rfl | rfl | rfl
  · have e : csw 1082 (cfv (1000 + 0) 9).toNatClampNeg = nI 1 := by decide +kernel
    rw [e]
    exact ⟨vpi (by omega), ⟨fun y => absurd rfl (y 1 (by omega) (by omega)), fun _ => (a_ver (lt_of (z := 6) (by decide) z) S K.ib), fun y => absurd y (by decide), fun y => absurd y (by decide), fun y => absurd y (by decide), fun y => absurd y (by decide), fun y => absurd y (by decide), fun y => absurd y (by decide), fun y => absurd y (by decide), trivial⟩⟩
  · have e : csw 1082 (cfv (1000 + 1) 9).toNatClampNeg = nI 8 := by decide +kernel
    rw [e]
    exact ⟨vpi (by omega), ⟨fun y => absurd rfl (y 8 (by omega) (by omega)), fun y => absurd y (by decide), fun y => absurd y (by decide), fun y => absurd y (by decide), fun y => absurd y (by decide), fun y => absurd y (by decide), fun y => absurd y (by decide), fun y => absurd y (by decide), fun _ => (a_tal S K.ib), trivial⟩⟩
  · have e : csw 1082 (cfv (1000 + 2) 9).toNatClampNeg = nI 2 := by decide +kernel
    rw [e]
    exact ⟨vpi (by omega), ⟨fun y => absurd rfl (y 2 (by omega) (by omega)), fun y => absurd y (by decide), fun _ => (a_pla (lt_of (z := 6) (by decide) z) S K.ib), fun y => absurd y (by decide), fun y => absurd y (by decide), fun y => absurd y (by decide), fun y => absurd y (by decide), fun y => absurd y (by decide), fun y => absurd y (by decide), trivial⟩⟩
  · have e : csw 1082 (cfv (1000 + 3) 9).toNatClampNeg = nI 3 := by decide +kernel
    rw [e]
    exact ⟨vpi (by omega), ⟨fun y => absurd rfl (y 3 (by omega) (by omega)), fun y => absurd y (by decide), fun y => absurd y (by decide), fun _ => (a_mem (lt_of (z := 6) (by decide) z) S K.ib), fun y => absurd y (by decide), fun y => absurd y (by decide), fun y => absurd y (by decide), fun y => absurd y (by decide), fun y => absurd y (by decide), trivial⟩⟩
  · have e : csw 1082 (cfv (1000 + 4) 9).toNatClampNeg = nI 5 := by decide +kernel
    rw [e]
    exact ⟨vpi (by omega), ⟨fun y => absurd rfl (y 5 (by omega) (by omega)), fun y => absurd y (by decide), fun y => absurd y (by decide), fun y => absurd y (by decide), fun y => absurd y (by decide), fun _ => (a_lnk (lt_of (z := 6) (by decide) z) S K.ib), fun y => absurd y (by decide), fun y => absurd y (by decide), fun y => absurd y (by decide), trivial⟩⟩
  · have e : csw 1082 (cfv (1000 + 5) 9).toNatClampNeg = nI 4 := by decide +kernel
    rw [e]
    exact ⟨vpi (by omega), ⟨fun y => absurd rfl (y 4 (by omega) (by omega)), fun y => absurd y (by decide), fun y => absurd y (by decide), fun y => absurd y (by decide), fun _ => (a_wav (lt_of (z := 6) (by decide) z) S K.ib), fun y => absurd y (by decide), fun y => absurd y (by decide), fun y => absurd y (by decide), fun y => absurd y (by decide), trivial⟩⟩
  · have e : csw 1082 (cfv (1000 + 6) 9).toNatClampNeg = nI 6 := by decide +kernel
    rw [e]
    exact ⟨vpi (by omega), ⟨fun y => absurd rfl (y 6 (by omega) (by omega)), fun y => absurd y (by decide), fun y => absurd y (by decide), fun y => absurd y (by decide), fun y => absurd y (by decide), fun y => absurd y (by decide), fun _ => (a_set (i := 6) (by omega) (by omega) S K.ib), fun y => absurd y (by decide), fun y => absurd y (by decide), trivial⟩⟩
  · have e : csw 1082 (cfv (1000 + 7) 9).toNatClampNeg = nI 7 := by decide +kernel
    rw [e]
    exact ⟨vpi (by omega), ⟨fun y => absurd rfl (y 7 (by omega) (by omega)), fun y => absurd y (by decide), fun y => absurd y (by decide), fun y => absurd y (by decide), fun y => absurd y (by decide), fun y => absurd y (by decide), fun y => absurd y (by decide), fun _ => (a_set (i := 7) (by omega) (by omega) S K.ib), fun y => absurd y (by decide), trivial⟩⟩
  · have e : csw 1082 (cfv (1000 + 8) 9).toNatClampNeg = nI 9 := by decide +kernel
    rw [e]
    exact ⟨vpi (by omega), ⟨fun _ => (a_set (i := 8) (by omega) (by omega) S K.ib), fun y => absurd y (by decide), fun y => absurd y (by decide), fun y => absurd y (by decide), fun y => absurd y (by decide), fun y => absurd y (by decide), fun y => absurd y (by decide), fun y => absurd y (by decide), fun y => absurd y (by decide), trivial⟩⟩
  · have e : csw 1082 (cfv (1000 + 9) 9).toNatClampNeg = nI 10 := by decide +kernel
    rw [e]
    exact ⟨vpi (by omega), ⟨fun _ => (a_set (i := 9) (by omega) (by omega) S K.ib), fun y => absurd y (by decide), fun y => absurd y (by decide), fun y => absurd y (by decide), fun y => absurd y (by decide), fun y => absurd y (by decide), fun y => absurd y (by decide), fun y => absurd y (by decide), fun y => absurd y (by decide), trivial⟩⟩
  · have e : csw 1082 (cfv (1000 + 10) 9).toNatClampNeg = nI 11 := by decide +kernel
    rw [e]
    exact ⟨vpi (by omega), ⟨fun _ => (a_set (i := 10) (by omega) (by omega) S K.ib), fun y => absurd y (by decide), fun y => absurd y (by decide), fun y => absurd y (by decide), fun y => absurd y (by decide), fun y => absurd y (by decide), fun y => absurd y (by decide), fun y => absurd y (by decide), fun y => absurd y (by decide), trivial⟩⟩
  · have e : csw 1082 (cfv (1000 + 11) 9).toNatClampNeg = nI 0 := by decide +kernel
    rw [e]
    exact ⟨vpi (by omega), ⟨fun _ => (a_set (i := 11) (by omega) (by omega) S K.ib), fun y => absurd y (by decide), fun y => absurd y (by decide), fun y => absurd y (by decide), fun y => absurd y (by decide), fun y => absurd y (by decide), fun y => absurd y (by decide), fun y => absurd y (by decide), fun y => absurd y (by decide), trivial⟩⟩
end

