/-! ===== the model's readers of statements, 3 ===== -/
section
variable {q : Nat → PH → Prop} {kk kj : Int32 → PH → Prop} {kl : Int64 → PH → Prop} {kv kw k1 : PH → Prop} {h h' : PH} {s t : RW} {C E L : Nat} {a b n m p v w e pl i : Nat} {f g : FI} {nm : Nat → Int64} {c : Nat → Nat} {td : Nat → Bool} {y : Int64}
def frP (r : RW) (a : Nat) : Bool := decide (r (44 + a) = -1)
theorem l_mwav (hw5 : w < 5) : ∀ k r p h o2, nn (r 3) = w → PR (wvS r) → CNT r → ND nm r → MX c n r nm td p h → cnt (nn (r 1)) (frP r) < k → Km c n h kw (aPls c n nm td w k (wvS r) p) → At m_X12_readsWave (rV q kw) 29 0 [some (.ref 130), some (.int (nI 1)), o2] [] h := by
  intro k
  induction k with
  | zero => exact fun r p h o2 _ _ _ _ _ hf _ => absurd hf (by omega)
  | succ k ih =>
    intro r p h o2 e3 P cn N S hf K
    have l5 := cn.2.1.2
    have e78 : ∀ {e pl x h' q}, ME e pl h' → kw h' → At m_X12_readsWave (rV q kw) 78 0 [some (.ref 130), some (.int (nI 1)), some (.int x)] [] h' := fun {e pl x h' q} M Z => u_X12_readsWave_78 (e_good M ⟨fun y => absurd rfl y, fun _ => Z⟩)
    have e31 : nn (wvS r 3) = w + 1 := by
      unfold wvS
      rw [ups_s, (cn.2.2.2.1.sc (by omega)).2, e3]
    refine u_X12_readsWave_29 ⟨fun y => absurd y (by decide), fun _ => s_good S.e8 ⟨fun y => absurd y (by decide), fun _ => ⟨rv (by omega), ?_⟩⟩⟩
    rw [rd S.r 1 (by omega), cn.2.1.1]
    unfold aPls at K
    rw [show wvS r 1 = r 1 from ups_n (by omega)] at K
    refine m_seen (Or.inr (Or.inl ⟨rfl, rfl⟩)) cn N S K (fun e pl x h3 M z => e_good M ⟨fun _ => e78 M z, fun y => absurd rfl y⟩) (fun a ha tk K3 => s_good S.e8 ⟨fun y => absurd y (by decide), fun _ => ?_⟩)
    rw [show wvS r (44 + a) = r (44 + a) from ups_n (by omega)] at K3
    rw [nI_add, rd S.r (44 + a) (by omega), m1_eq]
    refine ⟨vp_in_nI (by omega) (by omega), fun d => ?_, fun d => ?_⟩
    · rw [if_pos d] at K3
      refine u_X12_readsWave_78 (s_good S.e8 ⟨fun _ => ⟨rv (by omega), ?_⟩, fun y => absurd y (by decide)⟩)
      rw [nI_add, cl (by omega), rd S.r 3 (by omega), cn.2.2.2.1.1, e3]
      refine ⟨vp_in_nI (by omega) (by omega), ?_⟩
      have F : Fr WR h (si h 132 (44 + a) (nI w)) := Fr.wr h _ (WR_t (by omega))
      have S1 : MX c n (ups r (44 + a) (nI w)) nm td p (si h 132 (44 + a) (nI w)) := S.row F (by rw [si_a, S.r])
      refine S1.nx (fun h2 x2 S2 => ?_)
      have er : wvS (ups r (44 + a) (nI w)) = wpS (wvS r) a w := by
        funext j
        unfold wvS wpS
        rw [ups_n (by omega : (3 : Nat) ≠ 44 + a)]
        by_cases d1 : j = 44 + a
        · rw [d1, ups_n (by omega), ups_s, ups_s]
        · by_cases d2 : j = 3
          · rw [d2, ups_s, ups_n (by omega), ups_s]
          · rw [ups_n d2, ups_n d1, ups_n d1, ups_n d2]
      have P2 : PR (wvS (ups r (44 + a) (nI w))) := by
        rw [er]
        exact P.wp (by rw [show wvS r 1 = r 1 from ups_n (by omega)]; exact ha) (by omega)
      have r3 : ups r (44 + a) (nI w) 3 = r 3 := ups_n (by omega)
      have c2 : CNT (ups r (44 + a) (nI w)) := by
        unfold CNT
        rw [ups_n (by omega), ups_n (by omega), ups_n (by omega), ups_n (by omega), ups_n (by omega)]
        exact cn
      have N2 : ND nm (ups r (44 + a) (nI w)) := N.same (by rw [ups_n (by omega)]) (by rw [ups_n (by omega)]) (by rw [ups_n (by omega)])
      have K4 := (K3.fz (FPr F)).fz x2
      have tkl := sK_1 (tK_lt (c := c) (n := n) (p := tE c n p))
      rw [show gi h2 130 6 = _ from S2.T.1, tkl.1]
      rw [← er] at K4
      refine ⟨fun d2 => ?_, fun d2 => ?_⟩
      · rw [if_neg d2] at K4
        refine u_X12_readsWave_29 ⟨fun _ => u_X12_readsWave_122 (s_good S2.e8 ⟨fun y => absurd y (by decide), fun _ => ⟨rv (by omega), rv (by omega), u_X12_readsWave_139 ?_⟩⟩), fun y => absurd rfl y⟩
        rw [rd S2.r 3 (by omega), cl (by omega)]
        have F3 : Fr WR h2 (si h2 132 3 (ups r (44 + a) (nI w) 3 + nI 1)) := Fr.wr h2 _ (WR_t (by omega))
        have S3 : MX c n (wvS (ups r (44 + a) (nI w))) nm td _ _ := S2.row F3 (by rw [si_a, S2.r]; rfl)
        exact (K4.fz (FPr F3)).ok ⟨P2, N2.same (by rw [show wvS _ 0 = _ from ups_n (by omega)]) (by rw [show wvS _ 1 = _ from ups_n (by omega)]) (by rw [show wvS _ 2 = _ from ups_n (by omega)]), S3⟩
      · rw [if_pos d2] at K4
        refine ih _ _ _ _ (by rw [r3]; exact e3) P2 c2 N2 S2 ?_ K4
        rw [ups_n (by omega : (1 : Nat) ≠ 44 + a)]
        have : cnt (nn (r 1)) (frP (ups r (44 + a) (nI w))) < cnt (nn (r 1)) (frP r) := by
          refine cnt_lt (fun i hi z => ?_) ⟨a, ha, ?_, decide_eq_true d⟩
          · unfold frP at z ⊢
            by_cases d5 : i = a
            · rw [d5]; exact decide_eq_true d
            · rw [ups_n (by omega)] at z; exact z
          · unfold frP
            rw [ups_s]
            exact decide_eq_false (isN_nI (n := w) (Nat.le_refl _) (by omega)).nm1
        omega
    · rw [if_neg d] at K3
      exact S.wr cn (by omega) (by omega) (fun y => by omega) K3 (fun h1 M z => e78 M z)
theorem m_wav (S : MS c n s nm td p h) (hk : tK c n p = 1) (K : Km c n h kw (aBdy c n s nm td 5 p)) : MetPM m_X12_readsWave [.ref 130] h (rV q kw) := by
  obtain ⟨P, N, S0⟩ := S
  have l5 := P.x.1.2
  have l3 := P.x.2.2.1.2
  have e16 : ∀ {e pl h' q}, ME e pl h' → kw h' → At m_X12_readsWave (rV q kw) 16 0 [some (.ref 130), none, none] [] h' := fun {e pl h' q} M Z =>
    u_X12_readsWave_16 (e_good M ⟨fun _ => u_X12_readsWave_27 (u_X12_readsWave_29 ⟨fun y => absurd y (by decide), fun _ => e_good M ⟨fun _ => u_X12_readsWave_122 (e_good M ⟨fun _ => u_X12_readsWave_139 Z, fun y => absurd rfl y⟩), fun y => absurd rfl y⟩⟩), fun y => absurd rfl y⟩)
  refine t_X12_readsWave ⟨rv (by omega), ?_⟩
  rw [rd S0.r 3 (by omega), P.x.2.2.1.1, nI_eq (by omega) (by omega)]
  refine ⟨fun d => u_X12_readsWave_16 (s_good S0.e8 ⟨fun y => absurd y (by decide), fun _ => S0.nx (fun h1 x1 S1 => u_X12_readsWave_27 ?_)⟩), fun d => S0.wr P.cnt (by omega) (by omega) (fun y => by omega) (K.b1 (x := 6) (eF5.trans (if_neg (by omega))) (by decide)) (fun h1 M z => e16 M z)⟩
  have h5 : nn (s 3) < 5 := by omega
  have K0 : Km c n h kw (aWav c n s nm td (tE c n p)) := K.b0 (eF5.trans (if_pos h5))
  have cl6 : cnt (nn (s 1)) (frP s) < 6 := by
    have := cnt_le (frP s) (nn (s 1))
    omega
  exact l_mwav h5 6 s _ _ _ rfl (P.wv h5).1 P.cnt N S1 cl6 (K0.fz x1)
theorem eF6 (h6 : 6 ≤ i) : eFst s td i = if td (i - 1) = true then 4 else if i < 8 then (if nn (s 2) = 0 then 0 else 4) else 0 := by
  unfold eFst
  rw [if_neg (by omega), if_neg (by omega), if_neg (by omega), if_neg (by omega), if_neg (by omega), if_neg (by omega)]
theorem ME.t23 {x : Int32} (M : ME e pl h) : ME e pl (si h 130 23 x) := ⟨M.1, M.2.1, (gi_ok (by omega)).trans M.2.2.1, (gi_ok (by omega)).trans M.2.2.2.1, by rw [si_b (by omega)]; exact M.2.2.2.2⟩
theorem m_set (hi : i < 12) (h6 : 6 ≤ i) (S : MS c n s nm td p h) (hk : tK c n p = 1) (K : Km c n h kw (aBdy c n s nm td i p)) : MetPM m_X12_readsOnce [.ref 130, .int (nI (i - 1)), .int (nI (sLo (i - 1))), .int (nI (sHi (i - 1)))] h (rV q kw) := by
  obtain ⟨P, N, S0⟩ := S
  have l12 := P.x.2.1.2
  obtain ⟨_, _, _, b2, b3⟩ := set_ok i hi h6
  have tl := S0.tl (i - 1) (by omega) (by omega)
  -- with an error
  have e36 : ∀ {e pl h' q}, ME e pl h' → kw (si h' 130 23 ((gi h' 130 23) ||| ((nI 1) <<< (nI (i - 1) &&& 31)))) → At m_X12_readsOnce (rV q kw) 36 0 [some (.ref 130), some (.int (nI (i - 1))), some (.int (nI (sLo (i - 1)))), some (.int (nI (sHi (i - 1)))), none] [] h' := fun {e pl h' q} M Z =>
    u_X12_readsOnce_36 (e_good M.t23 ⟨fun _ => u_X12_readsOnce_59 (e_number M.t23 (fun z => e_good M.t23 ⟨fun _ => u_X12_readsOnce_82 Z, fun y => absurd rfl y⟩)), fun y => absurd rfl y⟩)
  have e31 : eFst s td i = 4 → ∀ q, At m_X12_readsOnce (rV q kw) 31 0 [some (.ref 130), some (.int (nI (i - 1))), some (.int (nI (sLo (i - 1)))), some (.int (nI (sHi (i - 1)))), none] [] h := fun e q => by
    have K1 := K.b1 (x := 4) e (by decide)
    exact u_X12_readsOnce_31 (s_wrong S0.T S0.e8 (by rw [S0.r]; exact P.cnt) (by omega) (by omega) (fun y => by omega) (fun h1 x1 M => e36 M (K1.er ((FP9 x1).trans (FPi (by omega))) M.t23)))
  have go36 : eFst s td i = 0 → ∀ q, At m_X12_readsOnce (rV q kw) 36 0 [some (.ref 130), some (.int (nI (i - 1))), some (.int (nI (sLo (i - 1)))), some (.int (nI (sHi (i - 1)))), none] [] h := fun e q => by
    have K1 : Km c n h kw (aSet c n s nm td (i - 1) (tE c n p)) := by
      have := K.b0 e
      unfold aRst at this
      rw [if_neg (by omega), if_neg (by omega), if_neg (by omega), if_neg (by omega), if_neg (by omega), if_neg (by omega)] at this
      exact this
    have x0 : Fz WP VP h (si h 130 23 ((gi h 130 23) ||| ((nI 1) <<< (nI (i - 1) &&& 31)))) := FPi (by omega)
    have S1 : MX c n s nm (updB td (i - 1)) p (si h 130 23 ((gi h 130 23) ||| ((nI 1) <<< (nI (i - 1) &&& 31)))) := by
      refine ⟨(si_b (by omega)).trans S0.r, S0.ns, ⟨S0.B.1, S0.B.2.1, (gi_ok (by omega)).trans S0.B.2.2.1, fun j hj => (gi_ob (by omega)).trans (S0.B.2.2.2 j hj)⟩, ?_, S0.pn, (gi_ok (by omega)).trans S0.e8, (gi_ok (by omega)).trans S0.e9, fun w hw hw2 => ?_⟩
      · have T := S0.T
        unfold MT at T ⊢
        rw [gi_ok (by omega), gi_ok (by omega), gi_ok (by omega), gi_ok (by omega)]
        exact T
      · rw [gi_same, b_or, bt_one (by omega) (by omega), S0.tl w hw hw2]; rfl
    refine u_X12_readsOnce_36 (s_good S1.e8 ⟨fun y => absurd y (by decide), fun _ => S1.nx (fun h1 x1 S2 => u_X12_readsOnce_59 ?_)⟩)
    refine m_num b2 b3 P.cnt S2 ((K1.fz x0).fz x1) (fun e pl x h2 M z => e_good M ⟨fun _ => u_X12_readsOnce_82 z, fun y => absurd rfl y⟩) (fun x p2 h2 l1 l2 S3 K3 => s_good S3.e8 ⟨fun y => absurd y (by decide), fun _ => ⟨rv (by omega), u_X12_readsOnce_82 ?_⟩⟩)
    rw [cl (by omega)]
    have F : Fr WR h2 (si h2 132 (i - 1) (nI x)) := Fr.wr h2 _ (WR_t (by omega))
    have S4 : MX c n (ups s (i - 1) (nI x)) nm _ _ _ := S3.row F (by rw [si_a, S3.r])
    have P2 : PR (ups s (i - 1) (nI x)) := P.set_i hi h6 l1 l2
    exact (K3.fz (FPr F)).ok ⟨P2, N.same (by rw [ups_n (by omega)]) (by rw [ups_n (by omega)]) (by rw [ups_n (by omega)]), S4⟩
  have e22 : td (i - 1) = false → i < 8 → ∀ q, At m_X12_readsOnce (rV q kw) 22 0 [some (.ref 130), some (.int (nI (i - 1))), some (.int (nI (sLo (i - 1)))), some (.int (nI (sHi (i - 1)))), none] [] h := fun e e8 q => by
    have ef : eFst s td i = if nn (s 2) = 0 then 0 else 4 := by rw [eF6 h6, if_neg (by rw [e]; decide), if_pos e8]
    refine u_X12_readsOnce_22 ⟨rv (by omega), ?_⟩
    rw [rd S0.r 2 (by omega), P.x.2.1.1]
    exact pk_le (nn (s 2)) 0 (fun y => go36 (ef.trans (if_pos (by omega))) _) (fun y => e31 (ef.trans (if_neg (by omega))) _)
  refine t_X12_readsOnce (s_hasBit (by omega) ?_)
  rw [tl]
  refine bp (fun y => ?_) (fun y => e31 (by rw [eF6 h6, if_pos y]) _)
  rw [show (nI (i - 1) = nI 5 ↔ i = 6) from (nI_eq (by omega) (by omega)).trans (by omega), show (nI (i - 1) = nI 6 ↔ i = 7) from (nI_eq (by omega) (by omega)).trans (by omega)]
  refine ⟨fun d => e22 y (by omega) _, fun d => ⟨fun d2 => go36 ?_ _, fun d2 => e22 y (by omega) _⟩⟩
  rw [eF6 h6, if_neg (by rw [y]; decide), if_neg (by omega)]
theorem kw_1 (e : kwB c n p i = true) : tK c n p = 1 := by
  unfold kwB at e
  rw [Bool.and_eq_true] at e
  exact of_decide_eq_true e.1
theorem m_stm (S : MS c n s nm td p h) (K : Km c n h kv (aStm c n s nm td p)) : MetPM m_X12_statement [.ref 130] h (rV q kv) := by
  have X := S.2.2
  have B : ∀ i, fst1 12 (kwB c n p) = i + 1 → Km c n h (fun h' => At m_X12_statement (rV q kv) 239 0 [some (.ref 130)] [] h') (aBdy c n s nm td i p) := fun i e => by
    have K2 : Km c n h kv (aSgn c n (aBdy c n s nm td i p)) := by
      have : aStm c n s nm td p = aSgn c n (aBdy c n s nm td i p) := by
        unfold aStm aBdy
        rw [e]
        show (if eFst s td i = 0 then aSgn c n (aRst c n s nm td i (tE c n p)) else .inl (eFst s td i, tS c n p)) = _
        split <;> rfl
      rw [← this]; exact K
    exact ⟨fun e pl er h2 x M => u_X12_statement_239 (e_mustSign M (K2.1 e pl (by rw [er]; rfl) h2 x M)), fun s' nm' td' p' er h2 x S2 => u_X12_statement_239 (m_sign S2.1 S2.2.1 S2.2.2 (by rw [er] at K2; exact K2.fz x))⟩
  refine t_X12_statement ?_
  refine s_isWord (i := 0) (by omega) (by decide +kernel) X.pn X.T X.e8 (bq (fun y0 => ?_) (fun y => ?_))
  rotate_left 1
  · have e : fst1 12 (kwB c n p) = 0 + 1 := fst1_yes (k := 0) y (fun j hj => absurd hj (by omega)) (by omega)
    exact m_ver S (kw_1 y) (B 0 e)
  refine s_isWord (i := 1) (by omega) (by decide +kernel) X.pn X.T X.e8 (bq (fun y1 => ?_) (fun y => ?_))
  rotate_left 1
  · have e : fst1 12 (kwB c n p) = 1 + 1 := fst1_yes (k := 1) y (fun j hj => by rw [show j = 0 by omega]; exact y0) (by omega)
    exact m_tal S (B 1 e)
  refine s_isWord (i := 2) (by omega) (by decide +kernel) X.pn X.T X.e8 (bq (fun y2 => ?_) (fun y => ?_))
  rotate_left 1
  · have e : fst1 12 (kwB c n p) = 2 + 1 := fst1_yes (k := 2) y (fun j hj => by
      rcases (by omega : j = 0 ∨ j = 1) with rfl | rfl
      · exact y0
      · exact y1) (by omega)
    exact m_pla S (kw_1 y) (B 2 e)
  refine s_isWord (i := 3) (by omega) (by decide +kernel) X.pn X.T X.e8 (bq (fun y3 => ?_) (fun y => ?_))
  rotate_left 1
  · have e : fst1 12 (kwB c n p) = 3 + 1 := fst1_yes (k := 3) y (fun j hj => by
      rcases (by omega : j = 0 ∨ j = 1 ∨ j = 2) with rfl | rfl | rfl
      · exact y0
      · exact y1
      · exact y2) (by omega)
    exact m_mem S (kw_1 y) (B 3 e)
  refine s_isWord (i := 4) (by omega) (by decide +kernel) X.pn X.T X.e8 (bq (fun y4 => ?_) (fun y => ?_))
  rotate_left 1
  · have e : fst1 12 (kwB c n p) = 4 + 1 := fst1_yes (k := 4) y (fun j hj => by
      rcases (by omega : j = 0 ∨ j = 1 ∨ j = 2 ∨ j = 3) with rfl | rfl | rfl | rfl
      · exact y0
      · exact y1
      · exact y2
      · exact y3) (by omega)
    exact m_lnk S (kw_1 y) (B 4 e)
  refine s_isWord (i := 5) (by omega) (by decide +kernel) X.pn X.T X.e8 (bq (fun y5 => ?_) (fun y => ?_))
  rotate_left 1
  · have e : fst1 12 (kwB c n p) = 5 + 1 := fst1_yes (k := 5) y (fun j hj => by
      rcases (by omega : j = 0 ∨ j = 1 ∨ j = 2 ∨ j = 3 ∨ j = 4) with rfl | rfl | rfl | rfl | rfl
      · exact y0
      · exact y1
      · exact y2
      · exact y3
      · exact y4) (by omega)
    exact m_wav S (kw_1 y) (B 5 e)
  refine s_isWord (i := 6) (by omega) (by decide +kernel) X.pn X.T X.e8 (bq (fun y6 => ?_) (fun y => ?_))
  rotate_left 1
  · have e : fst1 12 (kwB c n p) = 6 + 1 := fst1_yes (k := 6) y (fun j hj => by
      rcases (by omega : j = 0 ∨ j = 1 ∨ j = 2 ∨ j = 3 ∨ j = 4 ∨ j = 5) with rfl | rfl | rfl | rfl | rfl | rfl
      · exact y0
      · exact y1
      · exact y2
      · exact y3
      · exact y4
      · exact y5) (by omega)
    exact m_set (i := 6) (by omega) (by omega) S (kw_1 y) (B 6 e)
  refine s_isWord (i := 7) (by omega) (by decide +kernel) X.pn X.T X.e8 (bq (fun y7 => ?_) (fun y => ?_))
  rotate_left 1
  · have e : fst1 12 (kwB c n p) = 7 + 1 := fst1_yes (k := 7) y (fun j hj => by
      rcases (by omega : j = 0 ∨ j = 1 ∨ j = 2 ∨ j = 3 ∨ j = 4 ∨ j = 5 ∨ j = 6) with rfl | rfl | rfl | rfl | rfl | rfl | rfl
      · exact y0
      · exact y1
      · exact y2
      · exact y3
      · exact y4
      · exact y5
      · exact y6) (by omega)
    exact m_set (i := 7) (by omega) (by omega) S (kw_1 y) (B 7 e)
  refine s_isWord (i := 8) (by omega) (by decide +kernel) X.pn X.T X.e8 (bq (fun y8 => ?_) (fun y => ?_))
  rotate_left 1
  · have e : fst1 12 (kwB c n p) = 8 + 1 := fst1_yes (k := 8) y (fun j hj => by
      rcases (by omega : j = 0 ∨ j = 1 ∨ j = 2 ∨ j = 3 ∨ j = 4 ∨ j = 5 ∨ j = 6 ∨ j = 7) with rfl | rfl | rfl | rfl | rfl | rfl | rfl | rfl
      · exact y0
      · exact y1
      · exact y2
      · exact y3
      · exact y4
      · exact y5
      · exact y6
      · exact y7) (by omega)
    exact m_set (i := 8) (by omega) (by omega) S (kw_1 y) (B 8 e)
  refine s_isWord (i := 9) (by omega) (by decide +kernel) X.pn X.T X.e8 (bq (fun y9 => ?_) (fun y => ?_))
  rotate_left 1
  · have e : fst1 12 (kwB c n p) = 9 + 1 := fst1_yes (k := 9) y (fun j hj => by
      rcases (by omega : j = 0 ∨ j = 1 ∨ j = 2 ∨ j = 3 ∨ j = 4 ∨ j = 5 ∨ j = 6 ∨ j = 7 ∨ j = 8) with rfl | rfl | rfl | rfl | rfl | rfl | rfl | rfl | rfl
      · exact y0
      · exact y1
      · exact y2
      · exact y3
      · exact y4
      · exact y5
      · exact y6
      · exact y7
      · exact y8) (by omega)
    exact m_set (i := 9) (by omega) (by omega) S (kw_1 y) (B 9 e)
  refine s_isWord (i := 10) (by omega) (by decide +kernel) X.pn X.T X.e8 (bq (fun y10 => ?_) (fun y => ?_))
  rotate_left 1
  · have e : fst1 12 (kwB c n p) = 10 + 1 := fst1_yes (k := 10) y (fun j hj => by
      rcases (by omega : j = 0 ∨ j = 1 ∨ j = 2 ∨ j = 3 ∨ j = 4 ∨ j = 5 ∨ j = 6 ∨ j = 7 ∨ j = 8 ∨ j = 9) with rfl | rfl | rfl | rfl | rfl | rfl | rfl | rfl | rfl | rfl
      · exact y0
      · exact y1
      · exact y2
      · exact y3
      · exact y4
      · exact y5
      · exact y6
      · exact y7
      · exact y8
      · exact y9) (by omega)
    exact m_set (i := 10) (by omega) (by omega) S (kw_1 y) (B 10 e)
  refine s_isWord (i := 11) (by omega) (by decide +kernel) X.pn X.T X.e8 (bq (fun y11 => ?_) (fun y => ?_))
  rotate_left 1
  · have e : fst1 12 (kwB c n p) = 11 + 1 := fst1_yes (k := 11) y (fun j hj => by
      rcases (by omega : j = 0 ∨ j = 1 ∨ j = 2 ∨ j = 3 ∨ j = 4 ∨ j = 5 ∨ j = 6 ∨ j = 7 ∨ j = 8 ∨ j = 9 ∨ j = 10) with rfl | rfl | rfl | rfl | rfl | rfl | rfl | rfl | rfl | rfl | rfl
      · exact y0
      · exact y1
      · exact y2
      · exact y3
      · exact y4
      · exact y5
      · exact y6
      · exact y7
      · exact y8
      · exact y9
      · exact y10) (by omega)
    exact m_set (i := 11) (by omega) (by omega) S (kw_1 y) (B 11 e)
  have e : fst1 12 (kwB c n p) = 0 := fst1_no (fun j hj => by
      rcases (by omega : j = 0 ∨ j = 1 ∨ j = 2 ∨ j = 3 ∨ j = 4 ∨ j = 5 ∨ j = 6 ∨ j = 7 ∨ j = 8 ∨ j = 9 ∨ j = 10 ∨ j = 11) with rfl | rfl | rfl | rfl | rfl | rfl | rfl | rfl | rfl | rfl | rfl | rfl
      · exact y0
      · exact y1
      · exact y2
      · exact y3
      · exact y4
      · exact y5
      · exact y6
      · exact y7
      · exact y8
      · exact y9
      · exact y10
      · exact y11)
  unfold aStm at K
  rw [e] at K
  exact X.wr S.1.cnt (by omega) (by omega) (fun _ => rfl) K (fun h1 M z => u_X12_statement_239 (e_mustSign M z))
end
