/-! ===== the class reads a whole cluster ===== -/
section
variable {q : Nat → PH → Prop} {kk kj : Int32 → PH → Prop} {kl : Int64 → PH → Prop} {kv k2 : PH → Prop} {h h' : PH} {s t : RW} {C E L : Nat} {a b n m p v w : Nat} {f g : FI} {nm : Nat → Int64} {c : Nat → Nat} {td : Nat → Bool} {k1 : Nat → PH → Prop}
theorem l_at (hp : p ≤ n) (T : CT c n p h) (K0 : fst1 12 (kwB c n p) = 0 → k2 h) (K1 : ∀ i, i < 12 → fst1 12 (kwB c n p) = i + 1 → k1 (1000 + i) h) : ∀ k i, i + k = 12 → (∀ j, j < i → kwB c n p j = false) → ∀ o, At m_X9_at (rA q k1 k2) 9 0 [some (.ref 1), some (.ref 1080), some (.int (nI 12)), some (.int (nI i)), o] [] h := by
  intro k
  induction k with
  | zero =>
    intro i hi hn o
    refine u_X9_at_9 (pk_le 12 i (fun _ => ?_) (fun y => absurd y (by omega)))
    exact K0 (fst1_no (fun j hj => hn j (by omega)))
  | succ k ih =>
    intro i hi hn o
    refine u_X9_at_9 (pk_le 12 i (fun y => absurd y (by omega)) (fun _ => ⟨Or.inr (Or.inr (Or.inl ⟨rfl, rfl⟩)), vp_in_nI (N := 12) (by omega) (by omega), ?_⟩))
    rw [cl (by omega), show cel 1080 i = 1000 + i from rfl, show cfr (1000 + i) = kst i from (by decide +kernel : ∀ i, i < 12 → cfr (1000 + i) = kst i) i (by omega)]
    refine ⟨Or.inl ⟨rfl, by omega, by omega⟩, c_isWord (by omega) hp T (bq (fun y => ?_) (fun y => ?_))⟩
    · rw [nI_add]
      exact ih (i + 1) (by omega) (fun j hj => by
        by_cases d : j = i
        · rw [d]; exact y
        · exact hn j (by omega)) _
    · exact K1 i (by omega) (fst1_yes (k := i) y hn (by omega))
theorem a_at (hp : p ≤ n) (T : CT c n p h) (K0 : fst1 12 (kwB c n p) = 0 → k2 h) (K1 : ∀ i, i < 12 → fst1 12 (kwB c n p) = i + 1 → k1 (1000 + i) h) : MetPM m_X9_at [.ref 1] h (rA q k1 k2) :=
  t_X9_at ⟨Or.inr (Or.inr (Or.inl ⟨rfl, rfl⟩)), l_at hp T K0 K1 12 0 rfl (fun j hj => absurd hj (by omega)) none⟩
theorem eFst_lt {i : Nat} : eFst s td i < 7 := by
  unfold eFst
  repeat' split
  all_goals omega
theorem a_stm (S : CS c n s nm td p h) (K : Kr c n h kk (aStm c n s nm td p)) : MetPM m_X1_readStatement [.ref 4] h (rI q kk) := by
  refine t_X1_readStatement (a_at S.pn S.T (fun e => ?_) (fun i hi e => ?_))
  · unfold aStm at K
    rw [e] at K
    exact a_fail S K
  · unfold aStm at K
    rw [e] at K
    have l7 := eFst_lt (s := s) (td := td) (i := i)
    refine a_err hi S ⟨fun z => ?_, fun z => ?_⟩
    · have z0 : eFst s td i = 0 := by
        have := (nI_eq (a := eFst s td i) (b := 0) (by omega) (by omega)).mp z
        exact this
      have K2 : Kr c n h kk (aSgn c n (aRst c n s nm td i (tE c n p))) := by
        have : (if eFst s td i = 0 then aSgn c n (aRst c n s nm td i (tE c n p)) else (.inl (eFst s td i, tS c n p) : Rs)) = aSgn c n (aRst c n s nm td i (tE c n p)) := if_pos z0
        rw [← this]; exact K
      refine a_next S (fun h1 x1 S1 => a_rst hi z0 S1 ⟨fun e pl er h2 x y => ⟨fun _ => ⟨isB_0, K2.1 e pl (by rw [er]; rfl) h2 (x1.trans x) y⟩, fun z => absurd rfl z⟩, fun s' nm' td' p' er h2 x S2 => ⟨fun y => absurd y (by decide), fun _ => ?_⟩⟩)
      rw [er] at K2
      have K3 := K2.fz (x1.trans x)
      unfold aSgn at K3
      refine c_takeSign (x := 3) (by omega) S2.pn S2.B S2.T (fun d h3 x3 y3 => ⟨fun _ => ⟨isB_0, ?_⟩, fun y => absurd rfl y⟩) (fun d h3 x3 T3 => ⟨fun y => absurd y (by decide), fun _ => ⟨isB_1, ?_⟩⟩)
      · simp only [if_neg d] at K3
        exact K3.er (F2b x3) y3
      · simp only [if_pos d] at K3
        exact (K3.fz (F2b (FA_B x3))).ok (S2.ad x3 T3 (tE_le S2.pn).2)
    · have K2 : Kr c n h kk (.inl (eFst s td i, tS c n p)) := by
        have : (if eFst s td i = 0 then aSgn c n (aRst c n s nm td i (tE c n p)) else (.inl (eFst s td i, tS c n p) : Rs)) = .inl (eFst s td i, tS c n p) := if_neg (fun y => z (by rw [y]; rfl))
        rw [← this]; exact K
      exact a_fail S K2
theorem l_all : ∀ k i s nm td p h, i + k = 900 → CS c n s nm td p h → Kr c n h kk (aAll c n k s nm td p) → At m_X1_readAll (rI q kk) 28 0 [some (.ref 4), some (.int (nI i))] [] h := by
  intro k
  induction k with
  | zero =>
    intro i s nm td p h hi S K
    refine u_X1_readAll_28 (pk_le 900 i (fun _ => ⟨isB_1, K.ok S⟩) (fun y => absurd y (by omega)))
  | succ k ih =>
    intro i s nm td p h hi S K
    have tk := tK_lt (c := c) (n := n) (p := p)
    refine u_X1_readAll_28 (pk_le 900 i (fun y => absurd y (by omega)) (fun _ => ?_))
    rw [show gi h 1 4 = _ from S.T.1]
    unfold aAll at K
    refine ⟨fun d => ?_, fun d => ?_⟩
    · rw [if_pos ((nI_eq (a := tK c n p) (b := 0) (by omega) (by omega)).mp d)] at K
      exact ⟨isB_1, K.ok S⟩
    · rw [if_neg (fun y => d (by rw [y]; rfl))] at K
      refine a_stm S ⟨fun e pl er h2 x y => ⟨fun z => absurd rfl z, fun _ => ⟨isB_0, ?_⟩⟩, fun s' nm' td' p' er h2 x S2 => ⟨fun _ => ?_, fun z => absurd z (by decide)⟩⟩
      · rw [er] at K
        exact K.er x y
      · rw [er] at K
        rw [nI_add]
        exact ih (i + 1) _ _ _ _ _ (by omega) S2 (K.fz x)
theorem a_all (B : CB c n h) (hring : ∃ w, w < 30 ∧ gi h 79 2 = nI w) (nm : Nat → Int64) (K : Kr c n h kk (aAll c n 900 (clrS s) nm (fun _ => false) 0)) : MetPM m_X1_readAll [.ref 4] h (rI q kk) := by
  refine t_X1_readAll (c_resets (s := s) (kv := fun h2 => MetPM m_X10_begin [.ref 1] h2 (rV (hnd (rI q kk) (At m_X1_readAll (rI q kk)) 0 [some (.ref 4), none] []) (fun h3 => At m_X1_readAll (rI q kk) 28 0 [some (.ref 4), some (.int (nI 0))] [] h3))) hring ?_)
  intro h1 x1 e4 D1
  have y1 : Fz WS2 VS2 h h1 := x1.mono (fun b k y => by unfold WDr at y; unfold WS2 WD; omega) (fun b y => Or.inl y)
  refine c_begin (B.fz x1 (by unfold WDr; omega) (fun k => by unfold WDr; omega)) (fun h2 x2 e2 e3 T2 => ?_)
  have B2 : CB c n h2 := (B.fz x1 (by unfold WDr; omega) (fun k => by unfold WDr; omega)).fb x2
  refine l_all 900 0 _ _ _ _ _ (by omega) ⟨PR.clr, (D1 nm).fb x2, B2, T2, Nat.zero_le _, ?_, e2, e3⟩ (K.fz (y1.trans (F2b x2)))
  rw [x2.1 4 3 (by unfold WB; omega), e4]
  exact (mk_0 fun _ _ => rfl).symm
end

