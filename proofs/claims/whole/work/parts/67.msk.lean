/-! ===== the model's small readers ===== -/
section
variable {q : Nat → PH → Prop} {kk kj : Int32 → PH → Prop} {kl : Int64 → PH → Prop} {kv kw k1 : PH → Prop} {h h' : PH} {s t : RW} {C E L : Nat} {a b n m p v w e pl : Nat} {f g : FI} {nm : Nat → Int64} {c : Nat → Nat} {td : Nat → Bool}
theorem sK_1 {k : Nat} (hk : k < 7) : (nI (sK k) = nI 1 ↔ k = 1) ∧ (nI (sK k) = nI 2 ↔ k = 2) ∧ (nI (sK k) = nI 3 ↔ 3 ≤ k ∧ k ≤ 5) ∧ (nI (sK k) = nI 4 ↔ k = 6) ∧ (nI (sK k) = 0 ↔ k = 0) := (by decide +kernel : ∀ k, k < 7 → (nI (sK k) = nI 1 ↔ k = 1) ∧ (nI (sK k) = nI 2 ↔ k = 2) ∧ (nI (sK k) = nI 3 ↔ 3 ≤ k ∧ k ≤ 5) ∧ (nI (sK k) = nI 4 ↔ k = 6) ∧ (nI (sK k) = 0 ↔ k = 0)) k hk
theorem s_wrong {e : Nat} (T : MT c n p h) (e8 : gi h 130 8 = nI 0) (cn : CNT (h.1 132)) (h1 : 1 ≤ e) (h7 : e < 7) (hb : tK c n p = 6 → e = 1) (K : ∀ h', Fz W9 VT h h' → ME e (tS c n p) h' → kv h') : MetPM m_X12_wrong [.ref 130, .int (nI e)] h (rV q kv) := by
  have sk := sK_1 (tK_lt (c := c) (n := n) (p := p))
  refine t_X12_wrong ?_
  rw [e8, show gi h 130 6 = _ from T.1, sk.2.2.2.1]
  refine ⟨fun _ => ⟨fun _ => ?_, fun y => ?_⟩, fun y => absurd (by decide) y⟩
  · refine K _ ((F9i (by omega)).trans (F9i (by omega))) ⟨h1, h7, ?_, ?_, ?_⟩
    · rw [gi_ok (by omega), gi_same]
    · rw [gi_same, gi_ok (by omega)]; exact T.2.1
    · rw [si_b (by omega), si_b (by omega)]; exact cn
  · have he := hb y
    subst he
    refine K _ ((F9i (by omega)).trans (F9i (by omega))) ⟨h1, h7, ?_, ?_, ?_⟩
    · rw [gi_ok (by omega), gi_same]
    · rw [gi_same, gi_ok (by omega)]; exact T.2.1
    · rw [si_b (by omega), si_b (by omega)]; exact cn
theorem s_isWord {i : Nat} {x : Int64} (hi : i < 23) (hx : x = lN (K5 i)) (hp : p ≤ n) (T : MT c n p h) (e8 : gi h 130 8 = nI 0) (K : kk (b2i (kwB c n p i)) h) : MetPM m_X12_isWord [.ref 130, .long x] h (rI q kk) := by
  have sk := sK_1 (tK_lt (c := c) (n := n) (p := p))
  refine t_X12_isWord ?_
  rw [e8, show gi h 130 6 = _ from T.1, sk.1, lgc_0]
  unfold kwB at K
  refine ⟨fun y => absurd rfl y, fun _ => ⟨fun y => ?_, fun y => ?_⟩⟩
  · rw [decide_eq_false y, Bool.false_and] at K
    exact ⟨isB_0, K⟩
  · rw [decide_eq_true y, Bool.true_and] at K
    have N1 := tok_E hp y
    have N2 := kw_E hi
    have kb := kw_ok i hi
    have b1 : tW c n p < 2 ^ 63 := by
      have := tW_ok hp y
      exact w8_63 this.2.1 this.2.2
    have b2 : K8 i < 2 ^ 63 := w8_63 kb.2.1 (fun j hj => kb.2.2 j (by omega) hj)
    have q1 : gl h 130 12 = x ↔ tW c n p = K8 i := by
      rw [T.2.2.2.1 y, hx, ← N1.iff N2, pk_lEQ b1 b2]
    rw [q1]
    refine ⟨fun z => ?_, fun z => ?_⟩
    · rw [decide_eq_false z] at K
      exact ⟨isB_0, K⟩
    · rw [decide_eq_true z] at K
      exact ⟨isB_1, K⟩
theorem s_isSign {x k : Nat} (hx : (x = 59 ∧ k = 3) ∨ (x = 40 ∧ k = 4) ∨ (x = 41 ∧ k = 5)) (T : MT c n p h) (e8 : gi h 130 8 = nI 0) (K : kk (b2i (decide (tK c n p = k))) h) : MetPM m_X12_isSign [.ref 130, .int (nI x)] h (rI q kk) := by
  have sk := sK_1 (tK_lt (c := c) (n := n) (p := p))
  refine t_X12_isSign ?_
  rw [e8, show gi h 130 6 = _ from T.1, sk.2.2.1]
  refine ⟨fun y => absurd rfl y, fun _ => ⟨fun y => ?_, fun y => ?_⟩⟩
  · rw [decide_eq_false (by omega)] at K
    exact ⟨isB_0, K⟩
  · have q1 : gi h 130 7 = nI x ↔ tK c n p = k := by
      rcases (by omega : tK c n p = 3 ∨ tK c n p = 4 ∨ tK c n p = 5) with d | d | d
      · rw [T.2.2.2.2.2.1 d, d, nI_eq (by omega) (by omega)]; omega
      · rw [T.2.2.2.2.2.2.1 d, d, nI_eq (by omega) (by omega)]; omega
      · rw [T.2.2.2.2.2.2.2 d, d, nI_eq (by omega) (by omega)]; omega
    rw [q1]
    refine ⟨fun z => ?_, fun z => ?_⟩
    · rw [decide_eq_false z] at K
      exact ⟨isB_0, K⟩
    · rw [decide_eq_true z] at K
      exact ⟨isB_1, K⟩
theorem MX.nx (S : MX c n s nm td p h) (K : ∀ h', Fz WP VP h h' → MX c n s nm td (tE c n p) h' → kv h') : MetPM m_X12_goOn [.ref 130] h (rV q kv) := s_next S.pn S.B S.T (fun h1 x1 T1 => K h1 (FPt x1) (S.ad x1 T1 (tE_le S.pn).2))
theorem MX.wr {e : Nat} (P : CNT s) (S : MX c n s nm td p h) (h1 : 1 ≤ e) (h7 : e < 7) (hb : tK c n p = 6 → e = 1) (K : Km c n h kv (.inl (e, tS c n p))) (E0 : ∀ h', ME e (tS c n p) h' → kv h' → kw h') : MetPM m_X12_wrong [.ref 130, .int (nI e)] h (rV q kw) :=
  s_wrong S.T S.e8 (by rw [S.r]; exact P) h1 h7 hb (fun h2 x2 M => E0 h2 M (K.er (FP9 x2) M))
/-- the sign at a statement's end -/
theorem m_sign (P : PR s) (N : ND nm s) (S : MX c n s nm td p h) (K : Km c n h kv (aSgn c n (.inr (s, nm, td, p)))) : MetPM m_X12_mustSign [.ref 130, .int (nI 59)] h (rV q kv) := by
  have tk := tK_lt (c := c) (n := n) (p := p)
  unfold aSgn at K
  simp only at K
  refine t_X12_mustSign (s_good S.e8 ⟨fun y => absurd y (by decide), fun _ => s_isSign (x := 59) (k := 3) (by omega) S.T S.e8 (bp (fun y => ?_) (fun y => ?_))⟩)
  · have d := of_decide_eq_false y
    rw [if_neg d] at K
    exact S.wr P.cnt (by omega) (by omega) (fun _ => rfl) K (fun h1 M z => e_good M ⟨fun _ => z, fun y => absurd rfl y⟩)
  · have d := of_decide_eq_true y
    rw [if_pos d] at K
    exact s_good S.e8 ⟨fun y => absurd y (by decide), fun _ => S.nx (fun h1 x1 S1 => (K.fz x1).ok ⟨P, N, S1⟩)⟩
theorem inN {lo x : Nat} (hl : lo < 2000) (hx : x < 2000) : decide ((nI lo).toInt64.toInt ≤ (nI x).toInt64.toInt) = decide (lo ≤ x) := by
  rw [Int32.toInt_toInt64, Int32.toInt_toInt64]
  refine decide_eq_decide.mpr (toInt_leI.trans ⟨fun z => Nat.le_of_not_lt (fun y => nI_ge (by omega) (by omega) z), fun z => nI_le z (by omega)⟩)
theorem e_num49 {x y z : Int32} (M : ME e pl h) (K : kk z h) : At m_X12_number (rI q kk) 49 0 [some (.ref 130), some (.int x), some (.int y), some (.int z)] [] h :=
  u_X12_number_49 (e_good M ⟨fun _ => u_X12_number_60 K, fun y => absurd rfl y⟩)
theorem e_num20 {x y : Int32} (M : ME e pl h) (K : ∀ z, kk z h) : At m_X12_number (rI q kk) 20 0 [some (.ref 130), some (.int x), some (.int y), none] [] h :=
  u_X12_number_20 (e_good M ⟨fun _ => e_num49 M (K _), fun y => absurd rfl y⟩)
theorem m_num {lo hi : Nat} {F : Nat → Nat → Rs} (hlo : lo < 2000) (hhi : hi < 2000) (P : CNT s) (S : MX c n s nm td p h) (K : Km c n h kv (aNum c n lo hi p F)) (E0 : ∀ e pl x h', ME e pl h' → kv h' → kk x h')
    (E1 : ∀ x p' h', lo ≤ x → x ≤ hi → MX c n s nm td p' h' → Km c n h' kv (F x p') → kk (nI x) h') : MetPM m_X12_number [.ref 130, .int (nI lo), .int (nI hi)] h (rI q kk) := by
  have sk := sK_1 (tK_lt (c := c) (n := n) (p := p))
  unfold aNum at K
  refine t_X12_number (s_good S.e8 ⟨fun y => absurd y (by decide), fun _ => ?_⟩)
  rw [show gi h 130 6 = _ from S.T.1, sk.2.1]
  refine ⟨fun d => ?_, fun d => ?_⟩
  · rw [if_pos d] at K
    have hv := tV_lt S.pn d
    refine u_X12_number_20 (s_good S.e8 ⟨fun y => absurd y (by decide), fun _ => ?_⟩)
    rw [S.T.2.2.2.2.1 d]
    refine s_isIn ?_
    rw [inN (by omega) (by omega), inN (by omega) (by omega)]
    by_cases d2 : lo ≤ tV c n p ∧ tV c n p ≤ hi
    · rw [if_pos d2] at K
      rw [decide_eq_true d2.1, decide_eq_true d2.2]
      exact ⟨fun _ => u_X12_number_49 (s_good S.e8 ⟨fun y => absurd y (by decide), fun _ => S.nx (fun h1 x1 S1 => u_X12_number_60 (E1 _ _ _ d2.1 d2.2 S1 (K.fz x1)))⟩), fun y => absurd y (by decide)⟩
    · rw [if_neg d2] at K
      have z : (decide (lo ≤ tV c n p) && decide (tV c n p ≤ hi)) = false := by
        cases e1 : decide (lo ≤ tV c n p)
        · rfl
        · cases e2 : decide (tV c n p ≤ hi)
          · rfl
          · exact absurd ⟨of_decide_eq_true e1, of_decide_eq_true e2⟩ d2
      rw [z]
      exact ⟨fun y => absurd rfl y, fun _ => S.wr P (by omega) (by omega) (fun y => by omega) K (fun h1 M z => e_num49 M (E0 _ _ _ _ M z))⟩
  · rw [if_neg d] at K
    exact S.wr P (by omega) (by omega) (fun _ => rfl) K (fun h1 M z => e_num20 M (fun x => E0 _ _ x _ M z))
/-- one of the tables of names -/
def MN (s : RW) (o m : Nat) : Prop := (o = 0 ∧ m = nn (s 0)) ∨ (o = 8 ∧ m = nn (s 1)) ∨ (o = 13 ∧ m = nn (s 2))
theorem MN.ok {o : Nat} (B : MN s o m) (P : CNT s) (N : ND nm s) : o + m ≤ 25 ∧ ∀ i j, i < j → j < m → nm (o + i) ≠ nm (o + j) := by
  have h1 := P.1.2
  have h2 := P.2.1.2
  have h3 := P.2.2.1.2
  rcases B with ⟨rfl, rfl⟩ | ⟨rfl, rfl⟩ | ⟨rfl, rfl⟩
  · exact ⟨by omega, fun i j x y => by rw [Nat.zero_add, Nat.zero_add]; exact N.1 i j x y⟩
  · exact ⟨by omega, N.2.1⟩
  · exact ⟨by omega, N.2.2⟩
theorem MX.fs {o : Nat} (S : MX c n s nm td p h) (d : tK c n p = 1) : fst1 m (fun i => decide (gl h 137 (o + i) = gl h 130 12)) = fndT c n nm o m p := by
  rw [S.T.2.2.2.1 d]
  exact fst1_eq fun i hi => by rw [S.ns]
theorem e_seen20 {o : Nat} (M : ME e pl h) (ho : o + m ≤ 25) (K : ∀ x, kk x h) : At m_X12_seenName (rI q kk) 20 0 [some (.ref 130), some (.int (nI o)), some (.int (nI m)), none] [] h :=
  u_X12_seenName_20 (t_X12_named (l_namede ho (fun x => e_good M ⟨fun _ => u_X12_seenName_44 (K _), fun y => absurd rfl y⟩) m 0 (by omega) _))
theorem m_seen {o : Nat} {F : Nat → Rs} (B : MN s o m) (P : CNT s) (N : ND nm s) (S : MX c n s nm td p h) (K : Km c n h kv (aFnd c n nm o m p F)) (E0 : ∀ e pl x h', ME e pl h' → kv h' → kk x h')
    (E1 : ∀ a, a < m → tK c n p = 1 → Km c n h kv (F a) → kk (nI a) h) : MetPM m_X12_seenName [.ref 130, .int (nI o), .int (nI m)] h (rI q kk) := by
  have sk := sK_1 (tK_lt (c := c) (n := n) (p := p))
  obtain ⟨b1, b2⟩ := B.ok P N
  unfold aFnd at K
  refine t_X12_seenName (s_good S.e8 ⟨fun y => absurd y (by decide), fun _ => ?_⟩)
  rw [show gi h 130 6 = _ from S.T.1, sk.1]
  refine ⟨fun d => ?_, fun d => ?_⟩
  · rw [if_pos d] at K
    refine u_X12_seenName_20 (s_named b1 rfl (fun i j x y => by rw [S.ns, S.ns]; exact b2 i j x y) ?_)
    rw [S.fs d]
    have hf : fndT c n nm o m p ≤ m := fnd_le
    refine s_good S.e8 ⟨fun y => absurd y (by decide), fun _ => ?_⟩
    rw [pre1_n1 (by omega)]
    refine ⟨fun y => ?_, fun y => ?_⟩
    · rw [if_neg y] at K
      obtain ⟨j, ej⟩ : ∃ j, fndT c n nm o m p = j + 1 := ⟨fndT c n nm o m p - 1, by omega⟩
      rw [ej, Nat.add_sub_cancel] at K
      rw [ej, pre1_s]
      exact u_X12_seenName_44 (E1 j (by omega) d K)
    · rw [if_pos y] at K
      exact S.wr P (by omega) (by omega) (fun y => by omega) K (fun h1 M z => u_X12_seenName_44 (E0 _ _ _ _ M z))
  · rw [if_neg d] at K
    exact S.wr P (by omega) (by omega) (fun _ => rfl) K (fun h1 M z => e_seen20 M b1 (fun x => E0 _ _ x _ M z))
theorem m_told {o : Nat} {F : Nat → Rs} (B : MN s o m) (P : CNT s) (N : ND nm s) (S : MX c n s nm td p h) (K : Km c n h kv (aFnd c n nm o m p F)) (E0 : ∀ e pl x h', ME e pl h' → kv h' → kk x h')
    (E1 : ∀ a h', a < m → MX c n s nm td (tE c n p) h' → Km c n h' kv (F a) → kk (nI a) h') : MetPM m_X12_told [.ref 130, .int (nI o), .int (nI m)] h (rI q kk) :=
  t_X12_told (m_seen B P N S K (fun e pl x h1 M z => e_good M ⟨fun _ => E0 _ _ _ _ M z, fun y => absurd rfl y⟩) (fun a ha _ K1 => s_good S.e8 ⟨fun y => absurd y (by decide), fun _ => S.nx (fun h1 x1 S1 => E1 a h1 ha S1 (K1.fz x1))⟩))
theorem e_new11 {x y z : Int32} (M : ME e pl h) (K : kv h) : At m_X12_newName (rV q kv) 11 0 [some (.ref 130), some (.int x), some (.int y), some (.int z)] [] h :=
  u_X12_newName_11 (e_good M ⟨fun _ => u_X12_newName_22 (e_good M ⟨fun _ => u_X12_newName_42 (e_good M ⟨fun _ => u_X12_newName_64 (e_good M ⟨fun y => absurd rfl y, fun _ => K⟩), fun y => absurd rfl y⟩), fun y => absurd rfl y⟩), fun y => absurd rfl y⟩)
theorem e_new42 {x y z : Int32} (M : ME e pl h) (K : kv h) : At m_X12_newName (rV q kv) 42 0 [some (.ref 130), some (.int x), some (.int y), some (.int z)] [] h :=
  u_X12_newName_42 (e_good M ⟨fun _ => u_X12_newName_64 (e_good M ⟨fun y => absurd rfl y, fun _ => K⟩), fun y => absurd rfl y⟩)
/-- a new name, after the keyword -/
theorem m_new {o mx : Nat} (B : MN s o m) (hx : o + mx ≤ 25) (hx2 : m ≤ mx) (P : CNT s) (N : ND nm s) (S : MX c n s nm td p h) (E0 : ∀ e pl h', ME e pl h' → kv h' → kw h') (K0 : m = mx → Km c n h kv (.inl (6, tS c n p))) (hk : tK c n p = 1)
    {F : Nat → Rs} (K : ¬ m = mx → Km c n h kv (aNew c n nm o m (tE c n p) F))
    (E1 : ∀ h', ¬ m = mx → (∀ i, i < m → nm (o + i) ≠ lN (tM c n (tE c n p))) → MX c n s (upn nm (o + m) (lN (tM c n (tE c n p)))) td (tE c n (tE c n p)) h' → Km c n h' kv (F (tE c n (tE c n p))) → kw h') : MetPM m_X12_newName [.ref 130, .int (nI o), .int (nI m), .int (nI mx)] h (rV q kw) := by
  obtain ⟨b1, b2⟩ := B.ok P N
  have sk := sK_1 (tK_lt (c := c) (n := n) (p := tE c n p))
  refine t_X12_newName ?_
  rw [nI_eq (by omega) (by omega)]
  refine ⟨fun d => u_X12_newName_11 (s_good S.e8 ⟨fun y => absurd y (by decide), fun _ => S.nx (fun h1 x1 S1 => ?_)⟩), fun d => S.wr P (by omega) (by omega) (fun y => by omega) (K0 d) (fun h1 M z => e_new11 M (E0 _ _ _ M z))⟩
  have K2 := (K d).fz x1
  unfold aNew at K2
  refine u_X12_newName_22 (s_good S1.e8 ⟨fun y => absurd y (by decide), fun _ => ?_⟩)
  rw [show gi h1 130 6 = _ from S1.T.1, sk.1]
  refine ⟨fun d1 => ?_, fun d1 => ?_⟩
  · rw [if_pos d1] at K2
    refine u_X12_newName_42 (s_good S1.e8 ⟨fun y => absurd y (by decide), fun _ => s_named b1 rfl (fun i j x y => by rw [S1.ns, S1.ns]; exact b2 i j x y) ?_⟩)
    rw [S1.fs d1]
    have hf : fndT c n nm o m (tE c n p) ≤ m := fnd_le
    rw [pre1_n1 (by omega)]
    refine ⟨fun y => ?_, fun y => ?_⟩
    · rw [if_pos y] at K2
      refine u_X12_newName_64 (s_good S1.e8 ⟨fun _ => ?_, fun y => absurd y (by decide)⟩)
      rw [nI_add, cl (by omega), S1.T.2.2.2.1 d1]
      have hm : o + m < 25 := by omega
      have S2 : MX c n s (upn nm (o + m) (lN (tM c n (tE c n p)))) td (tE c n p) (sl h1 137 (o + m) (lN (tM c n (tE c n p)))) := by
        refine ⟨S1.r, fun i => ?_, S1.B, S1.T, S1.pn, S1.e8, S1.e9, S1.tl⟩
        by_cases d2 : i = o + m
        · rw [d2, gl_same, upn_s]
        · rw [gl_ok d2, upn_n d2]; exact S1.ns i
      have F2 : Fz WP VP h1 (sl h1 137 (o + m) (lN (tM c n (tE c n p)))) := Fz.sl h1 _ (Or.inr rfl)
      exact ⟨vp_in_nI (by omega) (by omega), S2.nx (fun h3 x3 S3 => E1 h3 d (fun i hi z => absurd (fst1_0 y i hi) (by
        show ¬ decide (nm (o + i) = lN (tM c n (tE c n p))) = false
        rw [decide_eq_true z]; decide)) S3 (K2.fz (F2.trans x3)))⟩
    · rw [if_neg y] at K2
      exact S1.wr P (by omega) (by omega) (fun y => by omega) K2 (fun h1 M z => u_X12_newName_64 (e_good M ⟨fun y => absurd rfl y, fun _ => E0 _ _ _ M z⟩))
  · rw [if_neg d1] at K2
    exact S1.wr P (by omega) (by omega) (fun _ => rfl) K2 (fun h1 M z => e_new42 M (E0 _ _ _ M z))
end
