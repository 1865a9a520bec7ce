/-! ===== the model reads a command ===== -/
section
variable {q : Nat → PH → Prop} {kk kj : Int32 → PH → Prop} {kl : Int64 → PH → Prop} {kv kw k1 : PH → Prop} {h h' h0 : PH} {s t g : RW} {a b n m p p1 v w e pl j x y i k : Nat} {nm : Nat → Int64} {c : Nat → Nat} {td : Nat → Bool} {v2 : Int32} {J : RW → (Nat → Int64) → (Nat → Bool) → Nat → PH → Prop} {r : Rs}
def JM (c : Nat → Nat) (n : Nat) (s : RW) (nm : Nat → Int64) (td : Nat → Bool) : RW → (Nat → Int64) → (Nat → Bool) → Nat → PH → Prop := fun g _ _ p h => WFg g ∧ PGm g h ∧ MX c n s nm td p h
/-- what comes to hold also behind writes in the error state -/
def KW (kw : PH → Prop) (h : PH) : Prop := (∀ e pl, ME e pl h → EK e pl kw h) ∧ ((∀ e pl, ¬ ME e pl h) → kw h)
theorem MX.me (S : MX c n s nm td p h) : ∀ e pl, ¬ ME e pl h := fun e pl M => M.ne S.e8
theorem Ks.ek (hJ : ∀ g nm td p h, J g nm td p h → ∀ e pl, ¬ ME e pl h) (K : Ks J h kw r) : Ks J h (KW kw) r := by
  refine ⟨fun e pl er h1 x1 M1 => ⟨fun e2 pl2 M2 h2 x2 M3 => ?_, fun z => absurd M1 (z e pl)⟩, fun g nm td p er h1 x1 j1 => ⟨fun e2 pl2 M2 => absurd M2 (hJ _ _ _ _ _ j1 e2 pl2), fun _ => K.2 g nm td p er h1 x1 j1⟩⟩
  have e8 : nI e2 = nI e := M2.2.2.1.symm.trans M1.2.2.1
  have e9 : nI pl2 = nI pl := M2.2.2.2.1.symm.trans M1.2.2.2.1
  exact K.1 e pl er h2 (x1.trans x2) ⟨M1.1, M1.2.1, M3.2.2.1.trans e8, M3.2.2.2.1.trans e9, M3.2.2.2.2⟩
theorem Ks.un (hJ : ∀ g nm td p h, J g nm td p h → ∀ e pl, ¬ ME e pl h) (K : Ks J h (KW kw) r) : Ks J h kw r :=
  ⟨fun e pl er h1 x1 M1 => (K.1 e pl er h1 x1 M1).1 e pl M1 h1 (Fz.refl _ _ _) M1, fun g nm td p er h1 x1 j1 => (K.2 g nm td p er h1 x1 j1).2 (hJ _ _ _ _ _ j1)⟩
theorem JM_n : ∀ (g : RW) (nm' : Nat → Int64) (td' : Nat → Bool) (p : Nat) (h : PH), JM c n s nm td g nm' td' p h → ∀ e pl, ¬ ME e pl h := fun _ _ _ _ _ j => j.2.2.me
/-- the program's cells -/
def WN (b k : Nat) : Prop := (b = 130 ∧ 33 ≤ k ∧ k ≤ 36) ∨ (141 ≤ b ∧ b ≤ 143)
theorem MX.zz (S : MX c n s nm td p h) (x : Fz WN (fun _ => False) h h') : MX c n s nm td p h' := by
  refine ⟨(x.cell (fun k => by unfold WN; omega)).trans S.r, fun i => ?_, S.B.fz x (by unfold WN; omega) (fun k => by unfold WN; omega), ?_, S.pn, (x.1 130 8 (by unfold WN; omega)).trans S.e8, (x.1 130 9 (by unfold WN; omega)).trans S.e9, by rw [x.1 130 23 (by unfold WN; omega)]; exact S.tl⟩
  · rw [← S.ns i]
    show h'.2.1 137 i = h.2.1 137 i
    rw [x.2.1 137 (fun y => y)]
  · have T := S.T
    have g12 : gl h' 130 12 = gl h 130 12 := by
      show h'.2.1 130 12 = h.2.1 130 12
      rw [x.2.1 130 (fun y => y)]
    unfold MT at T ⊢
    rw [x.1 130 6 (by unfold WN; omega), x.1 130 5 (by unfold WN; omega), x.1 130 4 (by unfold WN; omega), x.1 130 7 (by unfold WN; omega), g12]
    exact T
theorem FNi {x : Int32} (hk : 33 ≤ k ∧ k ≤ 36) : Fz WN (fun _ => False) h (si h 130 k x) := Fz.si h x (Or.inl ⟨rfl, hk⟩)
theorem FNa {x : Int32} (hb : 141 ≤ b ∧ b ≤ 143) : Fz WN (fun _ => False) h (si h b k x) := Fz.si h x (Or.inr hb)
/-- what reading the arguments of the item M may change -/
def WQm (M b k : Nat) : Prop := (b = 130 ∧ ((4 ≤ k ∧ k ≤ 9) ∨ k = 34)) ∨ (141 ≤ b ∧ b ≤ 143 ∧ k = M)
def MA (c : Nat → Nat) (n : Nat) (s : RW) (nm : Nat → Int64) (td : Nat → Bool) (g : RW) (j : Nat) (h0 : PH) (p : Nat) (h : PH) : Prop := MX c n s nm td p h ∧ Fz (WQm (pM g)) VT h0 h ∧ gi h 130 34 = nI (pC g + 1) ∧ gi h 141 (pM g) = nI j
theorem MA.tk {p' : Nat} (A : MA c n s nm td g j h0 p h) (x : Fz WT VT h h') (S : MX c n s nm td p' h') : MA c n s nm td g j h0 p' h' :=
  ⟨S, A.2.1.trans (x.mono (fun b k y => by unfold WT at y; unfold WQm; omega) (fun b y => y)), (x.1 130 34 (by unfold WT; omega)).trans A.2.2.1, (x.1 141 _ (by unfold WT; omega)).trans A.2.2.2⟩
theorem MA.wr {x : Int32} (A : MA c n s nm td g j h0 p h) (hb : b = 142 ∨ b = 143) : MA c n s nm td g j h0 p (si h b (pM g) x) :=
  ⟨A.1.zz (FNa (by omega)), A.2.1.trans (Fz.si h x (Or.inr ⟨by omega, by omega, rfl⟩)), (gi_ob (by omega)).trans A.2.2.1, (gi_ob (by omega)).trans A.2.2.2⟩
theorem m_s107 (hj : j < 10) (d : ¬ j = 1) (T : At m_X12_command (rV q kv) 122 0 [some (.ref 130), some (.int (nI j)), some (.int v2)] [] h) : At m_X12_command (rV q kv) 107 0 [some (.ref 130), some (.int (nI j)), some (.int v2)] [] h :=
  u_X12_command_107 ⟨fun _ => T, fun y => absurd ((nI_eq (a := j) (b := 1) (by omega) (by omega)).mp y) d⟩
theorem m_s122 (hj : j < 10) (d : ¬ (4 ≤ j ∧ j ≤ 7)) (T : At m_X12_command (rV q kv) 143 0 [some (.ref 130), some (.int (nI j)), some (.int v2)] [] h) : At m_X12_command (rV q kv) 122 0 [some (.ref 130), some (.int (nI j)), some (.int v2)] [] h :=
  u_X12_command_122 (pk_lt j 4 (fun _ => T) (fun d1 => pk_lt 7 j (fun _ => T) (fun d2 => absurd ⟨d1, d2⟩ d)))
theorem m_s143 (hj : j < 10) (d : ¬ j = 6) (T : At m_X12_command (rV q kv) 163 0 [some (.ref 130), some (.int (nI j)), some (.int v2)] [] h) : At m_X12_command (rV q kv) 143 0 [some (.ref 130), some (.int (nI j)), some (.int v2)] [] h :=
  u_X12_command_143 ⟨fun _ => T, fun y => absurd ((nI_eq (a := j) (b := 6) (by omega) (by omega)).mp y) d⟩
theorem m_s163 (hj : j < 10) (d : ¬ j = 7) (T : At m_X12_command (rV q kv) 179 0 [some (.ref 130), some (.int (nI j)), some (.int v2)] [] h) : At m_X12_command (rV q kv) 163 0 [some (.ref 130), some (.int (nI j)), some (.int v2)] [] h :=
  u_X12_command_163 ⟨fun _ => T, fun y => absurd ((nI_eq (a := j) (b := 7) (by omega) (by omega)).mp y) d⟩
theorem m_s179 (hj : j < 10) (d : ¬ j = 9) (T : At m_X12_command (rV q kv) 198 0 [some (.ref 130), some (.int (nI j)), some (.int v2)] [] h) : At m_X12_command (rV q kv) 179 0 [some (.ref 130), some (.int (nI j)), some (.int v2)] [] h :=
  u_X12_command_179 ⟨fun _ => T, fun y => absurd ((nI_eq (a := j) (b := 9) (by omega) (by omega)).mp y) d⟩
theorem m_210 (hj : j < 10) (W : WFg g) (G : PGm g h0) (A : MA c n s nm td g j h0 p h) (iX : j ≠ 2 → j ≠ 3 → gi h 142 (pM g) = nI x) (iY : j = 6 ∨ j = 7 → gi h 143 (pM g) = nI y)
    (K : ∀ h', Fz WSc VSc h h' → MX c n s nm td p h' → PGm (aPut g j x y) h' → gi h' 130 35 = nI (if j = 9 then pD g + 1 else pD g) → kv h') : At m_X12_command (rV q kv) 210 0 [some (.ref 130), some (.int (nI j)), some (.int v2)] [] h := by
  obtain ⟨S, F, e34, e141⟩ := A
  have e33 : gi h 130 33 = nI (pM g) := (F.1 130 33 (by unfold WQm; omega)).trans G.1
  have e35 : gi h 130 35 = nI (pD g) := (F.1 130 35 (by unfold WQm; omega)).trans G.2.2.1
  have fin : ∀ d : Nat, d = (if j = 9 then 1 else 0) → kv (si (si h 130 33 (gi h 130 33 + nI 1)) 130 35 (gi (si h 130 33 (gi h 130 33 + nI 1)) 130 35 + nI d)) := fun d hd => by
    have F2 : Fz WN (fun _ => False) h (si (si h 130 33 (gi h 130 33 + nI 1)) 130 35 (gi (si h 130 33 (gi h 130 33 + nI 1)) 130 35 + nI d)) := (FNi (by omega)).trans (FNi (by omega))
    have F3 : Fz WSc VSc h (si (si h 130 33 (gi h 130 33 + nI 1)) 130 35 (gi (si h 130 33 (gi h 130 33 + nI 1)) 130 35 + nI d)) := (FSi (by omega)).trans (FSi (by omega))
    have a33 : gi (si (si h 130 33 (gi h 130 33 + nI 1)) 130 35 (gi (si h 130 33 (gi h 130 33 + nI 1)) 130 35 + nI d)) 130 33 = nI (pM g + 1) := by rw [gi_ok (by omega), gi_same, e33, nI_add]
    have a35 : gi (si (si h 130 33 (gi h 130 33 + nI 1)) 130 35 (gi (si h 130 33 (gi h 130 33 + nI 1)) 130 35 + nI d)) 130 35 = nI (if j = 9 then pD g + 1 else pD g) := by
      rw [gi_same, gi_ok (by omega), e35, nI_add, hd]
      congr 1
      split <;> rfl
    have a34 : gi (si (si h 130 33 (gi h 130 33 + nI 1)) 130 35 (gi (si h 130 33 (gi h 130 33 + nI 1)) 130 35 + nI d)) 130 34 = nI (pC g + 1) := by rw [gi_ok (by omega), gi_ok (by omega)]; exact e34
    have ao : ∀ b k, b ≠ 130 → gi (si (si h 130 33 (gi h 130 33 + nI 1)) 130 35 (gi (si h 130 33 (gi h 130 33 + nI 1)) 130 35 + nI d)) b k = gi h b k := fun b k hb => by rw [gi_ob hb, gi_ob hb]
    refine K _ F3 (S.zz F2) (G.put W hj a33 a34 a35 (fun b k h1 h2 hk => ?_) ?_ (fun z1 z2 => ?_) (fun z => ?_)) a35
    · rw [ao b k (by omega)]; exact F.1 b k (by unfold WQm; omega)
    · rw [ao 141 _ (by omega)]; exact e141
    · rw [ao 142 _ (by omega)]; exact iX z1 z2
    · rw [ao 143 _ (by omega)]; exact iY z
  refine u_X12_command_210 (s_good S.e8 ⟨fun _ => ⟨fun d => s_truth0 (fin 0 ?_), fun d => s_truth1 (fin 1 ?_)⟩, fun y => absurd y (by decide)⟩)
  · rw [if_neg (fun z => d (by rw [z]))]
  · rw [if_pos ((nI_eq (a := j) (b := 9) (by omega) (by omega)).mp d)]
/-- what a command's arguments come to -/
def FFm (c : Nat → Nat) (n : Nat) (g : RW) (nm : Nat → Int64) (td : Nat → Bool) (j x y p1 : Nat) : Rs := if tK c n p1 = (if j = 9 then 4 else 3) then .inr (aPut g j x y, nm, td, tE c n p1) else .inl (1, tS c n p1)
theorem m_198 (hj : j < 10) (hC : pC g < 30) (hD : j = 9 → pD g < 2) (W : WFg g) (G : PGm g h0) (P : CNT s) (A : MA c n s nm td g j h0 p h) (iX : j ≠ 2 → j ≠ 3 → gi h 142 (pM g) = nI x) (iY : j = 6 ∨ j = 7 → gi h 143 (pM g) = nI y)
    (K : Ks (JM c n s nm td) h kw (FFm c n g nm td j x y p)) (E0 : ∀ e pl h', ME e pl h' → kw h' → kv h') (E1 : j = 9 → ∀ h', gi h' 130 35 = nI (pD g + 1) → kw h' → kv h')
    (E2 : j ≠ 9 → ∀ h', MX c n s nm td p h' → WFg (aPut g j x y) → PGm (aPut g j x y) h' → gi h' 130 35 = nI (pD g) → Ks (JM c n s nm td) h' kw (if tK c n p = 3 then .inr (aPut g j x y, nm, td, tE c n p) else .inl (1, tS c n p)) → kv h') : At m_X12_command (rV q kv) 198 0 [some (.ref 130), some (.int (nI j)), some (.int (nI i))] [] h := by
  unfold FFm at K
  by_cases d : j = 9
  · rw [if_pos d] at K
    refine u_X12_command_198 ⟨fun z => absurd (by rw [d]) z, fun _ => ?_⟩
    refine z_sign (x := 40) (k := 4) (F := fun p2 => .inr (aPut g j x y, nm, td, p2)) (Or.inr ⟨rfl, rfl⟩) P A.1 (K.ek JM_n) (fun e pl h1 M1 z => e_c210 M1 (fun h2 x2 M2 => E0 e pl h2 M2 (z.1 e pl M1 h2 x2 M2))) (fun h1 x1 S1 K1 => ?_)
    have A1 := A.tk x1 S1
    refine m_210 hj W G A1 (fun z1 z2 => (x1.1 142 _ (by unfold WT; omega)).trans (iX z1 z2)) (fun z => (x1.1 143 _ (by unfold WT; omega)).trans (iY z)) (fun h2 x2 S2 G2 e2 => ?_)
    rw [if_pos d] at e2
    exact E1 d h2 e2 (((K1.fz x2).un JM_n).ok ⟨W.put hj hC hD, G2, S2⟩)
  · rw [if_neg d] at K
    refine u_X12_command_198 ⟨fun _ => ?_, fun z => absurd ((nI_eq (a := j) (b := 9) (by omega) (by omega)).mp z) d⟩
    refine m_210 hj W G A iX iY (fun h2 x2 S2 G2 e2 => ?_)
    rw [if_neg d] at e2
    exact E2 d h2 S2 (W.put hj hC hD) G2 e2 (K.fz x2)
theorem z_ver {F : Nat → Rs} (P : CNT s) (N : ND nm s) (S : MX c n s nm td p h) (K : Ks J h kv (aFnd c n nm 0 (nn (s 0)) p F)) (E0 : ∀ e pl x h', ME e pl h' → kv h' → kk x h')
    (E1 : ∀ a h', a < nn (s 0) → Fz WT VT h h' → MX c n s nm td (tE c n p) h' → Ks J h' kv (F a) → kk (nI a) h') : MetPM m_X12_toldVersion [.ref 130] h (rI q kk) := by
  refine t_X12_toldVersion ⟨rv (by omega), ?_⟩
  rw [show gi h 132 (nI 0).toNatClampNeg = nI (nn (s 0)) from (congrFun S.r 0).trans P.1.1]
  exact z_told (Or.inl ⟨rfl, rfl⟩) P N S K E0 E1
theorem z_mem {F : Nat → Rs} (P : CNT s) (N : ND nm s) (S : MX c n s nm td p h) (K : Ks J h kv (aFnd c n nm 13 (nn (s 2)) p F)) (E0 : ∀ e pl x h', ME e pl h' → kv h' → kk x h')
    (E1 : ∀ a h', a < nn (s 2) → Fz WT VT h h' → MX c n s nm td (tE c n p) h' → Ks J h' kv (F a) → kk (nI a) h') : MetPM m_X12_toldMember [.ref 130] h (rI q kk) := by
  refine t_X12_toldMember ⟨rv (by omega), ?_⟩
  rw [show gi h 132 (nI 2).toNatClampNeg = nI (nn (s 2)) from (congrFun S.r 2).trans P.2.2.1.1]
  exact z_told (Or.inr (Or.inr ⟨rfl, rfl⟩)) P N S K E0 E1
/-- the arguments: from the place behind the keyword on -/
theorem m_arg (hj : j < 10) (hM : pM g < 60) (P : CNT s) (N : ND nm s) (A : MA c n s nm td g j h0 p h) (K : Ks (JM c n s nm td) h kw (aArg c n s nm j p (FFm c n g nm td j))) (E0 : ∀ e pl h', ME e pl h' → kw h' → kv h')
    (E1 : ∀ x y p1 h', MA c n s nm td g j h0 p1 h' → (j ≠ 2 → j ≠ 3 → gi h' 142 (pM g) = nI x) → (j = 6 ∨ j = 7 → gi h' 143 (pM g) = nI y) → Ks (JM c n s nm td) h' kw (FFm c n g nm td j x y p1) → At m_X12_command (rV q kv) 198 0 [some (.ref 130), some (.int (nI j)), some (.int (nI (pM g)))] [] h') :
    (j = 0 ∨ j = 8 → At m_X12_command (rV q kv) 93 0 [some (.ref 130), some (.int (nI j)), some (.int (nI (pM g)))] [] h) ∧ (¬ (j = 0 ∨ j = 8) → At m_X12_command (rV q kv) 107 0 [some (.ref 130), some (.int (nI j)), some (.int (nI (pM g)))] [] h) := by
  have vi : vp_in (nI (pM g)) 60 := vp_in_nI (by omega) (by omega)
  have eE : ∀ (b : Nat) (x : Int32) e pl h1, (b = 142 ∨ b = 143) → ME e pl h1 → KW kw h1 → ME e pl (si h1 b (pM g) x) ∧ EK e pl kv (si h1 b (pM g) x) := fun b x e pl h1 hb M1 z => ⟨M1.arr (by omega), EK.arr (fun h2 x2 M2 => E0 e pl h2 M2 (z.1 e pl M1 h2 x2 M2)) (by omega)⟩
  unfold aArg at K
  refine ⟨fun d1 => ?_, fun d1 => ?_⟩
  · rw [if_pos d1] at K
    refine u_X12_command_93 (z_num (by omega) (by omega) P A.1 (K.ek JM_n) (fun e pl x h1 M1 z => ⟨vi, ?_⟩) (fun x p1 h1 _ _ x1 S1 K1 => ⟨vi, ?_⟩))
    · rw [cl (by omega)]
      have y := eE 142 x e pl h1 (by omega) M1 z
      exact e_c107 hM y.1 y.2
    · rw [cl (by omega)]
      exact m_s107 hj (by omega) (m_s122 hj (by omega) (m_s143 hj (by omega) (m_s163 hj (by omega) (m_s179 hj (by omega) (E1 x 0 p1 _ ((A.tk x1 S1).wr (by omega)) (fun _ _ => gi_same) (fun z => by omega) ((K1.un JM_n).fz (FSa (by omega))))))))
  rw [if_neg d1] at K
  by_cases d2 : j = 1
  · rw [if_pos d2] at K
    refine u_X12_command_107 ⟨fun y => absurd (by rw [d2]) y, fun _ => z_ver P N A.1 (K.ek JM_n) (fun e pl x h1 M1 z => ⟨vi, ?_⟩) (fun a h1 _ x1 S1 K1 => ⟨vi, ?_⟩)⟩
    · rw [cl (by omega)]
      have y := eE 142 x e pl h1 (by omega) M1 z
      exact e_c122 hM y.1 y.2
    · rw [cl (by omega)]
      exact m_s122 hj (by omega) (m_s143 hj (by omega) (m_s163 hj (by omega) (m_s179 hj (by omega) (E1 a 0 _ _ ((A.tk x1 S1).wr (by omega)) (fun _ _ => gi_same) (fun z => by omega) ((K1.un JM_n).fz (FSa (by omega)))))))
  rw [if_neg d2] at K
  refine m_s107 hj d2 ?_
  by_cases d3 : j < 4
  · rw [if_pos d3] at K
    exact m_s122 hj (by omega) (m_s143 hj (by omega) (m_s163 hj (by omega) (m_s179 hj (by omega) (E1 0 0 _ _ A (fun z1 z2 => by omega) (fun z => by omega) K))))
  rw [if_neg d3] at K
  have mem : ∀ F : Nat → Rs, Ks (JM c n s nm td) h kw (aFnd c n nm 13 (nn (s 2)) p F) → 4 ≤ j ∧ j ≤ 7 → (∀ a h', MA c n s nm td g j h0 (tE c n p) h' → gi h' 142 (pM g) = nI a → Ks (JM c n s nm td) h' kw (F a) → At m_X12_command (rV q kv) 143 0 [some (.ref 130), some (.int (nI j)), some (.int (nI (pM g)))] [] h') → At m_X12_command (rV q kv) 122 0 [some (.ref 130), some (.int (nI j)), some (.int (nI (pM g)))] [] h := fun F K2 hj2 Z => by
    refine u_X12_command_122 (pk_lt j 4 (fun y => absurd y (by omega)) (fun _ => pk_lt 7 j (fun y => absurd y (by omega)) (fun _ => ?_)))
    refine z_mem P N A.1 (K2.ek JM_n) (fun e pl x h1 M1 z => ⟨vi, ?_⟩) (fun a h1 _ x1 S1 K1 => ⟨vi, ?_⟩)
    · rw [cl (by omega)]
      have y := eE 142 x e pl h1 (by omega) M1 z
      exact e_c143 hM y.1 y.2
    · rw [cl (by omega)]
      exact Z a _ ((A.tk x1 S1).wr (by omega)) gi_same ((K1.un JM_n).fz (FSa (by omega)))
  by_cases d4 : j < 6
  · rw [if_pos d4] at K
    exact mem _ K (by omega) (fun a h1 A1 g1 K1 => m_s143 hj (by omega) (m_s163 hj (by omega) (m_s179 hj (by omega) (E1 a 0 _ _ A1 (fun _ _ => g1) (fun z => by omega) K1))))
  rw [if_neg d4] at K
  by_cases d5 : j = 6
  · rw [if_pos d5] at K
    refine mem _ K (by omega) (fun a h1 A1 g1 K1 => u_X12_command_143 ⟨fun y => absurd (by rw [d5]) y, fun _ => z_num (by omega) (by omega) P A1.1 (K1.ek JM_n) (fun e pl x h2 M2 z => ⟨vi, ?_⟩) (fun y p1 h2 _ _ x2 S2 K2 => ⟨vi, ?_⟩)⟩)
    · rw [cl (by omega)]
      have y := eE 143 x e pl h2 (by omega) M2 z
      exact e_c163 hM y.1 y.2
    · rw [cl (by omega)]
      exact m_s163 hj (by omega) (m_s179 hj (by omega) (E1 a y p1 _ ((A1.tk x2 S2).wr (by omega)) (fun _ _ => (gi_ob (by omega)).trans ((x2.1 142 _ (by unfold WT; omega)).trans g1)) (fun _ => gi_same) ((K2.un JM_n).fz (FSa (by omega)))))
  rw [if_neg d5] at K
  by_cases d6 : j = 7
  · rw [if_pos d6] at K
    refine mem _ K (by omega) (fun a h1 A1 g1 K1 => m_s143 hj (by omega) (u_X12_command_163 ⟨fun y => absurd (by rw [d6]) y, fun _ => z_ver P N A1.1 (K1.ek JM_n) (fun e pl x h2 M2 z => ⟨vi, ?_⟩) (fun v h2 _ x2 S2 K2 => ⟨vi, ?_⟩)⟩))
    · rw [cl (by omega)]
      have y := eE 143 x e pl h2 (by omega) M2 z
      exact e_c179 hM y.1 y.2
    · rw [cl (by omega)]
      exact m_s179 hj (by omega) (E1 a v _ _ ((A1.tk x2 S2).wr (by omega)) (fun _ _ => (gi_ob (by omega)).trans ((x2.1 142 _ (by unfold WT; omega)).trans g1)) (fun _ => gi_same) ((K2.un JM_n).fz (FSa (by omega))))
  rw [if_neg d6] at K
  have d9 : j = 9 := by omega
  refine m_s122 hj (by omega) (m_s143 hj (by omega) (m_s163 hj (by omega) (u_X12_command_179 ⟨fun y => absurd (by rw [d9]) y, fun _ => z_num (by omega) (by omega) P A.1 (K.ek JM_n) (fun e pl x h1 M1 z => ⟨vi, ?_⟩) (fun x p1 h1 _ _ x1 S1 K1 => ⟨vi, ?_⟩)⟩)))
  · rw [cl (by omega)]
    have y := eE 142 x e pl h1 (by omega) M1 z
    exact e_c198 y.1 y.2
  · rw [cl (by omega)]
    exact E1 x 0 p1 _ ((A.tk x1 S1).wr (by omega)) (fun _ _ => gi_same) (fun z => by omega) ((K1.un JM_n).fz (FSa (by omega)))
theorem m_cmd (W : WFg g) (G : PGm g h) (P : CNT s) (N : ND nm s) (S : MX c n s nm td p h) (K : Ks (JM c n s nm td) h kw (aCmd c n s nm td g p)) (E0 : ∀ e pl h', ME e pl h' → kw h' → kv h') (E1 : ∀ h', gi h' 130 35 = nI (pD g + 1) → kw h' → kv h')
    (E2 : ∀ j x y p1 h', j < 9 → MX c n s nm td p1 h' → WFg (aPut g j x y) → PGm (aPut g j x y) h' → gi h' 130 35 = nI (pD g) → Ks (JM c n s nm td) h' kw (if tK c n p1 = 3 then .inr (aPut g j x y, nm, td, tE c n p1) else .inl (1, tS c n p1)) → kv h') : MetPM m_X12_command [.ref 130] h (rV q kv) := by
  obtain ⟨⟨w1, w2, w3⟩, w4, w5, w6, w7, w8⟩ := W
  have W : WFg g := ⟨⟨w1, w2, w3⟩, w4, w5, w6, w7, w8⟩
  obtain ⟨g1, g2, g3, g4⟩ := G
  have G : PGm g h := ⟨g1, g2, g3, g4⟩
  have er : ∀ e pl h1, ME e pl h1 → KW kw h1 → EK e pl kv h1 := fun e pl h1 M1 z h2 x2 M2 => E0 e pl h2 M2 (z.1 e pl M1 h2 x2 M2)
  unfold aCmd at K
  refine t_X12_command (s_commandHere S.pn S.T S.e8 ?_)
  cases ef : fst1 10 (kwC c n p) with
  | zero =>
    rw [ef] at K
    refine ⟨fun y => absurd rfl y, fun _ => S.wz P (by omega) (by omega) (fun _ => rfl) (K.ek JM_n) (fun h1 M1 z => e_c15 M1 (er _ _ _ M1 z))⟩
  | succ j =>
    rw [ef] at K
    have K : Ks (JM c n s nm td) h kw (if j = 9 ∧ pD g = 2 then .inl (4, tS c n p) else if pC g = 30 then .inl (6, tS c n p) else aArg c n s nm j (tE c n p) (FFm c n g nm td j)) := K
    have hd := fst1_in ef
    have hj : j < 10 := hd.1
    have tk1 : tK c n p = 1 := kw_1 hd.2
    rw [pre1_s]
    refine ⟨fun _ => ?_, fun y => absurd y (nIm (by omega))⟩
    by_cases d1 : j = 9 ∧ pD g = 2
    · rw [if_pos d1] at K
      refine u_X12_command_15 ⟨fun y => absurd (by rw [d1.1]) y, fun _ => ⟨fun y => absurd (by rw [g3, d1.2]) y, fun _ => S.wz P (by omega) (by omega) (fun y => by omega) (K.ek JM_n) (fun h1 M1 z => e_c34 M1 (er _ _ _ M1 z))⟩⟩
    · rw [if_neg d1] at K
      have a34 : At m_X12_command (rV q kv) 34 0 [some (.ref 130), some (.int (nI j)), none] [] h := by
        by_cases d2 : pC g = 30
        · rw [if_pos d2] at K
          exact u_X12_command_34 ⟨fun y => absurd (by rw [g2, d2]) y, fun _ => S.wz P (by omega) (by omega) (fun y => by omega) (K.ek JM_n) (fun h1 M1 z => e_c49 M1 (er _ _ _ M1 z))⟩
        · rw [if_neg d2] at K
          refine u_X12_command_34 ⟨fun _ => ?_, fun y => absurd ((nI_eq (a := pC g) (b := 30) (by omega) (by omega)).mp (g2.symm.trans y)) d2⟩
          refine u_X12_command_49 (s_good S.e8 ⟨fun _ => ?_, fun y => absurd y (by decide)⟩)
          have S0 : MX c n s nm td p (si h 130 34 (gi h 130 34 + nI 1)) := S.zz (FNi (by omega))
          have a34 : gi (si h 130 34 (gi h 130 34 + nI 1)) 130 34 = nI (pC g + 1) := by rw [gi_same, g2, nI_add]
          have F0 : Fz (WQm (pM g)) VT h (si h 130 34 (gi h 130 34 + nI 1)) := Fz.si h _ (Or.inl ⟨rfl, Or.inr rfl⟩)
          have K0 := K.fz (FSi (h := h) (k := 34) (x := gi h 130 34 + nI 1) (by omega))
          generalize si h 130 34 (gi h 130 34 + nI 1) = h9 at S0 a34 F0 K0
          refine S0.nz (fun h1 x1 S1 => ?_)
          have F1 : Fz (WQm (pM g)) VT h h1 := F0.trans (x1.mono (fun b k y => by unfold WT at y; unfold WQm; omega) (fun b y => y))
          have e33 : gi h1 130 33 = nI (pM g) := (F1.1 130 33 (by unfold WQm; omega)).trans g1
          rw [e33, cl (by omega)]
          have A : MA c n s nm td g j h (tE c n p) (si h1 141 (pM g) (nI j)) := ⟨S1.zz (FNa (by omega)), F1.trans (Fz.si h1 _ (Or.inr ⟨by omega, by omega, rfl⟩)), (gi_ob (by omega)).trans ((x1.1 130 34 (by unfold WT; omega)).trans a34), gi_same⟩
          have R := m_arg (q := q) (kv := kv) hj (by omega) P N A ((K0.fz (FSt x1)).fz (FSa (by omega))) E0 (fun x y p1 h2 A2 iX iY K2 => m_198 hj (by omega) (fun z => by omega) W G P A2 iX iY K2 E0 (fun _ => E1) (fun d9 h3 S3 W3 G3 e3 K3 => E2 j x y p1 h3 (by omega) S3 W3 G3 e3 K3))
          refine ⟨vp_in_nI (by omega) (by omega), fun y => R.1 (Or.inl ((nI_eq (a := j) (b := 0) (by omega) (by omega)).mp y)), fun y => ⟨fun y2 => R.2 (fun z => ?_), fun y2 => R.1 (Or.inr ((nI_eq (a := j) (b := 8) (by omega) (by omega)).mp y2))⟩⟩
          rcases z with z | z
          · exact y (by rw [z]; rfl)
          · exact y2 (by rw [z])
      refine u_X12_command_15 ⟨fun _ => a34, fun y => ⟨fun _ => a34, fun y2 => ?_⟩⟩
      have z1 := (nI_eq (a := j) (b := 9) (by omega) (by omega)).mp y
      have z2 := (nI_eq (a := pD g) (b := 2) (by omega) (by omega)).mp (g3.symm.trans y2)
      exact absurd ⟨z1, z2⟩ d1
end
