/-! ===== a script runs, the class ===== -/
section
variable {q : Nat → PH → Prop} {kk : Int32 → PH → Prop} {kv : PH → Prop} {h h' h0 : PH} {s t g : RW} {C E : Nat} {a b n m p v w i j k o x y d e N : Nat} {B L : Nat → Nat} {k' d' : Nat} {B' L' : Nat → Nat} {k'' d'' : Nat} {B'' L'' : Nat → Nat}
/-- the class's program, read to its end -/
def PGr (g : RW) (h : PH) : Prop := gi h 5 5 = nI (pC g) ∧ (∀ k, k < pM g → ∀ j, j < 10 → pK g k = nI j → gr h 6 (sig g k) = some (1020 + j) ∧ AG j (sig g k) (pX g k) (pY g k) h) ∧ (∀ k, k < pM g → pK g k = nI 9 → gi h 10 (sig g k) = nI (sig g (pE g k)))
theorem PGc.r (D : pD g = 0) (G : PGc g h) : PGr g h := ⟨G.1, G.2.2.2.1, fun k hk e => G.2.2.2.2 k hk e (fun o ho => by omega)⟩
theorem PGr.eq (e5 : gi h' 5 5 = gi h 5 5) (eo : ∀ b i, 7 ≤ b → b ≤ 10 → gi h' b i = gi h b i) (er : ∀ i, gr h' 6 i = gr h 6 i) (G : PGr g h) : PGr g h' := by
  refine ⟨e5.trans G.1, fun k hk j hj e => ?_, fun k hk e => (eo _ _ (by omega) (by omega)).trans (G.2.2 k hk e)⟩
  have z := G.2.1 k hk j hj e
  exact ⟨(er _).trans z.1, z.2.eq (fun b hb => eo b _ (by omega) (by omega))⟩
def RlC (g : RW) (k d : Nat) (B L : Nat → Nat) (h : PH) : Prop := gi h 5 8 = nI d ∧ gi h 5 9 = nI (sig g k) ∧ ∀ o, o < d → gi h 11 o = nI (sig g (B o)) ∧ gi h 12 o = nI (L o)
theorem RlC.eq (e : ∀ b i, b = 5 ∨ b = 11 ∨ b = 12 → gi h' b i = gi h b i) (R : RlC g k d B L h) : RlC g k d B L h' := by
  refine ⟨(e 5 8 (by omega)).trans R.1, (e 5 9 (by omega)).trans R.2.1, fun o ho => ?_⟩
  rw [e 11 o (by omega), e 12 o (by omega)]
  exact R.2.2 o ho
def WNx (b k : Nat) : Prop := (b = 5 ∧ (k = 8 ∨ k = 9)) ∨ b = 11 ∨ b = 12
theorem PGr.nx (x : Fz WNx (fun _ => False) h h') (G : PGr g h) : PGr g h' := G.eq (x.1 5 5 (by unfold WNx; omega)) (fun b i h1 h2 => x.1 b i (by unfold WNx; omega)) (fun i => by
  show h'.2.2.1 6 i = h.2.2.1 6 i
  rw [x.2.2 6 (by omega)])
theorem sig_s1 (h : ¬ pK g k = nI 10) : sig g (k + 1) = sig g k + 1 := by rw [sig_s, if_neg h]
theorem sig_s0 (h : pK g k = nI 10) : sig g (k + 1) = sig g k := by rw [sig_s, if_pos h]; rfl
theorem c_beginRepeat (W : WFg g) (hd : d ≤ 1) (hk : k < pM g) (e9 : pK g k = nI 9) (G : PGr g h) (R : RlC g k d B L h) (hx : pX g k = nI x) (K : ∀ h', Fz WNx (fun _ => False) h h' → RlC g (k + 1) (d + 1) (updN B d k) (updN L d x) h' → kv h') : MetPM m_X7_beginRepeat [.ref 5] h (rV q kv) := by
  obtain ⟨r1, r2, r3⟩ := R
  have w2 := W.1.2.1
  have lt := sig_lt W hk (j := 9) (by omega) e9
  have g9 : gi h 9 (sig g k) = nI x := ((G.2.1 k hk 9 (by omega) e9).2.2.2.2.1 (by omega)).trans hx
  refine t_X7_beginRepeat ?_
  rw [r1, r2]
  refine pk_le 2 d (fun y => absurd y (by omega)) (fun _ => ?_)
  rw [cl (by omega)]
  have e59 : gi (si h 11 d (nI (sig g k))) 5 9 = nI (sig g k) := (gi_ob (by omega)).trans r2
  have e58 : gi (si h 11 d (nI (sig g k))) 5 8 = nI d := (gi_ob (by omega)).trans r1
  have e99 : gi (si h 11 d (nI (sig g k))) 9 (sig g k) = nI x := (gi_ob (by omega)).trans g9
  rw [e59, e58, cl (by omega), cl (by omega), e99]
  refine ⟨vp_in_nI (by omega) (by omega), vp_in_nI (by omega) (by omega), ?_⟩
  intro y1
  refine ⟨vp_in_nI (by omega) (by omega), ?_⟩
  have ey : y1 = nI x := rfl
  clear_value y1
  subst ey
  intro h2
  have b8 : gi h2 5 8 = nI d := by
    show gi (si (si h 11 d (nI (sig g k))) 12 d (nI x)) 5 8 = _
    rw [gi_ob (by omega)]; exact e58
  have b9 : gi h2 5 9 = nI (sig g k) := by
    show gi (si (si h 11 d (nI (sig g k))) 12 d (nI x)) 5 9 = _
    rw [gi_ob (by omega)]; exact e59
  have b11 : ∀ o, gi h2 11 o = if o = d then nI (sig g k) else gi h 11 o := fun o => by
    show gi (si (si h 11 d (nI (sig g k))) 12 d (nI x)) 11 o = _
    by_cases c : o = d
    · rw [gi_ob (by omega), if_pos c, c, gi_same]
    · rw [gi_ob (by omega), if_neg c, gi_ok c]
  have b12 : ∀ o, gi h2 12 o = if o = d then nI x else gi h 12 o := fun o => by
    show gi (si (si h 11 d (nI (sig g k))) 12 d (nI x)) 12 o = _
    by_cases c : o = d
    · rw [if_pos c, c, gi_same]
    · rw [if_neg c, gi_ok c, gi_ob (by omega)]
  have F2 : Fz WNx (fun _ => False) h h2 := (Fz.si h _ (Or.inr (Or.inl rfl))).trans (Fz.si _ _ (Or.inr (Or.inr rfl)))
  clear_value h2
  intro h3
  have F3 : Fz WNx (fun _ => False) h h3 := (F2.trans (Fz.si _ _ (Or.inl ⟨rfl, Or.inl rfl⟩))).trans (Fz.si _ _ (Or.inl ⟨rfl, Or.inr rfl⟩))
  have c8 : gi h3 5 8 = nI (d + 1) := by
    show gi (si (si h2 5 8 (gi h2 5 8 + nI 1)) 5 9 (gi (si h2 5 8 (gi h2 5 8 + nI 1)) 5 9 + nI 1)) 5 8 = _
    rw [gi_ok (by omega), gi_same, b8, nI_add]
  have c9 : gi h3 5 9 = nI (sig g k + 1) := by
    show gi (si (si h2 5 8 (gi h2 5 8 + nI 1)) 5 9 (gi (si h2 5 8 (gi h2 5 8 + nI 1)) 5 9 + nI 1)) 5 9 = _
    rw [gi_same, gi_ok (by omega), b9, nI_add]
  have co : ∀ b o, b ≠ 5 → gi h3 b o = gi h2 b o := fun b o hb => by
    show gi (si (si h2 5 8 (gi h2 5 8 + nI 1)) 5 9 (gi (si h2 5 8 (gi h2 5 8 + nI 1)) 5 9 + nI 1)) b o = _
    rw [gi_ob hb, gi_ob hb]
  clear_value h3
  refine K h3 F3 ⟨c8, by rw [sig_s1 (by rw [e9]; decide)]; exact c9, fun o ho => ?_⟩
  rw [co 11 o (by omega), co 12 o (by omega), b11, b12]
  by_cases c : o = d
  · rw [if_pos c, if_pos c, c, updN_s, updN_s]
    exact ⟨rfl, rfl⟩
  · rw [if_neg c, if_neg c, updN_n c, updN_n c]
    exact r3 o (by omega)
theorem c_endTurn {s0 : RW} (A : AVg s0 g) (hk : k < pM g) (e10 : pK g k = nI 10) (I : RI g k d B L) (R : RlC g k d B L h) (K1 : 1 < L (d - 1) → ∀ h', Fz WNx (fun _ => False) h h' → RlC g (B (d - 1) + 1) d B (updN L (d - 1) (L (d - 1) - 1)) h' → kv h') (K2 : ¬ 1 < L (d - 1) → ∀ h', Fz WNx (fun _ => False) h h' → RlC g (k + 1) (d - 1) B (updN L (d - 1) (L (d - 1) - 1)) h' → kv h') : MetPM m_X7_endTurn [.ref 5] h (rV q kv) := by
  obtain ⟨r1, r2, r3⟩ := R
  obtain ⟨d1, ek⟩ := I.at A hk e10
  have d2 := I.2.2.1
  obtain ⟨a1, a2, a3, a4, a5, a6, a7⟩ := I.2.2.2 (d - 1) (by omega)
  have q3 := r3 (d - 1) (by omega)
  have v : vp_in (nI (d - 1)) 2 := vp_in_nI (by omega) (by omega)
  refine t_X7_endTurn ?_
  rw [r1, pk_sub (by omega), cl (by omega), q3.2, pk_sub (by omega)]
  refine ⟨v, v, ?_⟩
  intro h1
  have b12 : ∀ o, gi h1 12 o = if o = d - 1 then nI (L (d - 1) - 1) else gi h 12 o := fun o => by
    show gi (si h 12 (d - 1) (nI (L (d - 1) - 1))) 12 o = _
    by_cases c : o = d - 1
    · rw [if_pos c, c, gi_same]
    · rw [if_neg c, gi_ok c]
  have bo : ∀ b o, b ≠ 12 → gi h1 b o = gi h b o := fun b o hb => gi_ob hb
  have F1 : Fz WNx (fun _ => False) h h1 := Fz.si h _ (Or.inr (Or.inr rfl))
  clear_value h1
  rw [b12, if_pos rfl, bo 5 8 (by omega), r1, pk_sub (by omega), bo 11 _ (by omega), q3.1, nI_add]
  have l12 : ∀ o, o < d → gi h1 12 o = nI (updN L (d - 1) (L (d - 1) - 1) o) := fun o ho => by
    rw [b12]
    by_cases c : o = d - 1
    · rw [if_pos c, c, updN_s]
    · rw [if_neg c, updN_n c]; exact (r3 o ho).2
  refine ⟨v, pk_le (L (d - 1) - 1) 0 (fun z => ?_) (fun z => ⟨v, ?_⟩)⟩
  · refine K2 (by omega) _ (F1.trans (Fz.si _ _ (Or.inl ⟨rfl, Or.inl rfl⟩))) ⟨gi_same, ?_, fun o ho => ⟨?_, ?_⟩⟩
    · rw [gi_ok (by omega), bo 5 9 (by omega), r2, sig_s0 e10]
    · rw [gi_ob (by omega), bo 11 o (by omega)]; exact (r3 o (by omega)).1
    · rw [gi_ob (by omega)]; exact l12 o (by omega)
  · refine K1 (by omega) _ (F1.trans (Fz.si _ _ (Or.inl ⟨rfl, Or.inr rfl⟩))) ⟨?_, ?_, fun o ho => ⟨?_, ?_⟩⟩
    · rw [gi_ok (by omega), bo 5 8 (by omega)]; exact r1
    · rw [gi_same, sig_s1 (by rw [a2]; decide)]
    · rw [gi_ob (by omega), bo 11 o (by omega)]; exact (r3 o ho).1
    · rw [gi_ob (by omega)]; exact l12 o ho
/-- some steps without a command -/
def RS (g : RW) (i k d : Nat) (B L : Nat → Nat) (k' d' : Nat) (B' L' : Nat → Nat) : Prop := i + mu g k' d' B' L' ≤ mu g k d B L ∧ ∀ M e s, e < 40 → aRun g (M + i) k d B L e s = aRun g M k' d' B' L' e s
theorem RS.z : RS g 0 k d B L k d B L := ⟨by omega, fun _ _ _ _ => rfl⟩
theorem RS.st (h1 : mu g k' d' B' L' < mu g k d B L) (h2 : ∀ N e s, e < 40 → aRun g (N + 1) k d B L e s = aRun g N k' d' B' L' e s) (R : RS g i k' d' B' L' k'' d'' B'' L'') : RS g (i + 1) k d B L k'' d'' B'' L'' :=
  ⟨by have := R.1; omega, fun M e s he => (h2 (M + i) e s he).trans (R.2 M e s he)⟩
theorem l_nxt {s0 : RW} (W : WFg g) (A : AVg s0 g) (D : pD g = 0) : ∀ N t k d B L h, mu g k d B L < N → t + mu g k d B L < 1000000 → RI g k d B L → PGr g h → RlC g k d B L h →
    (∀ i k' d' B' L' h', RS g i k d B L k' d' B' L' → Fz WNx (fun _ => False) h h' → pM g ≤ k' → kk (-(nI 1)) h') →
    (∀ i k' d' B' L' h' j, RS g i k d B L k' d' B' L' → Fz WNx (fun _ => False) h h' → k' < pM g → j < 9 → pK g k' = nI j → RI g k' d' B' L' → RlC g (k' + 1) d' B' L' h' → kk (nI (sig g k')) h') →
    At m_X7_next (rI q kk) 2 0 [some (.ref 5), some (.int (nI t))] [] h := by
  intro N
  induction N with
  | zero =>
    intro t k d B L h hN
    omega
  | succ N ih =>
    intro t k d B L h hN ht I G R K0 K1
    obtain ⟨r1, r2, r3⟩ := R
    have R : RlC g k d B L h := ⟨r1, r2, r3⟩
    have w2 := W.1.2.1
    have body : (k < pM g → ¬ pK g k = nI 10) → ∀ q2 : Nat → PH → Prop, ((gi h 5 9 < gi h 5 5 → (vp_in (gi h 5 9) 30 ∧ ((∀ b1 : Nat, gr h 6 (gi h 5 9).toNatClampNeg = some b1 → ((cOk b1 21 ∧ cOk 1029 21) ∧ ((¬ b1 = 1029 → kk (gi (si h 5 9 (gi h 5 9 + nI 1)) 5 9 - nI 1) (si h 5 9 (gi h 5 9 + nI 1))) ∧ (b1 = 1029 → MetPM m_X7_beginRepeat [.ref 5] h (rV q2 (fun h2 => At m_X7_next (rI q kk) 2 0 [some (.ref 5), some (.int (nI t + nI 1))] [] h2)))))) ∧ (gr h 6 (gi h 5 9).toNatClampNeg = none → False)))) ∧ (¬ gi h 5 9 < gi h 5 5 → kk (-(nI 1)) h)) := fun n10 q2 => by
      rw [r2, G.1]
      have hle : k ≤ pM g := I.1
      by_cases hk : k < pM g
      · have nk := n10 hk
        obtain ⟨j, hj, e⟩ := W.2.2.2.1 k hk
        have hj9 : j < 10 := by
          apply Classical.byContradiction
          intro c
          have : j = 10 := by omega
          rw [this] at e
          exact nk e
        have lt := sig_lt W hk hj9 e
        have g6 := (G.2.1 k hk j hj9 e).1
        refine pk_lt (sig g k) (pC g) (fun _ => ?_) (fun z => absurd z (by omega))
        rw [cl (by omega)]
        refine ⟨vp_in_nI (by omega) (by omega), fun b1 hb => ?_, fun hb => by rw [g6] at hb; cases hb⟩
        rw [g6] at hb
        have hb1 := (Option.some.inj hb).symm
        subst hb1
        refine ⟨⟨Or.inr (Or.inl ⟨rfl, by omega, by omega⟩), Or.inr (Or.inl ⟨rfl, by omega, by omega⟩)⟩, fun c => ?_, fun c => ?_⟩
        · rw [gi_same, nI_add, pk_sub (by omega), Nat.add_sub_cancel]
          refine K1 0 k d B L _ j RS.z (Fz.si h _ (Or.inl ⟨rfl, Or.inr rfl⟩)) hk (by omega) e I ⟨?_, ?_, fun o ho => ?_⟩
          · rw [gi_ok (by omega)]; exact r1
          · rw [gi_same, sig_s1 nk]
          · rw [gi_ob (by omega), gi_ob (by omega)]; exact r3 o ho
        · have j9 : j = 9 := by omega
          subst j9
          obtain ⟨x, y, hx, hy, ex, ey, av⟩ := A.1 k hk 9 (by omega) e
          have ax := av.2.2.2.2.2 rfl
          obtain ⟨hd, I2⟩ := I.rep W D hk e ax.1 ax.2
          have ml := mu_rep W hk e I hd ax.1 ax.2
          refine c_beginRepeat W hd hk e G R ex (fun h2 x2 R2 => ?_)
          rw [nI_add]
          have st : ∀ M e' s', e' < 40 → aRun g (M + 1) k d B L e' s' = aRun g M (k + 1) (d + 1) (updN B d k) (updN L d x) e' s' := fun M e' s' he => by
            rw [run_9 hk he e, ex, nn_nI (by omega)]
          exact ih (t + 1) _ _ _ _ h2 (by omega) (by omega) I2 (G.nx x2) R2 (fun i k' d' B' L' h' rs f hM => K0 (i + 1) k' d' B' L' h' (rs.st ml st) (x2.trans f) hM) (fun i k' d' B' L' h' j rs f h1 h2 h3 h4 h5 => K1 (i + 1) k' d' B' L' h' j (rs.st ml st) (x2.trans f) h1 h2 h3 h4 h5)
      · have ek : k = pM g := by omega
        have es : sig g k = pC g := by rw [ek]; exact W.2.2.1.symm
        rw [es]
        exact pk_lt (pC g) (pC g) (fun z => absurd z (by omega)) (fun _ => K0 0 k d B L h RS.z (Fz.refl _ _ _) (by omega))
    refine u_X7_next_2 (pk_le 1000000 t (fun y => absurd y (by omega)) (fun _ => ?_))
    rw [r1]
    have d2 := I.2.2.1
    refine pk_le d 0 (fun z => body (fun hk c => ?_) _) (fun z => ?_)
    · have := (I.at A hk c).1
      omega
    · obtain ⟨a1, a2, a3, a4, a5, a6, a7⟩ := I.2.2.2 (d - 1) (by omega)
      have q3 := r3 (d - 1) (by omega)
      have hk : k < pM g := by have := a5.2.1; omega
      have hB : B (d - 1) < pM g := by omega
      have g10 := G.2.2 _ hB a2
      have ltB := sig_lt W hB (j := 9) (by omega) a2
      rw [pk_sub (by omega), cl (by omega), q3.1, cl (by omega), g10]
      refine ⟨vp_in_nI (by omega) (by omega), vp_in_nI (by omega) (by omega), fun y => body (fun _ c => ?_) _, fun y => ?_⟩
      · obtain ⟨_, ek⟩ := I.at A hk c
        rw [← ek] at y
        exact y r2
      · have e10 : pK g k = nI 10 := by
          apply Classical.byContradiction
          intro c
          have l1 := I.lt c (o := d - 1) (by omega)
          have l2 := sig_mono (g := g) (k := pE g (B (d - 1))) (pM g - pE g (B (d - 1)))
          rw [show pE g (B (d - 1)) + (pM g - pE g (B (d - 1))) = pM g by have := a5.2.1; omega, ← W.2.2.1] at l2
          have := (nI_eq (a := sig g k) (b := sig g (pE g (B (d - 1)))) (by omega) (by omega)).mp (r2.symm.trans y)
          omega
        refine c_endTurn A hk e10 I R (fun hl h2 x2 R2 => ?_) (fun hl h2 x2 R2 => ?_)
        · rw [nI_add]
          have ml := mu_again W A hk e10 I hl
          have st : ∀ M e' s', e' < 40 → aRun g (M + 1) k d B L e' s' = aRun g M (B (d - 1) + 1) d B (updN L (d - 1) (L (d - 1) - 1)) e' s' := fun M e' s' he => run_a hk he e10 hl
          exact ih (t + 1) _ _ _ _ h2 (by omega) (by omega) (I.again A hk e10 hl) (G.nx x2) R2 (fun i k' d' B' L' h' rs f hM => K0 (i + 1) k' d' B' L' h' (rs.st ml st) (x2.trans f) hM) (fun i k' d' B' L' h' j rs f h1 h2 h3 h4 h5 => K1 (i + 1) k' d' B' L' h' j (rs.st ml st) (x2.trans f) h1 h2 h3 h4 h5)
        · rw [nI_add]
          have ml := mu_out W A hk e10 I
          have st : ∀ M e' s', e' < 40 → aRun g (M + 1) k d B L e' s' = aRun g M (k + 1) (d - 1) B (updN L (d - 1) (L (d - 1) - 1)) e' s' := fun M e' s' he => run_o hk he e10 hl
          exact ih (t + 1) _ _ _ _ h2 (by omega) (by omega) (I.out A hk e10) (G.nx x2) R2 (fun i k' d' B' L' h' rs f hM => K0 (i + 1) k' d' B' L' h' (rs.st ml st) (x2.trans f) hM) (fun i k' d' B' L' h' j rs f h1 h2 h3 h4 h5 => K1 (i + 1) k' d' B' L' h' j (rs.st ml st) (x2.trans f) h1 h2 h3 h4 h5)
def WCr (b _k : Nat) : Prop := (5 ≤ b ∧ b ≤ 12) ∨ (60 ≤ b ∧ b ≤ 66)
theorem FCn (x : Fz WNx (fun _ => False) h h') : Fz WCr (fun _ => False) h h' := x.mono (fun b k y => by unfold WNx at y; unfold WCr; omega) (fun _ y => y)
theorem FCw (f : Fr (WS 60) h h') : Fz WCr (fun _ => False) h h' := Fz.fr f (fun b k e => by
  unfold WCr
  have : ¬ (b < 60 ∨ 60 + 6 < b) := fun y => by
    rw [WS_f y] at e
    cases e
  omega)
theorem fu_1 {e M i M' a b c : Nat} (h1 : 400000 * (40 - e) + a < M) (h2 : i + b ≤ a) (h3 : c ≤ b) (h4 : M - i = M' + 1) (h5 : e < 40) : 400000 * (40 - (e + 1)) + c < M' := by omega
theorem l_crun (W : WFg g) (D : pD g = 0) (hC : C + 39960 < 2 ^ 29) (hE : E + 1198800 < 2 ^ 31) : ∀ N M, M ≤ N → ∀ k d B L e s h v1 o3, 400000 * (40 - e) + mu g k d B L < M → e ≤ 40 → RI g k d B L → PGr g h → RlC g k d B L h → AVg s g → Rk (C + 999 * e) (E + 29970 * e) s → CR 60 s h → Fz WCr (fun _ => False) h0 h →
    (∀ h', Fz WCr (fun _ => False) h0 h' → CR 60 (aRun g M k d B L e s).2 h' → kk (nI (aRun g M k d B L e s).1) h') → At m_X11_runScript (rI q kk) 52 0 [some (.ref 0), some (.int v1), some (.int (nI e)), o3] [] h := by
  intro N
  induction N with
  | zero =>
    intro M hM k d B L e s h v1 o3 hN
    omega
  | succ N ih =>
    intro M hM k d B L e s h v1 o3 hN he I G R A Rr X F K
    have w2 := W.1.2.1
    refine u_X11_runScript_52 (pk_le 40 e (fun y => ?_) (fun y => ?_))
    · obtain ⟨M', rfl⟩ : ∃ M', M = M' + 1 := ⟨M - 1, by omega⟩
      rw [run_0 (Or.inr y)] at K
      exact K h F X
    · have ml := mu_lt W I
      refine t_X7_next (l_nxt W A D (mu g k d B L + 1) 0 k d B L h (by omega) (by omega) I G R (fun i k' d' B' L' h1 rs f1 hM' => ?_) (fun i k' d' B' L' h1 j rs f1 hk hj ek I1 R1 => ?_))
      · refine ⟨fun _ => ?_, fun z => absurd rfl z⟩
        have r0 := rs.2 (M - i) e s (by omega)
        have ri := rs.1
        rw [show M - i + i = M by omega] at r0
        obtain ⟨M', e'⟩ : ∃ M', M - i = M' + 1 := ⟨M - i - 1, by omega⟩
        rw [e', run_0 (Or.inl hM')] at r0
        rw [r0] at K
        exact K h1 (F.trans (FCn f1)) (X.heap (fun b hb => f1.cell (fun k => by unfold WNx; omega)))
      · have lt := sig_lt W hk (show j < 10 by omega) ek
        refine ⟨fun z => absurd z (nIm (by omega)), fun _ => ?_⟩
        obtain ⟨x, y', hx, hy, ex, ey, av⟩ := A.1 k' hk j (by omega) ek
        have G1 := G.nx f1
        have g6 := G1.2.1 k' hk j (by omega) ek
        rw [ex, ey] at g6
        have X1 : CR 60 s h1 := X.heap (fun b hb => f1.cell (fun k => by unfold WNx; omega))
        have r0 := rs.2 (M - i) e s (by omega)
        have ri := rs.1
        rw [show M - i + i = M by omega] at r0
        obtain ⟨M', e'⟩ : ∃ M', M - i = M' + 1 := ⟨M - i - 1, by omega⟩
        rw [e', run_c hk (by omega) hj ek, ex, ey, nn_nI (by omega), nn_nI (by omega)] at r0
        refine c_obey Rr (by omega) (by omega) X1 hj (by omega) hx hy av g6.1 g6.2 (fun em => ⟨fun z => absurd rfl z, fun _ => ?_⟩) (fun em h2 f2 X2 => ⟨fun _ => ?_, fun z => absurd z (by decide)⟩)
        · rw [if_neg (by rw [em]; decide)] at r0
          rw [r0] at K
          exact K h1 (F.trans (FCn f1)) X1
        · rw [if_pos em] at r0
          rw [r0] at K
          rw [nI_add]
          have ag : agL s (aDo s j x y') := do_ag
          have o2 : ∀ b i, b < 60 ∨ 66 < b → gi h2 b i = gi h1 b i := fun b i hb => congrFun (f2.cell (fun k => WS_f (by omega))) i
          have mc := mu_cmd (g := g) (k := k') (d := d') (B := B') (L := L')
          exact ih M' (by omega) (k' + 1) d' B' L' (e + 1) (aDo s j x y') h2 v1 _ (fu_1 hN ri mc e' y) (by omega) (I1.cmd hk hj ek) (G1.eq (o2 5 5 (by omega)) (fun b i x1 x2 => o2 b i (by omega)) (fun i => by
            show h2.2.2.1 6 i = h1.2.2.1 6 i
            rw [f2.2])) (R1.eq (fun b i hb => o2 b i (by omega))) (A.ag ag.n0 ag.n2) ((Rr.dos (by omega) (by omega) hy hx av hj em).mono (by omega) (by omega)) X2 ((F.trans (FCn f1)).trans (FCw f2)) K
end
