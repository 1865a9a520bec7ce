/-! ===== the law's World when it is made ===== -/
section
variable {h h' h0 h1 h2 hB : PH} {w k v j t b a d n i L A m c lo ic kt p q t0 V hi r g : Nat} {W : WN} {s s' s0 sw u : RW} {Q : Res → PH → Prop} {x y z : Int32} {rr : Nat → Nat}
/-- cells of its own are as they were, a's ints too, its references below m -/
def KP (a m : Nat) (h h' : PH) : Prop := FmQ [a] h h' ∧ (∀ i, gi h' a i = gi h a i) ∧ (∀ i, i < m → gr h' a i = gr h a i) ∧ Lw h h'
theorem KP.of {rv : Option Nat} (ka : qkd h a = 2) (a2 : 2000 ≤ a) (f : FmQ [] h h1) (l : Lw h h1) : KP a m h (sr h1 a m rv) :=
  have hz : ¬ qkd h a = 0 := by rw [ka]; decide
  ⟨(f.mono (fun n hn _ => absurd hn List.not_mem_nil)).trans FmQ.sr (fun n hn _ => hn), fun i => f.i hz List.not_mem_nil, fun i hi => (qsr_k (by omega)).trans (f.r hz List.not_mem_nil), l.trans ((Oth.sr _ a _ _).lw a2)⟩
theorem KP.trans (f : KP a m h h1) (g : KP a n h1 h2) (hmn : m ≤ n) : KP a m h h2 :=
  ⟨f.1.trans g.1 (fun n hn _ => hn), fun i => (g.2.1 i).trans (f.2.1 i), fun i hi => (g.2.2.1 i (by omega)).trans (f.2.2.1 i hi), f.2.2.2.trans g.2.2.2⟩
theorem fm_sn (hq : qkd h q = 0) (a : FmQ [] h h1) (b : FmQ [q] h1 h2) : FmQ [] h h2 := a.trans b (fun n hn hz => absurd (List.mem_singleton.mp hn) (ne_of_kd hz hq))
theorem FmQ.mn (hq : qkd h q = 0) (hr : ∀ i, i < n → qkd h (rr i) = 0) (M : mnQ h h' q rr n m) : FmQ [] h h' := fun a ha => by
  obtain ⟨e1, e2, e3, e4⟩ := M.1 a (ne_of_kd ha hq) (fun i hi => ne_of_kd ha (hr i hi))
  refine ⟨⟨?_, ?_⟩, fun _ => ⟨e1, e2, e3, e4⟩⟩
  · unfold qkd; rw [e4]
  · unfold qln; rw [e4]
/-- an array of ints that are all x -/
def AR (h : PH) (q g n : Nat) (x : Int32) : Prop := 2000 ≤ q ∧ qkd h q = g ∧ qln h q = n ∧ ∀ i, i < n → gi h q i = x
theorem AR.kp (A : AR h q g n x) (hg : g ≠ 0 ∧ g ≠ 2) (ka : qkd h a = 2) (f : KP a m h h') : AR h' q g n x := by
  obtain ⟨a1, a2, a3, a4⟩ := A
  have hz : ¬ qkd h q = 0 := by rw [a2]; exact hg.1
  have hn : q ∉ [a] := fun e => by rw [List.mem_singleton.mp e, ka] at a2; exact hg.2 a2.symm
  exact ⟨a1, (f.1.kd hz).trans a2, (f.1.ln hz).trans a3, fun i hi => (f.1.i hz hn).trans (a4 i hi)⟩
def MR (h : PH) (q : Nat) (rr : Nat → Nat) (n : Nat) : Prop := qkd h q = 24 ∧ qln h q = n ∧ ∀ i, i < n → gr h q i = some (rr i) ∧ AR h (rr i) 22 n 0
theorem MR.kp (A : MR h q rr n) (ka : qkd h a = 2) (f : KP a m h h') : MR h' q rr n := by
  obtain ⟨a2, a3, a4⟩ := A
  have hz : ¬ qkd h q = 0 := by rw [a2]; decide
  have hn : q ∉ [a] := fun e => by rw [List.mem_singleton.mp e, ka] at a2; cases a2
  exact ⟨(f.1.kd hz).trans a2, (f.1.ln hz).trans a3, fun i hi => ⟨(f.1.r hz hn).trans (a4 i hi).1, (a4 i hi).2.kp (by decide) ka f⟩⟩
theorem MR.of (hr2 : ∀ i, i < n → 2000 ≤ rr i) (M : mnQ h h' q rr n n) : MR h' q rr n :=
  ⟨M.2.1, M.2.2.1, fun i hi => ⟨M.2.2.2.1 i hi, hr2 i hi, (M.2.2.2.2 i hi).1, (M.2.2.2.2 i hi).2.1, fun j _ => (M.2.2.2.2 i hi).2.2 j⟩⟩
theorem ls_kp (A : 2000 ≤ q ∧ AlQ h q 1402 [] g) (ka : qkd h a = 2) (f : KP a m h h') : 2000 ≤ q ∧ AlQ h' q 1402 [] g := by
  obtain ⟨a1, a2, a3, a4, -⟩ := A
  have hz : ¬ qkd h q = 0 := by rw [a2]; decide
  have hn : q ∉ [a] := fun e => by rw [List.mem_singleton.mp e, ka] at a2; cases a2
  exact ⟨a1, (f.1.kd hz).trans a2, (f.1.r hz hn).trans a3, (f.1.i hz hn).trans a4, Nat.zero_le _, fun e he => absurd he List.not_mem_nil, Or.inl ⟨rfl, rfl⟩⟩
theorem c_wNew (ka : qkd h a = 2) (a2 : 2000 ≤ a) (hz : ∀ i, gi h a i = 0) (K : ∀ h' W, WO h' a W (clrS s) → W.es = [] → WInj W → FA h' W (clrS s) → gi h' a 27 = 0 → FmQ [a] h h' → Lw h h' → Q (.inl none) h') : MetQ mq_X13_init [.ref a] h Q := by
  have c8 : (nI 8).toNatClampNeg = 8 := nI_clamp (by decide)
  have c5 : (nI 5).toNatClampNeg = 5 := nI_clamp (by decide)
  have c12 : (nI 12).toNatClampNeg = 12 := nI_clamp (by decide)
  have c0 : (nI 0).toNatClampNeg = 0 := nI_clamp (by decide)
  have c1 : (nI 1).toNatClampNeg = 1 := nI_clamp (by decide)
  have c2 : (nI 2).toNatClampNeg = 2 := nI_clamp (by decide)
  have c3 : (nI 3).toNatClampNeg = 3 := nI_clamp (by decide)
  have c4 : (nI 4).toNatClampNeg = 4 := nI_clamp (by decide)
  refine tq_X13_init ?_
  rw [c8, c5, c12, c0, c1, c2, c3, c4]
  refine ⟨ka, ka, ka, ka, ka, ka, ?_⟩
  intro h11
  have f11 : FmQ [a] h h11 := (((((FmQ.si (a := a)).trans FmQ.si (fun n hn _ => hn)).trans FmQ.si (fun n hn _ => hn)).trans FmQ.si (fun n hn _ => hn)).trans FmQ.si (fun n hn _ => hn)).trans FmQ.si (fun n hn _ => hn)
  have l11 : Lw h h11 := ((((((Oth.si h a _ _).lw a2).trans ((Oth.si _ a _ _).lw a2)).trans ((Oth.si _ a _ _).lw a2)).trans ((Oth.si _ a _ _).lw a2)).trans ((Oth.si _ a _ _).lw a2)).trans ((Oth.si _ a _ _).lw a2)
  have k11 : qkd h11 a = 2 := ka
  have i5 : gi h11 a 5 = nI 50 := qsi_s
  have i4 : gi h11 a 4 = nI 10 := (qsi_k (by decide)).trans qsi_s
  have i3 : gi h11 a 3 = nI 5 := (qsi_k (by decide)).trans ((qsi_k (by decide)).trans qsi_s)
  have i2 : gi h11 a 2 = nI 1 := (qsi_k (by decide)).trans ((qsi_k (by decide)).trans ((qsi_k (by decide)).trans qsi_s))
  have i1 : gi h11 a 1 = nI 1 := (qsi_k (by decide)).trans ((qsi_k (by decide)).trans ((qsi_k (by decide)).trans ((qsi_k (by decide)).trans qsi_s)))
  have i0 : gi h11 a 0 = nI 1 := (qsi_k (by decide)).trans ((qsi_k (by decide)).trans ((qsi_k (by decide)).trans ((qsi_k (by decide)).trans ((qsi_k (by decide)).trans qsi_s))))
  have i6 : ∀ i, 6 ≤ i → gi h11 a i = 0 := fun i hi => (qsi_k (by omega)).trans ((qsi_k (by omega)).trans ((qsi_k (by omega)).trans ((qsi_k (by omega)).trans ((qsi_k (by omega)).trans ((qsi_k (by omega)).trans (hz i))))))
  clear_value h11
  have nz : ∀ {g : PH} {n k : Nat}, qkd g n = k → k ≠ 0 → ¬ qkd g n = 0 := fun e1 e2 => by rw [e1]; exact e2
  refine ⟨⟨by decide, by decide⟩, by decide, fun q12 q12a q12z => ?_⟩
  have P1 : KP a 18 h11 (sr (nw h11 q12 16 8) a 18 (some q12)) := KP.of k11 a2 (FmQ.nw q12z) ((Oth.nw h11 q12 16 8).lw q12a)
  have k1 := (P1.1.kd (nz k11 (by decide))).trans k11
  have A1 : AR (sr (nw h11 q12 16 8) a 18 (some q12)) q12 16 8 0 := ⟨q12a, qkd_nw (h := h11) (kd := 16) (n := 8) (by omega), qln_nw (h := h11) (q := q12) (kd := 16) (n := 8), fun i _ => qnw_i (h := h11) (q := q12) (kd := 16) (n := 8) (j := i)⟩
  have R1 : gr (sr (nw h11 q12 16 8) a 18 (some q12)) a 18 = some q12 := qsr_s
  refine ⟨k1, ⟨by decide, by decide⟩, by decide, fun q13 q13a q13z => ?_⟩
  generalize sr (nw h11 q12 16 8) a 18 (some q12) = g1 at P1 k1 A1 R1 q13z ⊢
  have P2 : KP a 19 g1 (sr (nw g1 q13 16 8) a 19 (some q13)) := KP.of k1 a2 (FmQ.nw q13z) ((Oth.nw g1 q13 16 8).lw q13a)
  have k2 := (P2.1.kd (nz k1 (by decide))).trans k1
  have A2 : AR (sr (nw g1 q13 16 8) a 19 (some q13)) q13 16 8 0 := ⟨q13a, qkd_nw (h := g1) (kd := 16) (n := 8) (by omega), qln_nw (h := g1) (q := q13) (kd := 16) (n := 8), fun i _ => qnw_i (h := g1) (q := q13) (kd := 16) (n := 8) (j := i)⟩
  have R2 : gr (sr (nw g1 q13 16 8) a 19 (some q13)) a 19 = some q13 := qsr_s
  have n12_13 : q12 ≠ q13 := ne_of_kd (nz A1.2.1 (by decide)) q13z
  refine ⟨k2, ?_⟩
  intro h14
  have e14 : h14 = sr (nw g1 q13 16 8) a 19 (some q13) := rfl
  rw [← e14] at P2 k2 A2 R2
  clear_value h14
  refine ⟨⟨by decide, by decide⟩, by decide, fun q15 q15a q15z => ?_⟩
  have kq : qkd (nw h14 q15 16 5) q15 = 16 := qkd_nw (by omega)
  have vq : ∀ i, i < 5 → vp_in (nI i) (qln (nw h14 q15 16 5) q15) := fun i hi => by
    rw [qln_nw]
    exact vp_in_nI hi (by decide)
  refine ⟨kq, vq 0 (by decide), kq, vq 1 (by decide), ?_⟩
  intro h16
  refine ⟨kq, vq 2 (by decide), kq, vq 3 (by decide), kq, vq 4 (by decide), ?_⟩
  intro h17
  have f17 : FmQ [] h14 h17 := fm_sn q15z (fm_sn q15z (fm_sn q15z (fm_sn q15z (fm_sn q15z (FmQ.nw q15z) FmQ.si) FmQ.si) FmQ.si) FmQ.si) FmQ.si
  have l17 : Lw h14 h17 := (((((Oth.nw h14 q15 16 5).lw q15a).trans ((Oth.si _ q15 _ _).lw q15a)).trans ((Oth.si _ q15 _ _).lw q15a)).trans ((Oth.si _ q15 _ _).lw q15a)).trans ((Oth.si _ q15 _ _).lw q15a) |>.trans ((Oth.si _ q15 _ _).lw q15a)
  have k17 : qkd h17 q15 = 16 := kq
  have n17 : qln h17 q15 = 5 := qln_nw (h := h14) (q := q15) (kd := 16) (n := 5)
  have v17 : ∀ i, i < 5 → gi h17 q15 i = -(nI 1) := fun i hi => by
    by_cases z4 : i = 4
    · rw [z4]; exact qsi_s
    refine (qsi_k z4).trans ?_
    by_cases z3 : i = 3
    · rw [z3]; exact qsi_s
    refine (qsi_k z3).trans ?_
    by_cases z2 : i = 2
    · rw [z2]; exact qsi_s
    refine (qsi_k z2).trans ?_
    by_cases z1 : i = 1
    · rw [z1]; exact qsi_s
    refine (qsi_k z1).trans ?_
    have z0 : i = 0 := by omega
    rw [z0]; exact qsi_s
  clear_value h17
  clear h16
  have P3 : KP a 20 h14 (sr h17 a 20 (some q15)) := KP.of k2 a2 f17 l17
  have k3 := (P3.1.kd (nz k2 (by decide))).trans k2
  have A3 : AR (sr h17 a 20 (some q15)) q15 16 5 (-(nI 1)) := ⟨q15a, k17, n17, v17⟩
  have R3 : gr (sr h17 a 20 (some q15)) a 20 = some q15 := qsr_s
  have n12_15 : q12 ≠ q15 := ne_of_kd (nz ((A1.kp (by decide) k1 P2).2.1) (by decide)) q15z
  have n13_15 : q13 ≠ q15 := ne_of_kd (nz A2.2.1 (by decide)) q15z
  refine ⟨k3, ⟨by decide, by decide, by decide, by decide⟩, by decide, fun h20 q18 r19 q18a q18z r19a r19i M20 l20 => ?_⟩
  generalize sr h17 a 20 (some q15) = g3 at P3 k3 A3 R3 q18z r19a M20 l20 ⊢
  have f20 := FmQ.mn q18z (fun i hi => (r19a i hi).2.1) M20
  have P4 : KP a 21 g3 (sr h20 a 21 (some q18)) := KP.of k3 a2 f20 l20
  have k20 := (f20.kd (nz k3 (by decide))).trans k3
  have k4 := (P4.1.kd (nz k3 (by decide))).trans k3
  have M4 : MR (sr h20 a 21 (some q18)) q18 r19 8 := (MR.of (fun i hi => (r19a i hi).1) M20).kp (m := 21) k20 ⟨FmQ.sr, fun _ => rfl, fun i hi => qsr_k (by omega), (Oth.sr _ a _ _).lw a2⟩
  have R4 : gr (sr h20 a 21 (some q18)) a 21 = some q18 := qsr_s
  refine ⟨k20, ⟨by decide, by decide, by decide, by decide⟩, by decide, fun h23 q21 r22 q21a q21z r22a r22i M23 l23 => ?_⟩
  generalize sr h20 a 21 (some q18) = g4 at P4 k4 M4 R4 q21z r22a M23 l23 ⊢
  have f23 := FmQ.mn q21z (fun i hi => (r22a i hi).2.1) M23
  have P5 : KP a 22 g4 (sr h23 a 22 (some q21)) := KP.of k4 a2 f23 l23
  have k23 := (f23.kd (nz k4 (by decide))).trans k4
  have k5 := (P5.1.kd (nz k4 (by decide))).trans k4
  have M5 : MR (sr h23 a 22 (some q21)) q21 r22 12 := (MR.of (fun i hi => (r22a i hi).1) M23).kp (m := 22) k23 ⟨FmQ.sr, fun _ => rfl, fun i hi => qsr_k (by omega), (Oth.sr _ a _ _).lw a2⟩
  have R5 : gr (sr h23 a 22 (some q21)) a 22 = some q21 := qsr_s
  have n19_22 : ∀ i j, i < 8 → j < 12 → r19 i ≠ r22 j := fun i j hi hj => ne_of_kd (nz (M4.2.2 i hi).2.2.1 (by decide)) (r22a j hj).2.1
  refine ⟨k23, by decide, fun q24 q24a q24z => ?_⟩
  generalize sr h23 a 22 (some q21) = g5 at P5 k5 M5 R5 q24z ⊢
  refine c_alNew (g := 1) (qkd_nw (by omega)) qnw_i q24a (fun h25 L25 f25 l25 _ => ?_)
  have f25' : FmQ [] g5 h25 := fm_sn q24z (FmQ.nw q24z) f25
  have l25' : Lw g5 h25 := ((Oth.nw g5 q24 5 0).lw q24a).trans l25
  have k25 := (f25'.kd (nz k5 (by decide))).trans k5
  have P6 : KP a 23 g5 (sr h25 a 23 (some q24)) := KP.of k5 a2 f25' l25'
  have k6 := (P6.1.kd (nz k5 (by decide))).trans k5
  have L6 : 2000 ≤ q24 ∧ AlQ (sr h25 a 23 (some q24)) q24 1402 [] 1 := ls_kp (m := 23) ⟨q24a, L25⟩ k25 ⟨FmQ.sr, fun _ => rfl, fun i hi => qsr_k (by omega), (Oth.sr _ a _ _).lw a2⟩
  have R6 : gr (sr h25 a 23 (some q24)) a 23 = some q24 := qsr_s
  refine ⟨k25, by decide, fun q26 q26a q26z => ?_⟩
  generalize sr h25 a 23 (some q24) = g6 at P6 k6 L6 R6 q26z ⊢
  have n24_26 : q24 ≠ q26 := ne_of_kd (nz L6.2.1 (by decide)) q26z
  refine c_alNew (g := 16) (qkd_nw (by omega)) qnw_i q26a (fun h27 L27 f27 l27 _ => ?_)
  have f27' : FmQ [] g6 h27 := fm_sn q26z (FmQ.nw q26z) f27
  have l27' : Lw g6 h27 := ((Oth.nw g6 q26 5 0).lw q26a).trans l27
  have k27 := (f27'.kd (nz k6 (by decide))).trans k6
  have P7 : KP a 24 g6 (sr h27 a 24 (some q26)) := KP.of k6 a2 f27' l27'
  have k7 := (P7.1.kd (nz k6 (by decide))).trans k6
  have L7 : 2000 ≤ q26 ∧ AlQ (sr h27 a 24 (some q26)) q26 1402 [] 16 := ls_kp (m := 24) ⟨q26a, L27⟩ k27 ⟨FmQ.sr, fun _ => rfl, fun i hi => qsr_k (by omega), (Oth.sr _ a _ _).lw a2⟩
  have R7 : gr (sr h27 a 24 (some q26)) a 24 = some q26 := qsr_s
  refine ⟨k27, k7, ⟨by decide, by decide⟩, by decide, fun q28 q28a q28z => ?_⟩
  generalize sr h27 a 24 (some q26) = g7 at P7 k7 L7 R7 q28z ⊢
  have P8 : KP a 25 g7 (sr g7 a 25 (some 1200)) := ⟨FmQ.sr, fun _ => rfl, fun i hi => qsr_k (by omega), (Oth.sr _ a _ _).lw a2⟩
  have k8 := (P8.1.kd (nz k7 (by decide))).trans k7
  generalize sr g7 a 25 (some 1200) = g8 at P8 k8 q28z ⊢
  have P9 : KP a 26 g8 (sr (nw g8 q28 16 0) a 26 (some q28)) := KP.of k8 a2 (FmQ.nw q28z) ((Oth.nw g8 q28 16 0).lw q28a)
  have k9 := (P9.1.kd (nz k8 (by decide))).trans k8
  refine ⟨(qnw_ka (ne_of_kd (nz k8 (by decide)) q28z)).trans k8, ?_⟩
  intro h29
  have e29 : h29 = sr (nw g8 q28 16 0) a 26 (some q28) := rfl
  rw [← e29] at P9 k9
  clear_value h29
  have T7 := P8.trans P9 (by decide)
  have T6 := P7.trans T7 (by decide)
  have T5 := P6.trans T6 (by decide)
  have T4 := P5.trans T5 (by decide)
  have T3 := P4.trans T4 (by decide)
  have T2 := P3.trans T3 (by decide)
  have T1 := P2.trans T2 (by decide)
  have T0 := P1.trans T1 (by decide)
  have B1 := A1.kp (by decide) k1 T1
  have B2 := A2.kp (by decide) k2 T2
  have B3 := A3.kp (by decide) k3 T3
  have B4 := M4.kp k4 T4
  have B5 := M5.kp k5 T5
  have B6 := ls_kp L6 k6 T6
  have B7 := ls_kp L7 k7 T7
  have z : ∀ j, (j < 5 ∨ (10 < j ∧ j < 44) ∨ (49 ≤ j ∧ j < 253)) → clrS s j = 0 := fun j hj => clr_0 hj
  obtain ⟨s5, s6, s7, s8, s9, s10⟩ := clr_1 (s := s)
  have G := T0.2.1
  have s12 : clrS s 12 = 0 := z 12 (by omega)
  have n0 : ∀ j, j < 5 → nn (clrS s j) = 0 := fun j hj => by rw [z j (by omega)]; exact nn_0
  refine K h29 (fun j => if j = 0 then q24 else if j = 1 then 1402 else if j = 2 then q26 else if j = 3 then 1402 else if j = 4 then q12 else if j = 5 then q13 else if j = 6 then q15 else if j = 7 then q18 else q21, [], [], r19, r22) ⟨⟨⟨k9, a2⟩, ⟨?_, ?_, ?_, ?_, ?_, ?_, ?_, ?_, ?_, ?_, ?_⟩, fun e => ?_, fun e => ?_, fun e => ?_⟩, ⟨?_, ?_, ?_, ?_, ?_, ?_, ?_⟩, ⟨⟨B1.2.1, B1.2.2.1, fun y hy => ?_⟩, ⟨B2.2.1, B2.2.2.1, fun y hy => ?_⟩, ⟨B3.2.1, B3.2.2.1, fun y hy => ?_⟩, ⟨B4.1, B4.2.1, fun y hy => ⟨(B4.2.2 y hy).1, (B4.2.2 y hy).2.2.1, (B4.2.2 y hy).2.2.2.1, fun b hb _ => ?_⟩⟩, ⟨B5.1, B5.2.1, fun y hy => ⟨(B5.2.2 y hy).1, (B5.2.2 y hy).2.2.1, (B5.2.2 y hy).2.2.2.1, fun b hb _ => ?_⟩⟩⟩, ⟨B6.2, (n0 2 (by decide)).symm, List.nodup_nil, fun y hy => absurd hy (Nat.not_lt_zero y)⟩, ⟨B7.2, B6.1, B7.1, n24_26, Or.inl rfl, Or.inl rfl⟩⟩ rfl ⟨r19i, r22i, fun x y hx hy => n19_22 x y hx hy, ⟨n12_13, n12_15, n13_15⟩, ⟨B1.1, B2.1, B3.1⟩, fun y hy => (B4.2.2 y hy).2.1, fun y hy => (B5.2.2 y hy).2.1⟩ ⟨fun y hy => ?_, fun y hy => ?_, fun y hy => ?_, fun y hy b hb => ?_, fun y hy b hb => ?_⟩ ((G 27).trans (i6 27 (by decide))) (f11.trans T0.1 (fun n hn _ => hn)) (l11.trans T0.2.2.2)
  · rw [s5]; exact (G 0).trans i0
  · rw [s6]; exact (G 1).trans i1
  · rw [s7]; exact (G 2).trans i2
  · rw [s8]; exact (G 3).trans i3
  · rw [s9]; exact (G 4).trans i4
  · rw [s10]; exact (G 5).trans i5
  · rw [z 11 (by omega)]; exact (G 6).trans (i6 6 (by decide))
  · rw [s12]; exact (G 8).trans (i6 8 (by decide))
  · rw [z 0 (by omega)]; exact (G 15).trans (i6 15 (by decide))
  · rw [z 1 (by omega)]; exact (G 16).trans (i6 16 (by decide))
  · rw [z 3 (by omega)]; exact (G 17).trans (i6 17 (by decide))
  · exfalso
    unfold hasP at e
    rw [s12] at e
    exact absurd e (by decide)
  · exfalso
    rw [s12] at e
    exact absurd e (by decide)
  · exfalso
    rw [s12] at e
    exact absurd e (fun z => by
      rcases z with z | z
      · exact absurd z (by decide)
      · exact absurd z.1 (by decide))
  · exact (T1.2.2.1 18 (by decide)).trans R1
  · exact (T2.2.2.1 19 (by decide)).trans R2
  · exact (T3.2.2.1 20 (by decide)).trans R3
  · exact (T4.2.2.1 21 (by decide)).trans R4
  · exact (T5.2.2.1 22 (by decide)).trans R5
  · exact (T6.2.2.1 23 (by decide)).trans R6
  · exact (T7.2.2.1 24 (by decide)).trans R7
  · rw [n0 0 (by decide)] at hy; exact absurd hy (Nat.not_lt_zero y)
  · rw [n0 0 (by decide)] at hy; exact absurd hy (Nat.not_lt_zero y)
  · rw [n0 1 (by decide)] at hy; exact absurd hy (Nat.not_lt_zero y)
  · rw [n0 0 (by decide)] at hb; exact absurd hb (Nat.not_lt_zero b)
  · rw [n0 2 (by decide)] at hb; exact absurd hb (Nat.not_lt_zero b)
  · rw [z _ (by omega)]; exact B1.2.2.2 y hy
  · rw [z _ (by omega)]; exact B2.2.2.2 y hy
  · rw [show clrS s (44 + y) = -(nI 1) by unfold clrS; rw [if_pos (by omega), if_pos (by omega)]]; exact B3.2.2.2 y hy
  · rw [z _ (by omega), b_0]; exact (B4.2.2 y hy).2.2.2.2 b hb
  · rw [show mf (clrS s) y 6 = 0 from z _ (by omega), b_0]; exact (B5.2.2 y hy).2.2.2.2 b hb
end
