/-! ===== the class reads a command's arguments ===== -/
section
variable {q : Nat → PH → Prop} {kk kj : Int32 → PH → Prop} {kl : Int64 → PH → Prop} {kv : PH → Prop} {h h' : PH} {s t g : RW} {C E L : Nat} {a b n m p v w j ct : Nat} {nm : Nat → Int64} {c : Nat → Nat} {td : Nat → Bool} {J : RW → (Nat → Int64) → (Nat → Bool) → Nat → PH → Prop}
def WAr (ct b k : Nat) : Prop := (b = 1 ∧ 2 ≤ k) ∨ ((b = 7 ∨ b = 8 ∨ b = 9) ∧ k = ct)
theorem FAb (x : Fz WB VA h h') : Fz (WAr ct) VCs h h' := x.mono (fun b k y => by unfold WB at y; unfold WAr; omega) (fun b y => y)
theorem FAi {x : Int32} (hb : b = 7 ∨ b = 8 ∨ b = 9) : Fz (WAr ct) VCs h (si h b ct x) := Fz.si h x (Or.inr ⟨hb, rfl⟩)
theorem FAC (x : Fz (WAr ct) VCs h h') : Fq WCs VCs h h' := (x.mono (W2 := WCs) (V2 := VCs) (fun b k y => by unfold WAr at y; unfold WCs; omega) (fun b y => y)).tq
theorem CY.si {x : Int32} {k : Nat} (hb : 5 ≤ b ∧ b ≤ 12) (S : CY c n s nm p h) : CY c n s nm p (si h b k x) := S.pr (Fz.si h x hb)
theorem y86o (hj : j < 10) (e4 : cfv (1020 + j) 4 = -(nI 1)) (K : kj (nI 1) h) : At m_X7_readArguments (rI q kj) 86 0 [some (.ref 5), some (.ref (1020 + j)), some (.ref 1), some (.ref 15)] [] h :=
  u_X7_readArguments_86 ⟨Or.inr (Or.inl ⟨rfl, by omega, by omega⟩), fun _ => ⟨isB_1, K⟩, fun y => absurd e4 y⟩
theorem y86n {lo hi : Nat} {F : Nat → Nat → Rs} (hj : j < 10) (e3 : cfv (1020 + j) 3 = nI lo) (e4 : cfv (1020 + j) 4 = nI hi) (hlo : lo < 2000) (hhi : hi < 2000) (hct : ct < 30) (e5 : gi h 5 5 = nI ct) (S : CY c n s nm p h) (K : Kz J h kk (aNum c n lo hi p F)) (E0 : ∀ h', kk (nI 0) h' → kj (nI 0) h')
    (E1 : ∀ x p' h', Fz (WAr ct) VCs h h' → (∀ b, b = 7 ∨ b = 8 → gi h' b ct = gi h b ct) → gi h' 9 ct = nI x → CY c n s nm p' h' → Kz J h' kk (F x p') → kj (nI 1) h') : At m_X7_readArguments (rI q kj) 86 0 [some (.ref 5), some (.ref (1020 + j)), some (.ref 1), some (.ref 15)] [] h := by
  refine u_X7_readArguments_86 ⟨Or.inr (Or.inl ⟨rfl, by omega, by omega⟩), fun y => ?_, fun _ => ⟨Or.inr (Or.inl ⟨rfl, by omega, by omega⟩), Or.inr (Or.inl ⟨rfl, by omega, by omega⟩), ?_⟩⟩
  · rw [e4] at y
    exact absurd y (nIm (by omega))
  · rw [e3, e4, e5, cl (by omega)]
    have v1 : vp_in (nI ct) 30 := vp_in_nI (by omega) (by omega)
    have c5 : ∀ h1 (x : Int32), (∀ b, b = 5 → gi h1 b 5 = gi h b 5) → gi (si h1 9 ct x) 5 5 = nI ct := fun h1 x z => by rw [gi_ob (by omega), z 5 rfl, e5]
    refine y_num hlo hhi S K (fun h1 x1 Z => ⟨v1, ?_⟩) (fun x p1 h1 l1 l2 l3 x1 S1 K1 => ⟨v1, ?_⟩)
    · rw [c5 h1 _ (fun b hb => by subst hb; exact x1.1 5 5 (by unfold WB; omega)), cl (by omega)]
      refine ⟨v1, ?_⟩
      intro y3
      have e3' : y3 = -(nI 1) := gi_same
      clear_value y3
      subst e3'
      exact ⟨fun _ => ⟨isB_0, E0 _ (Z _ (FCi (by omega)) (gi_ob (by omega)) (gi_ob (by omega)))⟩, fun y => absurd rfl y⟩
    · rw [c5 h1 _ (fun b hb => by subst hb; exact x1.1 5 5 (by unfold WB; omega)), cl (by omega)]
      refine ⟨v1, ?_⟩
      intro y3
      have e3' : y3 = nI x := gi_same
      clear_value y3
      subst e3'
      refine ⟨fun y => absurd y (nIm (by omega)), fun _ => ⟨isB_1, ?_⟩⟩
      have F1 : Fz (WAr ct) VCs h1 (si h1 9 ct (nI x)) := FAi (by omega)
      exact E1 x p1 _ ((FAb x1).trans F1) (fun b hb => by rw [gi_ob (by omega), x1.1 b ct (by unfold WB; omega)]) gi_same (S1.si (by omega)) (K1.fz (FAC F1))
theorem y43o (hj : j < 10) (e2 : cfv (1020 + j) 2 = 0) (K : At m_X7_readArguments (rI q kj) 86 0 [some (.ref 5), some (.ref (1020 + j)), some (.ref 1), some (.ref 15)] [] h) : At m_X7_readArguments (rI q kj) 43 0 [some (.ref 5), some (.ref (1020 + j)), some (.ref 1), some (.ref 15)] [] h :=
  u_X7_readArguments_43 ⟨Or.inr (Or.inl ⟨rfl, by omega, by omega⟩), fun _ => K, fun y => absurd e2 y⟩
theorem y43v {F : Nat → Rs} (hj : j < 10) (e2 : ¬ cfv (1020 + j) 2 = 0) (hct : ct < 30) (e5 : gi h 5 5 = nI ct) (S : CY c n s nm p h) (K : Kz J h kk (aFnd c n nm 0 (nn (s 0)) p F)) (E0 : ∀ h', kk (nI 0) h' → kj (nI 0) h')
    (E1 : ∀ a h', Fz (WAr ct) VCs h h' → (∀ b, b = 7 ∨ b = 9 → gi h' b ct = gi h b ct) → gi h' 8 ct = nI a → CY c n s nm (tE c n p) h' → Kz J h' kk (F a) → At m_X7_readArguments (rI q kj) 86 0 [some (.ref 5), some (.ref (1020 + j)), some (.ref 1), some (.ref 15)] [] h') : At m_X7_readArguments (rI q kj) 43 0 [some (.ref 5), some (.ref (1020 + j)), some (.ref 1), some (.ref 15)] [] h := by
  refine u_X7_readArguments_43 ⟨Or.inr (Or.inl ⟨rfl, by omega, by omega⟩), fun y => absurd y e2, fun _ => ?_⟩
  have l8 := S.l.2.1
  rw [e5, cl (by omega)]
  have v1 : vp_in (nI ct) 30 := vp_in_nI (by omega) (by omega)
  have c5 : ∀ h1 (x : Int32), (∀ b, b = 5 → gi h1 b 5 = gi h b 5) → gi (si h1 8 ct x) 5 5 = nI ct := fun h1 x z => by rw [gi_ob (by omega), z 5 rfl, e5]
  refine y_fnd (Or.inl ⟨rfl, rfl, rfl⟩) S K (fun h1 x1 Z => ⟨v1, ?_⟩) (fun a ha _ K1 => ⟨v1, ?_⟩)
  · rw [c5 h1 _ (fun b hb => by subst hb; exact x1.1 5 5 (by unfold WB; omega)), cl (by omega)]
    refine ⟨v1, ?_⟩
    intro y3
    have e3' : y3 = -(nI 1) := gi_same
    clear_value y3
    subst e3'
    exact ⟨fun y => absurd rfl y, fun _ => ⟨isB_0, E0 _ (Z _ (FCi (by omega)) (gi_ob (by omega)) (gi_ob (by omega)))⟩⟩
  · rw [c5 h _ (fun b hb => rfl), cl (by omega)]
    refine ⟨v1, ?_⟩
    intro y3
    have e3' : y3 = nI a := gi_same
    clear_value y3
    subst e3'
    have F1 : Fz (WAr ct) VCs h (si h 8 ct (nI a)) := FAi (by omega)
    refine ⟨fun _ => y_next (S.si (by omega)) (fun h2 x2 S2 => ?_), fun y => absurd y (nIm (by omega))⟩
    exact E1 a h2 (F1.trans (FAb x2)) (fun b hb => by rw [x2.1 b ct (by unfold WB; omega), gi_ob (by omega)]) (by rw [x2.1 8 ct (by unfold WB; omega), gi_same]) S2 (K1.fz (FAC (F1.trans (FAb x2))))
theorem y0o (hj : j < 10) (e1 : cfv (1020 + j) 1 = 0) (K : At m_X7_readArguments (rI q kj) 43 0 [some (.ref 5), some (.ref (1020 + j)), some (.ref 1), some (.ref 15)] [] h) : MetPM m_X7_readArguments [.ref 5, .ref (1020 + j), .ref 1, .ref 15] h (rI q kj) :=
  t_X7_readArguments ⟨Or.inr (Or.inl ⟨rfl, by omega, by omega⟩), fun _ => K, fun y => absurd e1 y⟩
theorem y0m {F : Nat → Rs} (hj : j < 10) (e1 : ¬ cfv (1020 + j) 1 = 0) (hct : ct < 30) (e5 : gi h 5 5 = nI ct) (S : CY c n s nm p h) (K : Kz J h kk (aFnd c n nm 13 (nn (s 2)) p F)) (E0 : ∀ h', kk (nI 0) h' → kj (nI 0) h')
    (E1 : ∀ a h', Fz (WAr ct) VCs h h' → gi h' 7 ct = nI a → CY c n s nm (tE c n p) h' → Kz J h' kk (F a) → At m_X7_readArguments (rI q kj) 43 0 [some (.ref 5), some (.ref (1020 + j)), some (.ref 1), some (.ref 15)] [] h') : MetPM m_X7_readArguments [.ref 5, .ref (1020 + j), .ref 1, .ref 15] h (rI q kj) := by
  refine t_X7_readArguments ⟨Or.inr (Or.inl ⟨rfl, by omega, by omega⟩), fun y => absurd y e1, fun _ => ?_⟩
  have l12 := S.l.2.2.2
  rw [e5, cl (by omega)]
  have v1 : vp_in (nI ct) 30 := vp_in_nI (by omega) (by omega)
  have c5 : ∀ h1 (x : Int32), (∀ b, b = 5 → gi h1 b 5 = gi h b 5) → gi (si h1 7 ct x) 5 5 = nI ct := fun h1 x z => by rw [gi_ob (by omega), z 5 rfl, e5]
  refine y_fnd (Or.inr ⟨rfl, rfl, rfl⟩) S K (fun h1 x1 Z => ⟨v1, ?_⟩) (fun a ha _ K1 => ⟨v1, ?_⟩)
  · rw [c5 h1 _ (fun b hb => by subst hb; exact x1.1 5 5 (by unfold WB; omega)), cl (by omega)]
    refine ⟨v1, ?_⟩
    intro y3
    have e3' : y3 = -(nI 1) := gi_same
    clear_value y3
    subst e3'
    exact ⟨fun y => absurd rfl y, fun _ => ⟨isB_0, E0 _ (Z _ (FCi (by omega)) (gi_ob (by omega)) (gi_ob (by omega)))⟩⟩
  · rw [c5 h _ (fun b hb => rfl), cl (by omega)]
    refine ⟨v1, ?_⟩
    intro y3
    have e3' : y3 = nI a := gi_same
    clear_value y3
    subst e3'
    have F1 : Fz (WAr ct) VCs h (si h 7 ct (nI a)) := FAi (by omega)
    refine ⟨fun _ => y_next (S.si (by omega)) (fun h2 x2 S2 => ?_), fun y => absurd y (nIm (by omega))⟩
    exact E1 a h2 (F1.trans (FAb x2)) (by rw [x2.1 7 ct (by unfold WB; omega), gi_same]) S2 (K1.fz (FAC (F1.trans (FAb x2))))
/-- where the arguments of a command lie -/
def AF (j ct x y : Nat) (h : PH) : Prop := (4 ≤ j ∧ j ≤ 7 → gi h 7 ct = nI x) ∧ (j = 1 → gi h 8 ct = nI x) ∧ (j = 7 → gi h 8 ct = nI y) ∧ (j = 0 ∨ j = 8 ∨ j = 9 → gi h 9 ct = nI x) ∧ (j = 6 → gi h 9 ct = nI y)
theorem cmd_f : ∀ j, j < 10 → (cfv (1020 + j) 1 = 0 ↔ ¬ (4 ≤ j ∧ j ≤ 7)) ∧ (cfv (1020 + j) 2 = 0 ↔ ¬ (j = 1 ∨ j = 7)) ∧ (cfv (1020 + j) 3 = nI (if j = 9 then 1 else 0)) ∧ (cfv (1020 + j) 4 = if j = 9 then nI 20 else if j = 0 ∨ j = 6 ∨ j = 8 then nI 999 else -(nI 1)) := by decide +kernel
theorem y_arg {F : Nat → Nat → Nat → Rs} (hj : j < 10) (hct : ct < 30) (e5 : gi h 5 5 = nI ct) (S : CY c n s nm p h) (K : Kz J h kk (aArg c n s nm j p F)) (E0 : ∀ h', kk (nI 0) h' → kj (nI 0) h')
    (E1 : ∀ x y p' h', Fz (WAr ct) VCs h h' → AF j ct x y h' → CY c n s nm p' h' → Kz J h' kk (F x y p') → kj (nI 1) h') : MetPM m_X7_readArguments [.ref 5, .ref (1020 + j), .ref 1, .ref 15] h (rI q kj) := by
  obtain ⟨f1, f2, f3, f4⟩ := cmd_f j hj
  have g5 : ∀ h1, Fz (WAr ct) VCs h h1 → gi h1 5 5 = nI ct := fun h1 x => (x.1 5 5 (by unfold WAr; omega)).trans e5
  unfold aArg at K
  by_cases d1 : j = 0 ∨ j = 8
  · rw [if_pos d1] at K
    rw [if_neg (by omega)] at f3
    rw [if_neg (by omega), if_pos (by omega)] at f4
    refine y0o hj (f1.mpr (by omega)) (y43o hj (f2.mpr (by omega)) (y86n hj f3 f4 (by omega) (by omega) hct e5 S K E0 (fun x p1 h1 x1 o1 g1 S1 K1 => E1 x 0 p1 h1 x1 ⟨fun z => by omega, fun z => by omega, fun z => by omega, fun _ => g1, fun z => by omega⟩ S1 K1)))
  rw [if_neg d1] at K
  by_cases d2 : j = 1
  · rw [if_pos d2] at K
    rw [if_neg (by omega), if_neg (by omega)] at f4
    refine y0o hj (f1.mpr (by omega)) (y43v hj (fun z => f2.mp z (by omega)) hct e5 S K E0 (fun a h1 x1 o1 g1 S1 K1 => y86o hj f4 (E1 a 0 _ h1 x1 ⟨fun z => by omega, fun _ => g1, fun z => by omega, fun z => by omega, fun z => by omega⟩ S1 K1)))
  rw [if_neg d2] at K
  by_cases d3 : j < 4
  · rw [if_pos d3] at K
    rw [if_neg (by omega), if_neg (by omega)] at f4
    exact y0o hj (f1.mpr (by omega)) (y43o hj (f2.mpr (by omega)) (y86o hj f4 (E1 0 0 _ h (Fz.refl _ _ _) ⟨fun z => by omega, fun z => by omega, fun z => by omega, fun z => by omega, fun z => by omega⟩ S K)))
  rw [if_neg d3] at K
  by_cases d4 : j < 6
  · rw [if_pos d4] at K
    rw [if_neg (by omega), if_neg (by omega)] at f4
    refine y0m hj (fun z => f1.mp z (by omega)) hct e5 S K E0 (fun a h1 x1 g1 S1 K1 => y43o hj (f2.mpr (by omega)) (y86o hj f4 (E1 a 0 _ h1 x1 ⟨fun _ => g1, fun z => by omega, fun z => by omega, fun z => by omega, fun z => by omega⟩ S1 K1)))
  rw [if_neg d4] at K
  by_cases d5 : j = 6
  · rw [if_pos d5] at K
    rw [if_neg (by omega)] at f3
    rw [if_neg (by omega), if_pos (by omega)] at f4
    refine y0m hj (fun z => f1.mp z (by omega)) hct e5 S K E0 (fun a h1 x1 g1 S1 K1 => y43o hj (f2.mpr (by omega)) (y86n hj f3 f4 (by omega) (by omega) hct (g5 h1 x1) S1 K1 E0 (fun y p1 h2 x2 o2 g2 S2 K2 => E1 a y p1 h2 (x1.trans x2) ⟨fun _ => (o2 7 (by omega)).trans g1, fun z => by omega, fun z => by omega, fun z => by omega, fun _ => g2⟩ S2 K2)))
  rw [if_neg d5] at K
  by_cases d6 : j = 7
  · rw [if_pos d6] at K
    rw [if_neg (by omega), if_neg (by omega)] at f4
    refine y0m hj (fun z => f1.mp z (by omega)) hct e5 S K E0 (fun a h1 x1 g1 S1 K1 => y43v hj (fun z => f2.mp z (by omega)) hct (g5 h1 x1) S1 K1 E0 (fun v h2 x2 o2 g2 S2 K2 => y86o hj f4 (E1 a v _ h2 (x1.trans x2) ⟨fun _ => (o2 7 (by omega)).trans g1, fun z => by omega, fun _ => g2, fun z => by omega, fun z => by omega⟩ S2 K2)))
  rw [if_neg d6] at K
  have d9 : j = 9 := by omega
  rw [if_pos d9] at f3
  rw [if_pos d9] at f4
  exact y0o hj (f1.mpr (by omega)) (y43o hj (f2.mpr (by omega)) (y86n hj f3 f4 (by omega) (by omega) hct e5 S K E0 (fun x p1 h1 x1 o1 g1 S1 K1 => E1 x 0 p1 h1 x1 ⟨fun z => by omega, fun z => by omega, fun z => by omega, fun _ => g1, fun z => by omega⟩ S1 K1)))
end
