/-! ===== the model's readText ===== -/
section
variable {q : Nat → PH → Prop} {kk kj : Int32 → PH → Prop} {kl : Int64 → PH → Prop} {kv kw k1 : PH → Prop} {h h' : PH} {s t : RW} {C E L : Nat} {a b n m p v w e pl i : Nat} {f g : FI} {nm : Nat → Int64} {c : Nat → Nat} {td : Nat → Bool} {y : Int64}
def WX2 (b k : Nat) : Prop := (b = 130 ∧ (k = 0 ∨ (2 ≤ k ∧ k ≤ 11) ∨ k = 21 ∨ k = 23)) ∨ (b = 132 ∧ k < 253) ∨ b = 135
def VX2 (b : Nat) : Prop := b = 130 ∨ b = 137 ∨ b = 139
theorem FXp (x : Fz WP VP h h') : Fz WX2 VX2 h h' := x.mono (fun b k y => by unfold WP at y; unfold WX2; omega) (fun b y => by unfold VP at y; unfold VX2; omega)
theorem FXi {k : Nat} {x : Int32} (hk : k = 0 ∨ (2 ≤ k ∧ k ≤ 11) ∨ k = 21 ∨ k = 23) : Fz WX2 VX2 h (si h 130 k x) := Fz.si h x (Or.inl ⟨rfl, hk⟩)
theorem FXr (x : Fr WR h h') : Fz WX2 VX2 h h' := FXp (FPr x)
theorem FXl {j : Nat} {x : Int64} (hb : b = 137 ∨ b = 139) : Fz WX2 VX2 h (sl h b j x) := Fz.sl h x (Or.inr hb)
theorem FX5 (x : Fr W135 h h') : Fz WX2 VX2 h h' := Fz.fr x (fun b k y => Or.inr (Or.inr (Nat.eq_of_beq_eq_true y)))
/-- names laid aside -/
theorem l_rt10 {h0 : PH} (K : ∀ h', h'.1 = h0.1 → (∀ b, b ≠ 139 → h'.2.1 b = h0.2.1 b) → Fz WX2 VX2 h0 h' → (∀ j, j < 25 → gl h' 139 j = gl h0 137 j) → MetPM m_X12_clears [.ref 130] h' (rV (hnd (rI q kk) (At m_X12_readText (rI q kk)) 0 [some (.ref 130), some (.int (nI 25))] []) (fun h1 => At m_X12_readText (rI q kk) 43 0 [some (.ref 130), some (.int (nI 25))] [] (si h1 130 23 (nI 0))))) : ∀ k i h, i + k = 25 → h.1 = h0.1 → (∀ b, b ≠ 139 → h.2.1 b = h0.2.1 b) → Fz WX2 VX2 h0 h → (∀ j, j < i → gl h 139 j = gl h0 137 j) → At m_X12_readText (rI q kk) 10 0 [some (.ref 130), some (.int (nI i))] [] h := by
  intro k
  induction k with
  | zero =>
    intro i h hi e1 e2 F A
    have hi2 : i = 25 := by omega
    subst hi2
    exact u_X12_readText_10 (pk_le 25 25 (fun _ => K h e1 e2 F A) (fun y => absurd y (by omega)))
  | succ k ih =>
    intro i h hi e1 e2 F A
    refine u_X12_readText_10 (pk_le 25 i (fun y => absurd y (by omega)) (fun _ => ⟨vp_in_nI (by omega) (by omega), vp_in_nI (by omega) (by omega), ?_⟩))
    rw [cl (by omega), nI_add]
    refine ih (i + 1) _ (by omega) e1 (fun b hb => ?_) (F.trans (FXl (Or.inr rfl))) (fun j hj => ?_)
    · rw [← e2 b hb]
      exact funext fun j => gl_ob hb
    · by_cases d : j = i
      · rw [d, gl_same]
        show h.2.1 137 i = _
        rw [e2 137 (by omega)]; rfl
      · rw [gl_ok d]; exact A j (by omega)
theorem l_rt100 {h0 : PH} (K : ∀ h', h'.1 = h0.1 → Fz WX2 VX2 h0 h' → (∀ j, j < 25 → gl h' 137 j = gl h0 139 j) → kk (nI 0) h') : ∀ k i h, i + k = 25 → h.1 = h0.1 → (∀ b, b ≠ 137 → h.2.1 b = h0.2.1 b) → Fz WX2 VX2 h0 h → (∀ j, j < i → gl h 137 j = gl h0 139 j) → At m_X12_readText (rI q kk) 100 0 [some (.ref 130), some (.int (nI i))] [] h := by
  intro k
  induction k with
  | zero =>
    intro i h hi e1 e2 F A
    refine u_X12_readText_100 (pk_le 25 i (fun _ => K h e1 F (fun j hj => A j (by omega))) (fun y => absurd y (by omega)))
  | succ k ih =>
    intro i h hi e1 e2 F A
    refine u_X12_readText_100 (pk_le 25 i (fun y => absurd y (by omega)) (fun _ => ⟨vp_in_nI (by omega) (by omega), vp_in_nI (by omega) (by omega), ?_⟩))
    rw [cl (by omega), nI_add]
    refine ih (i + 1) _ (by omega) e1 (fun b hb => ?_) (F.trans (FXl (Or.inl rfl))) (fun j hj => ?_)
    · rw [← e2 b hb]
      exact funext fun j => gl_ob hb
    · by_cases d : j = i
      · rw [d, gl_same]
        show h.2.1 139 i = _
        rw [e2 139 (by omega)]; rfl
      · rw [gl_ok d]; exact A j (by omega)
theorem l_rt73 {h0 : PH} (K : ∀ h', Fr WR h0 h' → (∀ j, j < 253 → gi h' 132 j = gi h0 135 j) → At m_X12_readText (rI q kk) 100 0 [some (.ref 130), some (.int (nI 0))] [] h') : ∀ k i h, i + k = 253 → Fr WR h0 h → (∀ j, j < i → gi h 132 j = gi h0 135 j) → At m_X12_readText (rI q kk) 73 0 [some (.ref 130), some (.int (nI i))] [] h := by
  intro k
  induction k with
  | zero =>
    intro i h hi F A
    refine u_X12_readText_73 (pk_le 253 i (fun _ => K h F (fun j hj => A j (by omega))) (fun z => absurd z (by omega)))
  | succ k ih =>
    intro i h hi F A
    refine u_X12_readText_73 (pk_le 253 i (fun z => absurd z (by omega)) (fun _ => ⟨rv (by omega), rv (by omega), ?_⟩))
    rw [cl (by omega), nI_add]
    refine ih (i + 1) _ (by omega) (F.and _ (WR_t (by omega))) (fun j hj => ?_)
    by_cases d : j = i
    · subst d; rw [gi_same, F.1 135 j rfl]
    · rw [gi_ok d]; exact A j (by omega)
/-- what the reading of the text comes to -/
def rtR (c : Nat → Nat) (n : Nat) (h : PH) : Rs := aAll c n 900 (clrS (h.1 132)) (fun i => gl h 137 i) (fun _ => false) 0
theorem s_readText (hn : n ≤ 900) (hc : ∀ j, c j < 256) (e2 : gi h 130 2 = nI n) (eb : ∀ j, j < n → gi h 131 j = nI (c j))
    (K0 : ∀ e pl, rtR c n h = .inl (e, pl) → ∀ h', Fz WX2 VX2 h h' → h'.1 132 = h.1 132 → (∀ i, i < 25 → gl h' 137 i = gl h 137 i) → gi h' 130 0 = nI 1 → gi h' 130 2 = nI 0 → gi h' 130 10 = nI e → gi h' 130 11 = nI pl → gi h' 130 21 = gi h 130 21 → kk (nI 0) h')
    (K1 : ∀ s nm td p, rtR c n h = .inr (s, nm, td, p) → ∀ h', Fz WX2 VX2 h h' → h'.1 132 = s → (∀ i, gl h' 137 i = nm i) → PR s → ND nm s → gi h' 130 0 = nI 0 → gi h' 130 2 = nI 0 → gi h' 130 10 = nI 0 → gi h' 130 11 = -(nI 1) → gi h' 130 21 = nI 0 → kk (s 2) h') : MetPM m_X12_readText [.ref 130] h (rI q kk) := by
  refine t_X12_readText (t_X12_beginsText ?_)
  intro h1
  have x1 : Fz WX2 VX2 h h1 := ((((FXi (by omega)).trans (FXi (by omega))).trans (FXi (by omega))).trans (FXi (by omega))).trans (FXi (by omega))
  have g2 : gi h1 130 2 = nI 0 := by
    show gi (si (si (si (si (si h 130 3 (gi h 130 2)) 130 2 (nI 0)) 130 4 (nI 0)) 130 8 (nI 0)) 130 9 (-(nI 1))) 130 2 = _
    rw [gi_ok (by omega), gi_ok (by omega), gi_ok (by omega), gi_same]
  have g3 : gi h1 130 3 = nI n := by
    show gi (si (si (si (si (si h 130 3 (gi h 130 2)) 130 2 (nI 0)) 130 4 (nI 0)) 130 8 (nI 0)) 130 9 (-(nI 1))) 130 3 = _
    rw [gi_ok (by omega), gi_ok (by omega), gi_ok (by omega), gi_ok (by omega), gi_same]; exact e2
  have g4 : gi h1 130 4 = nI 0 := by
    show gi (si (si (si (si (si h 130 3 (gi h 130 2)) 130 2 (nI 0)) 130 4 (nI 0)) 130 8 (nI 0)) 130 9 (-(nI 1))) 130 4 = _
    rw [gi_ok (by omega), gi_ok (by omega), gi_same]
  have g8 : gi h1 130 8 = nI 0 := by
    show gi (si (si (si (si (si h 130 3 (gi h 130 2)) 130 2 (nI 0)) 130 4 (nI 0)) 130 8 (nI 0)) 130 9 (-(nI 1))) 130 8 = _
    rw [gi_ok (by omega), gi_same]
  have g9 : gi h1 130 9 = -(nI 1) := gi_same
  have g21 : gi h1 130 21 = gi h 130 21 := by
    show gi (si (si (si (si (si h 130 3 (gi h 130 2)) 130 2 (nI 0)) 130 4 (nI 0)) 130 8 (nI 0)) 130 9 (-(nI 1))) 130 21 = _
    rw [gi_ok (by omega), gi_ok (by omega), gi_ok (by omega), gi_ok (by omega), gi_ok (by omega)]
  have gb : ∀ b, b ≠ 130 → h1.1 b = h.1 b := fun b hb => by
    show (si (si (si (si (si h 130 3 (gi h 130 2)) 130 2 (nI 0)) 130 4 (nI 0)) 130 8 (nI 0)) 130 9 (-(nI 1))).1 b = _
    rw [si_b hb, si_b hb, si_b hb, si_b hb, si_b hb]
  have gl1 : h1.2 = h.2 := rfl
  clear_value h1
  have B1 : MB c n h1 := ⟨hn, hc, g3, fun j hj => by
    show h1.1 131 j = _
    rw [gb 131 (by omega)]; exact eb j hj⟩
  refine s_goOn (Nat.zero_le n) B1 g4 (fun h2 x2 T2 => s_laysAside (fun h3 f3 a3 => ?_))
  have B2 := B1.ft x2
  have o3 : ∀ b, b ≠ 135 → h3.1 b = h2.1 b := fun b hb => f3.cell (fun k => by
    unfold W135
    cases z : Nat.beq b 135
    · rfl
    · exact absurd (Nat.eq_of_beq_eq_true z) hb)
  refine l_rt10 (fun h4 f4 l4 F4 a4 => ?_) 25 0 h3 (by omega) rfl (fun _ _ => rfl) (Fz.refl _ _ _) (fun j hj => absurd hj (by omega))
  have r4 : h4.1 132 = h.1 132 := by rw [f4, o3 132 (by omega), x2.cell (fun k => by unfold WT; omega), gb 132 (by omega)]
  have n4 : ∀ i, gl h4 137 i = gl h 137 i := fun i => by
    show h4.2.1 137 i = _
    rw [l4 137 (by omega), f3.2, x2.2.1 137 (by unfold VT; omega), gl1]; rfl
  have i4 : ∀ b k, b ≠ 135 → gi h4 b k = gi h2 b k := fun b k hb => by
    show h4.1 b k = _
    rw [f4, o3 b hb]; rfl
  refine l_clr (h.1 132) (fun h5 f5 r5 => ?_) (fun j hj => congrFun r4 j)
  have o5 : ∀ b, b ≠ 132 → h5.1 b = h4.1 b := fun b hb => f5.cell (fun k => by
    unfold WR
    cases z : Nat.beq b 132
    · rfl
    · exact absurd (Nat.eq_of_beq_eq_true z) hb)
  have X5 : Fz WX2 VX2 h (si h5 130 23 (nI 0)) := (((((x1.trans (FXp (FPt x2))).trans (FX5 f3)).trans F4).trans (FXr f5)).trans (FXi (by omega)))
  have i5 : ∀ b k, b ≠ 132 → b ≠ 135 → ¬ (b = 130 ∧ k = 23) → gi (si h5 130 23 (nI 0)) b k = gi h2 b k := fun b k h1' h2' h3' => by
    rw [gi_si]
    by_cases d : b = 130
    · rw [if_pos d, if_neg (fun z => h3' ⟨d, z⟩)]
      show h5.1 b k = _
      rw [o5 b h1']; exact i4 b k h2'
    · rw [if_neg d]
      show h5.1 b k = _
      rw [o5 b h1']; exact i4 b k h2'
  have l5 : ∀ b k, b ≠ 139 → gl (si h5 130 23 (nI 0)) b k = gl h2 b k := fun b k hb => by
    show h5.2.1 b k = _
    rw [f5.2, l4 b hb, f3.2]; rfl
  have n5 : ∀ i, gl (si h5 130 23 (nI 0)) 137 i = gl h 137 i := fun i => by
    show h5.2.1 137 i = _
    rw [f5.2]; exact n4 i
  have S5 : MS c n (clrS (h.1 132)) (fun i => gl h 137 i) (fun _ => false) 0 (si h5 130 23 (nI 0)) := by
    have z : ∀ j, j < 5 → nn (clrS (h.1 132) j) = 0 := fun j hj => by rw [clr_0 (by omega)]; exact nn_0
    refine ⟨PR.clr, ⟨fun i j x1 x2 => ?_, fun i j x1 x2 => ?_, fun i j x1 x2 => ?_⟩, (si_b (by omega)).trans r5, n5, ⟨hn, hc, ?_, fun j hj => ?_⟩, ?_, Nat.zero_le _, ?_, ?_, fun w _ _ => ?_⟩
    · rw [z 0 (by omega)] at x2; omega
    · rw [z 1 (by omega)] at x2; omega
    · rw [z 2 (by omega)] at x2; omega
    · rw [i5 130 3 (by omega) (by omega) (by omega)]; exact B2.2.2.1
    · rw [i5 131 j (by omega) (by omega) (by omega)]; exact B2.2.2.2 j hj
    · have T := T2
      unfold MT at T ⊢
      rw [i5 130 6 (by omega) (by omega) (by omega), i5 130 5 (by omega) (by omega) (by omega), i5 130 4 (by omega) (by omega) (by omega), i5 130 7 (by omega) (by omega) (by omega), l5 130 12 (by omega)]
      exact T
    · rw [i5 130 8 (by omega) (by omega) (by omega), x2.1 130 8 (by unfold WT; omega)]; exact g8
    · rw [i5 130 9 (by omega) (by omega) (by omega), x2.1 130 9 (by unfold WT; omega)]; exact g9
    · rw [gi_same]; exact b_0 w
  have k2 : ∀ h6, Fz WP VP (si h5 130 23 (nI 0)) h6 → gi h6 130 2 = nI 0 := fun h6 x => by
    rw [x.1 130 2 (by unfold WP; omega), i5 130 2 (by omega) (by omega) (by omega), x2.1 130 2 (by unfold WT; omega)]; exact g2
  have k21 : ∀ h6, Fz WP VP (si h5 130 23 (nI 0)) h6 → gi h6 130 21 = gi h 130 21 := fun h6 x => by
    rw [x.1 130 21 (by unfold WP; omega), i5 130 21 (by omega) (by omega) (by omega), x2.1 130 21 (by unfold WT; omega)]; exact g21
  refine l_mall 900 _ _ _ 0 _ _ (Nat.zero_le _) (by omega) S5 ⟨fun e pl er h6 x6 M => ?_, fun s nm td p er h6 x6 S6 => ?_⟩
  · refine u_X12_readText_64 (t_X12_endsText ?_)
    have x7 : Fz WX2 VX2 h6 (si (si h6 130 10 (gi h6 130 8)) 130 11 (gi (si h6 130 10 (gi h6 130 8)) 130 9)) := (FXi (by omega)).trans (FXi (by omega))
    have m8 : gi (si (si h6 130 10 (gi h6 130 8)) 130 11 (gi (si h6 130 10 (gi h6 130 8)) 130 9)) 130 8 = gi h6 130 8 := by rw [gi_ok (by omega), gi_ok (by omega)]
    have m10 : gi (si (si h6 130 10 (gi h6 130 8)) 130 11 (gi (si h6 130 10 (gi h6 130 8)) 130 9)) 130 10 = nI e := by rw [gi_ok (by omega), gi_same]; exact M.2.2.1
    have m11 : gi (si (si h6 130 10 (gi h6 130 8)) 130 11 (gi (si h6 130 10 (gi h6 130 8)) 130 9)) 130 11 = nI pl := by rw [gi_same, gi_ok (by omega)]; exact M.2.2.2.1
    have m2 : gi (si (si h6 130 10 (gi h6 130 8)) 130 11 (gi (si h6 130 10 (gi h6 130 8)) 130 9)) 130 2 = nI 0 := by rw [gi_ok (by omega), gi_ok (by omega)]; exact k2 h6 x6
    have m21 : gi (si (si h6 130 10 (gi h6 130 8)) 130 11 (gi (si h6 130 10 (gi h6 130 8)) 130 9)) 130 21 = gi h 130 21 := by rw [gi_ok (by omega), gi_ok (by omega)]; exact k21 h6 x6
    have mb : ∀ b, b ≠ 130 → (si (si h6 130 10 (gi h6 130 8)) 130 11 (gi (si h6 130 10 (gi h6 130 8)) 130 9)).1 b = h6.1 b := fun b hb => by rw [si_b hb, si_b hb]
    have ml : (si (si h6 130 10 (gi h6 130 8)) 130 11 (gi (si h6 130 10 (gi h6 130 8)) 130 9)).2 = h6.2 := rfl
    generalize si (si h6 130 10 (gi h6 130 8)) 130 11 (gi (si h6 130 10 (gi h6 130 8)) 130 9) = h7 at x7 m8 m10 m11 m2 m21 mb ml
    rw [m8]
    refine ⟨fun _ => s_goes (b := false) ⟨isB_0, fun y => absurd rfl y, fun _ => ?_⟩, fun y => absurd y M.ne⟩
    have x8 : Fz WX2 VX2 h7 (si h7 130 0 (nI 1)) := FXi (by omega)
    refine l_rt73 (fun h9 f9 a9 => l_rt100 (fun h10 f10 F10 a10 => ?_) 25 0 h9 (by omega) rfl (fun _ _ => rfl) (Fz.refl _ _ _) (fun j hj => absurd hj (by omega))) 253 0 _ (by omega) (Fr.refl _ _) (fun j hj => absurd hj (by omega))
    have o9 : ∀ b, b ≠ 132 → h9.1 b = (si h7 130 0 (nI 1)).1 b := fun b hb => f9.cell (fun k => by
      unfold WR
      cases z : Nat.beq b 132
      · rfl
      · exact absurd (Nat.eq_of_beq_eq_true z) hb)
    have X10 : Fz WX2 VX2 h h10 := ((((X5.trans (FXp x6)).trans x7).trans x8).trans (FXr f9)).trans F10
    have j10 : ∀ k, k ≠ 0 → gi h10 130 k = gi h7 130 k := fun k hk => by
      show h10.1 130 k = _
      rw [f10, o9 130 (by omega)]
      show gi (si h7 130 0 (nI 1)) 130 k = _
      rw [gi_ok hk]
    have p135 : ∀ j, j < 253 → gi h7 135 j = gi h 132 j := fun j hj => by
      show h7.1 135 j = _
      rw [mb 135 (by omega)]
      show gi h6 135 j = _
      rw [x6.1 135 j (by unfold WP; omega), gi_ob (by omega)]
      show h5.1 135 j = _
      rw [o5 135 (by omega), f4]
      show gi h3 135 j = _
      rw [a3 j hj]
      show h2.1 132 j = _
      rw [x2.cell (fun k => by unfold WT; omega), gb 132 (by omega)]; rfl
    have p139 : ∀ j, j < 25 → gl h9 139 j = gl h 137 j := fun j hj => by
      show h9.2.1 139 j = _
      rw [f9.2]
      show h7.2.1 139 j = _
      rw [ml, x6.2.1 139 (by unfold VP; omega)]
      show h5.2.1 139 j = _
      rw [f5.2]
      show gl h4 139 j = _
      rw [a4 j hj]
      show h3.2.1 137 j = _
      rw [f3.2, x2.2.1 137 (by unfold VT; omega), gl1]; rfl
    refine K0 e pl er h10 X10 (funext fun j => ?_) (fun i hi => ?_) ?_ ?_ ?_ ?_ ?_
    · rcases Nat.lt_or_ge j 253 with hj | hj
      · rw [f10]
        show gi h9 132 j = _
        rw [a9 j hj, gi_ob (by omega)]; exact p135 j hj
      · exact X10.1 132 j (by unfold WX2; omega)
    · rw [a10 i hi]; exact p139 i hi
    · show h10.1 130 0 = _
      rw [f10, o9 130 (by omega)]
      exact gi_same
    · rw [j10 2 (by omega)]; exact m2
    · rw [j10 10 (by omega)]; exact m10
    · rw [j10 11 (by omega)]; exact m11
    · rw [j10 21 (by omega)]; exact m21
  · obtain ⟨P6, N6, Y6⟩ := S6
    refine u_X12_readText_64 (t_X12_endsText ?_)
    have x7 : Fz WX2 VX2 h6 (si (si h6 130 10 (gi h6 130 8)) 130 11 (gi (si h6 130 10 (gi h6 130 8)) 130 9)) := (FXi (by omega)).trans (FXi (by omega))
    have m8 : gi (si (si h6 130 10 (gi h6 130 8)) 130 11 (gi (si h6 130 10 (gi h6 130 8)) 130 9)) 130 8 = gi h6 130 8 := by rw [gi_ok (by omega), gi_ok (by omega)]
    have m10 : gi (si (si h6 130 10 (gi h6 130 8)) 130 11 (gi (si h6 130 10 (gi h6 130 8)) 130 9)) 130 10 = nI 0 := by rw [gi_ok (by omega), gi_same]; exact Y6.e8
    have m11 : gi (si (si h6 130 10 (gi h6 130 8)) 130 11 (gi (si h6 130 10 (gi h6 130 8)) 130 9)) 130 11 = -(nI 1) := by rw [gi_same, gi_ok (by omega)]; exact Y6.e9
    have m2 : gi (si (si h6 130 10 (gi h6 130 8)) 130 11 (gi (si h6 130 10 (gi h6 130 8)) 130 9)) 130 2 = nI 0 := by rw [gi_ok (by omega), gi_ok (by omega)]; exact k2 h6 x6
    have mb : ∀ b, b ≠ 130 → (si (si h6 130 10 (gi h6 130 8)) 130 11 (gi (si h6 130 10 (gi h6 130 8)) 130 9)).1 b = h6.1 b := fun b hb => by rw [si_b hb, si_b hb]
    have ml : (si (si h6 130 10 (gi h6 130 8)) 130 11 (gi (si h6 130 10 (gi h6 130 8)) 130 9)).2 = h6.2 := rfl
    generalize si (si h6 130 10 (gi h6 130 8)) 130 11 (gi (si h6 130 10 (gi h6 130 8)) 130 9) = h7 at x7 m8 m10 m11 m2 mb ml
    rw [m8, Y6.e8]
    refine ⟨fun y => absurd rfl y, fun _ => s_goes (b := true) ⟨isB_1, fun _ => ⟨rv (by omega), ?_⟩, fun y => absurd y (by decide)⟩⟩
    have e9 : gi (si (si h7 130 0 (b2i (!true))) 130 21 (nI 0)) 132 (nI 2).toNatClampNeg = s 2 := by
      rw [cl (by omega), gi_ob (by omega), gi_ob (by omega)]
      show h7.1 132 2 = _
      rw [mb 132 (by omega), Y6.r]
    rw [e9]
    have X9 : Fz WX2 VX2 h (si (si h7 130 0 (b2i (!true))) 130 21 (nI 0)) := (((X5.trans (FXp x6)).trans x7).trans (FXi (by omega))).trans (FXi (by omega))
    refine K1 s nm td p er _ X9 ?_ (fun i => ?_) P6 N6 ?_ ?_ ?_ ?_ gi_same
    · rw [si_b (by omega), si_b (by omega), mb 132 (by omega)]; exact Y6.r
    · show h7.2.1 137 i = _
      rw [ml]; exact Y6.ns i
    · rw [gi_ok (by omega), gi_same]; rfl
    · rw [gi_ok (by omega), gi_ok (by omega)]; exact m2
    · rw [gi_ok (by omega), gi_ok (by omega)]; exact m10
    · rw [gi_ok (by omega), gi_ok (by omega)]; exact m11
end
