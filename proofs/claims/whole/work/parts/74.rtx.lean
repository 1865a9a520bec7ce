/-! ===== readText, both sides ===== -/
section
variable {q : Nat → PH → Prop} {kk kj : Int32 → PH → Prop} {kl : Int64 → PH → Prop} {kv kw k1 : PH → Prop} {h h' : PH} {s t : RW} {C E L : Nat} {a b n m p v w e pl i : Nat} {f g z : FI} {nm : Nat → Int64} {c : Nat → Nat} {td : Nat → Bool} {y : Int64}
theorem IT.fn (I : IT h) : ∃ n c, CB c n h ∧ gi h 130 2 = nI n ∧ ∀ j, j < n → gi h 131 j = nI (c j) := by
  obtain ⟨n, a1, a2, a3, a4, a5, a6⟩ := I
  have q1 : ∀ j, j < n → ∃ c, nn (gi h 131 j) = c ∧ c < 256 ∧ gi h 2 j = sb_b c ∧ gi h 131 j = nI c := fun j hj => by
    obtain ⟨c, c1, c2, c3⟩ := a4 j hj
    exact ⟨c, by rw [c3, nn_nI (by omega)], c1, c2, c3⟩
  refine ⟨n, fun j => if j < n then nn (gi h 131 j) else 0, ⟨a1, fun j => ?_, a2, fun j hj => ?_⟩, a3, fun j hj => ?_⟩
  · show (if j < n then nn (gi h 131 j) else 0) < 256
    by_cases d : j < n
    · rw [if_pos d]
      obtain ⟨c, c0, c1, c2, c3⟩ := q1 j d
      rw [c0]; exact c1
    · rw [if_neg d]; omega
  · show gi h 2 j = sb_b (if j < n then nn (gi h 131 j) else 0)
    rw [if_pos hj]
    obtain ⟨c, c0, c1, c2, c3⟩ := q1 j hj
    rw [c0]; exact c2
  · show gi h 131 j = nI (if j < n then nn (gi h 131 j) else 0)
    rw [if_pos hj]
    obtain ⟨c, c0, c1, c2, c3⟩ := q1 j hj
    rw [c0]; exact c3
def WRd (b k : Nat) : Prop := WS2 b k ∨ (b = 1 ∧ 1 ≤ k)
def WRe (b k : Nat) : Prop := WRd b k ∨ (15 ≤ b ∧ b ≤ 29) ∨ (60 ≤ b ∧ b ≤ 66) ∨ (b = 13 ∧ k = 1)
def VRd (b : Nat) : Prop := VS2 b ∨ b = 147
def VRe (b : Nat) : Prop := VRd b ∨ (15 ≤ b ∧ b ≤ 29)
/-- the class has refused the text -/
def RdE (e pl : Nat) (h h' : PH) : Prop := Fz WRd VRd h h' ∧ gi h' 1 1 = nI 0 ∧ ER (nI e) pl h'
/-- the class has the text's cluster -/
def RdO (s : RW) (nm : Nat → Int64) (h h' : PH) : Prop := Fz WRe VRe h h' ∧ LyR 15 s h'.1 ∧ StR 60 s h'.1 ∧ ((∀ i, i < nn (s 0) → NmE (gl h' 17 i) (nm i)) ∧ (∀ i, i < nn (s 1) → NmE (gl h' 22 i) (nm (8 + i))) ∧ (∀ i, i < nn (s 2) → NmE (gl h' 27 i) (nm (13 + i)))) ∧ gi h' 1 1 = nI 0 ∧ gi h' 1 2 = nI 0 ∧ gi h' 1 3 = -(nI 1) ∧ gi h' 13 1 = nI 0
theorem c_readText (B : CB c n h) (hr : ∃ w, w < 30 ∧ gi h 79 2 = nI w) (K0 : ∀ e pl, rtR c n h = .inl (e, pl) → ∀ h', RdE e pl h h' → q 1 h') (K1 : ∀ s nm td p, rtR c n h = .inr (s, nm, td, p) → ∀ h', RdO s nm h h' → PR s → kk (s 2) h') : MetPM m_X11_readText [.ref 0] h (rI q kk) := by
  refine t_X11_readText (a_all B hr (fun i => gl h 137 i) (s := h.1 132) ⟨fun e pl er h1 x1 y1 => ⟨fun z => absurd rfl z, fun _ => ⟨Nat.le_of_ble_eq_true rfl, ?_⟩⟩, fun s nm td p er h1 x1 S1 => ⟨fun _ => ?_, fun z => absurd z (by decide)⟩⟩)
  · have x2 : Fz WRd VRd h (si h1 1 1 (nI 0)) := (x1.mono (fun b k y => Or.inl y) (fun b y => Or.inl y)).trans (Fz.si _ _ (Or.inr ⟨rfl, by omega⟩))
    exact K0 e pl er _ ⟨x2, gi_same, (gi_ok (by omega)).trans y1.1, (gi_ok (by omega)).trans y1.2⟩
  · have x2 : Fz WRd VRd h (si h1 1 1 (nI 0)) := (x1.mono (fun b k y => Or.inl y) (fun b y => Or.inl y)).trans (Fz.si _ _ (Or.inr ⟨rfl, by omega⟩))
    have D2 : LyR 30 s (si h1 1 1 (nI 0)).1 ∧ StR 74 s (si h1 1 1 (nI 0)).1 := ⟨S1.D.1.heap (fun b _ _ => si_b (by omega)), S1.D.2.1.heap (fun b _ _ => si_b (by omega))⟩
    have N2 := S1.D.2.2
    have e12 : gi (si h1 1 1 (nI 0)) 1 2 = nI 0 := (gi_ok (by omega)).trans S1.e2
    have e13 : gi (si h1 1 1 (nI 0)) 1 3 = -(nI 1) := (gi_ok (by omega)).trans S1.e3
    have e11 : gi (si h1 1 1 (nI 0)) 1 1 = nI 0 := gi_same
    have l2 : (si h1 1 1 (nI 0)).2 = h1.2 := rfl
    generalize si h1 1 1 (nI 0) = h2 at x2 D2 e12 e13 e11 l2
    refine t_X8_replaceBy_1 (c_copyLy (Or.inl ⟨rfl, rfl⟩) (fun h3 o3 e3 y3 => c_copySt (Or.inr (Or.inl ⟨rfl, rfl⟩)) ?_ (fun h4 f4 c4 => t_X4_forget ?_)))
    · rw [(o3 74 (by omega)).1]; exact D2.2.ib
    · have o4 : ∀ c, (c < 60 ∨ 66 < c) → h4.1 c = h3.1 c := fun c hc => f4.cell fun k => WS_f (by omega)
      have sb : ∀ c, c ≠ 13 → (si h4 13 1 (nI 0)).1 c = h4.1 c := fun c hc => si_b hc
      have l4 : (si h4 13 1 (nI 0)).2 = h3.2 := f4.2
      have Y3 : LyR 15 s h3.1 := D2.1.cp S1.P.rk.1 y3
      have Y5 : LyR 15 s (si h4 13 1 (nI 0)).1 := Y3.heap (fun b x1 x2 => by rw [sb b (by omega), o4 b (by omega)])
      have T3 : StR 74 s h3.1 := D2.2.heap (fun b x1 x2 => (o3 b (by omega)).1)
      have T5 : StR 60 s (si h4 13 1 (nI 0)).1 := (T3.cp S1.P.x.2.1.2 c4).heap (fun b x1 x2 => sb b (by omega))
      have F : Fz WRe VRe h (si h4 13 1 (nI 0)) := by
        refine (x2.mono (fun b k y => Or.inl y) (fun b y => Or.inl y)).trans ⟨fun b k e => ?_, fun b e => ?_, fun b _ => ?_⟩
        · have hb : ¬ ((15 ≤ b ∧ b ≤ 29) ∨ (60 ≤ b ∧ b ≤ 66) ∨ (b = 13 ∧ k = 1)) := fun y => e (Or.inr y)
          by_cases d : b = 13
          · subst d
            rw [gi_ok (by omega)]
            show h4.1 13 k = _
            rw [o4 13 (by omega), (o3 13 (by omega)).1]; rfl
          · rw [gi_ob d]
            show h4.1 b k = _
            rw [o4 b (by omega), (o3 b (by omega)).1]; rfl
        · have hb : ¬ (15 ≤ b ∧ b ≤ 29) := fun y => e (Or.inr y)
          rw [l4, (o3 b (by omega)).2]
        · rw [l4, e3]
      have g15 : ∀ b j, gl (si h4 13 1 (nI 0)) b j = gl h3 b j := fun b j => by
        show (si h4 13 1 (nI 0)).2.1 b j = _
        rw [l4]; rfl
      have g2 : ∀ b j, gl h2 b j = gl h1 b j := fun b j => by
        show h2.2.1 b j = _
        rw [l2]; rfl
      have s8 := S1.P.v.1.2
      have s5 := S1.P.x.1.2
      have s12 := S1.P.x.2.1.2
      have res := K1 s nm td p er _ ⟨F, Y5, T5, ⟨fun i hi => ?_, fun i hi => ?_, fun i hi => ?_⟩, ?_, ?_, ?_, gi_same⟩ S1.P
      · show rI q kk (.inl (some (.int (gi (si h4 13 1 (nI 0)) 26 1)))) (si h4 13 1 (nI 0))
        rw [show gi (si h4 13 1 (nI 0)) 26 1 = s 2 from Y5.nm]
        exact res
      · rw [g15, show gl h3 17 i = gl h2 32 i from y3.2.1 i (by omega), g2]
        exact N2.1 i hi
      · rw [g15, show gl h3 22 i = gl h2 37 i from y3.2.2.1 i (by omega), g2]
        exact N2.2.1 i hi
      · rw [g15, show gl h3 27 i = gl h2 42 i from y3.2.2.2 i (by omega), g2]
        exact N2.2.2 i hi
      · show (si h4 13 1 (nI 0)).1 1 1 = _
        rw [sb 1 (by omega), o4 1 (by omega), (o3 1 (by omega)).1]; exact e11
      · show (si h4 13 1 (nI 0)).1 1 2 = _
        rw [sb 1 (by omega), o4 1 (by omega), (o3 1 (by omega)).1]; exact e12
      · show (si h4 13 1 (nI 0)).1 1 3 = _
        rw [sb 1 (by omega), o4 1 (by omega), (o3 1 (by omega)).1]; exact e13
theorem s_read0 {h0 : PH} (I : Inv z C E h0) (B : CB c n h0) (e2 : gi h0 130 2 = nI n) (eb : ∀ j, j < n → gi h0 131 j = nI (c j)) (er : rtR c n h0 = .inl (e, pl)) (U : RdE e pl h0 h) (K : ∀ h', Inv z C E h' → gi h' 130 0 = nI 1 → kk (nI 0) h') : MetPM m_X12_readText [.ref 130] h (rI q kk) := by
  obtain ⟨x, u1, u2⟩ := U
  have c132 : h.1 132 = h0.1 132 := x.cell fun k => by unfold WRd WS2 WD WB; omega
  have l137 : ∀ i, gl h 137 i = gl h0 137 i := fun i => by
    show h.2.1 137 i = _
    rw [x.2.1 137 (by unfold VRd VS2 VD VA; omega)]; rfl
  have rr : rtR c n h = rtR c n h0 := by
    unfold rtR
    rw [c132]
    simp only [l137]
  refine s_readText B.1 B.2.1 ((x.1 130 2 (by unfold WRd WS2 WD WB; omega)).trans e2) (fun j hj => (x.1 131 j (by unfold WRd WS2 WD WB; omega)).trans (eb j hj)) (fun e' pl' er' h1 x1 r1 n1 g0 g2 g10 g11 g21 => ?_) (fun s' nm' td' p' er' => by
    rw [rr, er] at er'
    cases er')
  rw [rr, er] at er'
  cases er'
  have fz : Fz (fun b k => WRd b k ∨ (b = 130 ∧ (k = 0 ∨ (2 ≤ k ∧ k ≤ 11) ∨ k = 23)) ∨ b = 135) (fun b => VRd b ∨ b = 130 ∨ b = 137 ∨ b = 139) h0 h1 := ⟨fun b k e => by
    have y1 : ¬ WRd b k := fun z => e (Or.inl z)
    have y2 : ¬ ((b = 130 ∧ (k = 0 ∨ (2 ≤ k ∧ k ≤ 11) ∨ k = 23)) ∨ b = 135) := fun z => e (Or.inr z)
    by_cases d : b = 130 ∧ k = 21
    · rw [d.1, d.2, g21]
      exact x.1 130 21 (by unfold WRd WS2 WD WB; omega)
    · by_cases d2 : b = 132
      · subst d2
        show h1.1 132 k = h0.1 132 k
        rw [r1, c132]
      · rw [x1.1 b k (by unfold WX2; omega), x.1 b k y1], fun b e => by
    have y1 : ¬ VRd b := fun z => e (Or.inl z)
    rw [x1.2.1 b (fun z => e (Or.inr z)), x.2.1 b y1], fun b hb => by rw [x1.2.2 b hb, x.2.2 b hb]⟩
  have e132 : h1.1 132 = h0.1 132 := r1.trans c132
  have gv : ∀ b j, 15 ≤ b → b ≤ 29 → gl h1 b j = gl h0 b j := fun b j y1 y2 => by
    show h1.2.1 b j = _
    rw [fz.2.1 b (by unfold VRd VS2 VD VA; omega)]; rfl
  refine K h1 ⟨⟨by rw [e132]; exact I.ic.1, by
      rw [e132]
      exact I.ic.2.heap fun b hb => fz.cell fun k => by unfold WRd WS2 WD WB; omega⟩, ⟨0, by omega, ?_, g2, fun j hj => absurd hj (by omega), ?_, ?_⟩, ?_, I.is.fz fz (by unfold WRd WS2 WD WB; omega) (by unfold WRd WS2 WD WB; omega) (fun k => by unfold WRd WS2 WD WB; omega) (fun b k hb => by unfold WRd WS2 WD WB; omega) (by unfold VRd VS2 VD VA; omega) (by unfold VRd VS2 VD VA; omega) (by unfold VRd VS2 VD VA; omega) (by unfold VRd VS2 VD VA; omega), I.ih.fz fz (fun k => by unfold WRd WS2 WD WB; omega) (by unfold WRd WS2 WD WB; omega) (fun k => by unfold WRd WS2 WD WB; omega) (fun b k hb => by unfold WRd WS2 WD WB; omega), I.ip.fz fz (by unfold WRd WS2 WD WB; omega) (by unfold WRd WS2 WD WB; omega) (by unfold WRd WS2 WD WB; omega) (fun k => by unfold WRd WS2 WD WB; omega) (fun k => by unfold WRd WS2 WD WB; omega), I.iz.fz fz (fun k => by unfold WRd WS2 WD WB; omega) (fun k => by unfold WRd WS2 WD WB; omega) (by unfold WRd WS2 WD WB; omega)⟩ g0
  · rw [x1.1 1 1 (by unfold WX2; omega)]; exact u1
  · rw [x1.1 1 2 (by unfold WX2; omega), g10]; exact u2.1
  · rw [x1.1 1 3 (by unfold WX2; omega), g11]; exact u2.2
  · unfold IN
    rw [e132]
    exact NmR.cp (h := h0) (b0 := 15) (n := 137) I.ic.1.1 (agL.refl _) ⟨fun j hj => gv _ _ (by omega) (by omega), fun j hj => gv _ _ (by omega) (by omega), fun j hj => gv _ _ (by omega) (by omega)⟩ (fun j hj => (n1 j hj).trans (l137 j)) I.inn
theorem s_read1 {h0 : PH} (I : Inv z C E h0) (B : CB c n h0) (e2 : gi h0 130 2 = nI n) (eb : ∀ j, j < n → gi h0 131 j = nI (c j)) (er : rtR c n h0 = .inr (s, nm, td, p)) (U : RdO s nm h0 h) (K : ∀ h', Inv z C E h' → gi h' 130 0 = nI 0 → h'.2.1 147 = h.2.1 147 → kk (s 2) h') : MetPM m_X12_readText [.ref 130] h (rI q kk) := by
  obtain ⟨x, uY, uS, uN, u11, u12, u13, u131⟩ := U
  have c132 : h.1 132 = h0.1 132 := x.cell fun k => by unfold WRe WRd WS2 WD WB; omega
  have l137 : ∀ i, gl h 137 i = gl h0 137 i := fun i => by
    show h.2.1 137 i = _
    rw [x.2.1 137 (by unfold VRe VRd VS2 VD VA; omega)]; rfl
  have rr : rtR c n h = rtR c n h0 := by
    unfold rtR
    rw [c132]
    simp only [l137]
  refine s_readText B.1 B.2.1 ((x.1 130 2 (by unfold WRe WRd WS2 WD WB; omega)).trans e2) (fun j hj => (x.1 131 j (by unfold WRe WRd WS2 WD WB; omega)).trans (eb j hj)) (fun e' pl' er' => by
    rw [rr, er] at er'
    cases er') (fun s' nm' td' p' er' h1 x1 r1 n1 P N g0 g2 g10 g11 g21 => ?_)
  rw [rr, er] at er'
  cases er'
  have fz : Fz (fun b k => WRe b k ∨ WX2 b k) (fun b => VRe b ∨ VX2 b) h0 h1 := (x.mono (fun b k y => Or.inl y) (fun b y => Or.inl y)).trans (x1.mono (fun b k y => Or.inr y) (fun b y => Or.inr y))
  have cl1 : ∀ b, (15 ≤ b ∧ b ≤ 29) ∨ (60 ≤ b ∧ b ≤ 66) → h1.1 b = h.1 b := fun b hb => x1.cell fun k => by unfold WX2; omega
  have gv : ∀ b j, 15 ≤ b → b ≤ 29 → gl h1 b j = gl h b j := fun b j y1 y2 => by
    show h1.2.1 b j = _
    rw [x1.2.1 b (by unfold VX2; omega)]; rfl
  obtain ⟨u, w, b1, b2, b3, b4, b5, b6, b7⟩ := I.ih
  refine K h1 ⟨⟨by rw [r1]; exact P.rk.mono (Nat.zero_le _) (Nat.zero_le _), by
      rw [r1]
      exact ⟨uY.heap fun b x1 x2 => cl1 b (by omega), uS.heap fun b x1 x2 => cl1 b (by omega)⟩⟩, ⟨0, by omega, ?_, g2, fun j hj => absurd hj (by omega), ?_, ?_⟩, ?_, I.is.fz fz (by unfold WRe WRd WS2 WD WB WX2; omega) (by unfold WRe WRd WS2 WD WB WX2; omega) (fun k => by unfold WRe WRd WS2 WD WB WX2; omega) (fun b k hb => by unfold WRe WRd WS2 WD WB WX2; omega) (by unfold VRe VRd VS2 VD VA VX2; omega) (by unfold VRe VRd VS2 VD VA VX2; omega) (by unfold VRe VRd VS2 VD VA VX2; omega) (by unfold VRe VRd VS2 VD VA VX2; omega), ⟨0, w, by omega, b2, ?_, ?_, g21, fun j hj => ?_, fun i hi => absurd hi (Nat.not_lt_zero i)⟩, I.ip.fz fz (by unfold WRe WRd WS2 WD WB WX2; omega) (by unfold WRe WRd WS2 WD WB WX2; omega) (by unfold WRe WRd WS2 WD WB WX2; omega) (fun k => by unfold WRe WRd WS2 WD WB WX2; omega) (fun k => by unfold WRe WRd WS2 WD WB WX2; omega), I.iz.fz fz (fun k => by unfold WRe WRd WS2 WD WB WX2; omega) (fun k => by unfold WRe WRd WS2 WD WB WX2; omega) (by unfold WRe WRd WS2 WD WB WX2; omega)⟩ g0 (x1.2.1 147 (by unfold VX2; omega))
  · rw [x1.1 1 1 (by unfold WX2; omega)]; exact u11
  · rw [x1.1 1 2 (by unfold WX2; omega), g10]; exact u12
  · rw [x1.1 1 3 (by unfold WX2; omega), g11]; exact u13
  · unfold IN NmR
    rw [r1]
    simp only [n1]
    refine ⟨fun i hi => ?_, fun i hi => ?_, fun i hi => ?_, N⟩
    · rw [gv _ _ (by omega) (by omega)]; exact uN.1 i hi
    · rw [gv _ _ (by omega) (by omega)]; exact uN.2.1 i hi
    · rw [gv _ _ (by omega) (by omega)]; exact uN.2.2 i hi
  · rw [x1.1 13 1 (by unfold WX2; omega)]; exact u131
  · rw [fz.1 13 2 (by unfold WRe WRd WS2 WD WB WX2; omega)]; exact b4
  · show h1.2.2.1 14 j = _
    rw [fz.2.2 14 (by omega)]; exact b6 j hj
end
