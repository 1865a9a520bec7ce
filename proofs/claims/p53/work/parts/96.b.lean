/-! ===== the class reads the World's text ===== -/
section
variable {h h' h0 h1 h2 hC : PH} {w k v j t a d n i m q C E : Nat} {bs : List Nat} {s : RW} {z : FI} {nm : Nat → Int64} {td : Nat → Bool} {c : Nat → Nat} {kk : Int32 → PH → Prop}
theorem aAll_end {k : Nat} {p : Nat} (hk : 0 < k) (e : tS c n p = tS c n n) : aAll c n k s nm td p = .inr (s, nm, td, p) := by
  match k, hk with
  | k + 1, _ =>
    have e1 : tS c n n = n := by have := tS_le (c := c) (n := n) (p := n) (Nat.le_refl _); omega
    have : tK c n p = 0 := by
      unfold tK kK
      rw [e, e1]
      simp
    show (if tK c n p = 0 then _ else _) = _
    rw [if_pos this]
/-- the ghosts after the text */ -/
def rdG (h : PH) (s : RW) (nm : Nat → Int64) : PH := (fun b => if b = 132 then s else if b = 130 then (fun k => if k = 2 ∨ k = 10 ∨ k = 21 then 0 else if k = 11 then -(nI 1) else h.1 130 k) else h.1 b, fun b => if b = 137 then nm else h.2.1 b, h.2.2.1, h.2.2.2)
def WG2 (b k : Nat) : Prop := b < 1000 ∧ (WRe b k ∨ (b = 1 ∧ k = 1) ∨ b = 2 ∨ b = 132 ∨ (b = 130 ∧ (k = 2 ∨ k = 10 ∨ k = 21 ∨ k = 11)))
def VG2 (b : Nat) : Prop := b < 1000 ∧ (VRe b ∨ b = 137)
theorem rd_CI (I : Inv z 0 0 hC) (F : FL hC h) (U : RdO s nm h h') (P : PR s) (N : NmI nm s) : CI 0 0 s [] h' := by
  obtain ⟨x, uY, uS, uN, u11, u12, u13, u131⟩ := U
  have go : ∀ b, b ≠ 132 → b ≠ 130 → (rdG h' s nm).1 b = h'.1 b := fun b h1 h2 => by
    show (if b = 132 then s else if b = 130 then _ else h'.1 b) = _
    rw [if_neg h1, if_neg h2]
  have g130 : ∀ k, (rdG h' s nm).1 130 k = if k = 2 ∨ k = 10 ∨ k = 21 then 0 else if k = 11 then -(nI 1) else h'.1 130 k := fun k => rfl
  have g132 : (rdG h' s nm).1 132 = s := rfl
  have gl1 : ∀ b, b ≠ 137 → (rdG h' s nm).2.1 b = h'.2.1 b := fun b h1 => if_neg h1
  have g137 : (rdG h' s nm).2.1 137 = nm := rfl
  have gref : (rdG h' s nm).2.2 = h'.2.2 := rfl
  have gh : Gh h' (rdG h' s nm) := fun a ha => ⟨go a (by omega) (by omega), gl1 a (by omega), by rw [gref], by rw [gref]⟩
  generalize rdG h' s nm = g at go g130 g132 gl1 g137 gref gh
  have I2 : Inv z 0 0 (mixH hC g) := I.lo fun a ha => ⟨(mixH_lo ha).1, (mixH_lo ha).2.1, (mixH_lo ha).2.2.1⟩
  have fz : Fz WG2 VG2 (mixH hC g) g := by
    refine ⟨fun b k nW => ?_, fun b nV => ?_, fun b _ => ?_⟩
    · by_cases hb : b < 1000
      · have nW2 : ¬ (WRe b k ∨ (b = 1 ∧ k = 1) ∨ b = 2 ∨ b = 132 ∨ (b = 130 ∧ (k = 2 ∨ k = 10 ∨ k = 21 ∨ k = 11))) := fun y => nW ⟨hb, y⟩
        have n1 : ¬ WRe b k := fun y => nW2 (Or.inl y)
        have n2 : ¬ (b = 1 ∧ k = 1) := fun y => nW2 (Or.inr (Or.inl y))
        have n3 : b ≠ 2 := fun y => nW2 (Or.inr (Or.inr (Or.inl y)))
        have n4 : b ≠ 132 := fun y => nW2 (Or.inr (Or.inr (Or.inr (Or.inl y))))
        have n5 : ¬ (b = 130 ∧ (k = 2 ∨ k = 10 ∨ k = 21 ∨ k = 11)) := fun y => nW2 (Or.inr (Or.inr (Or.inr (Or.inr y))))
        have e1 : g.1 b k = h'.1 b k := by
          by_cases c : b = 130
          · subst c
            rw [g130, if_neg (fun y => n5 ⟨rfl, by omega⟩), if_neg (fun y => n5 ⟨rfl, by omega⟩)]
          · rw [go b n4 c]
        have e2 : (mixH hC g).1 b = hC.1 b := (mixH_lo hb).1
        show g.1 b k = (mixH hC g).1 b k
        rw [e1, e2]
        exact (x.1 b k n1).trans (F.2.2.1 b k hb n2 n3)
      · show g.1 b k = (mixH hC g).1 b k
        rw [(mixH_hi hb).1]
    · by_cases hb : b < 1000
      · have n1 : ¬ VRe b := fun y => nV ⟨hb, Or.inl y⟩
        have n2 : b ≠ 137 := fun y => nV ⟨hb, Or.inr y⟩
        rw [gl1 b n2, (mixH_lo hb).2.1]
        exact (x.2.1 b n1).trans (F.2.2.2 b hb).1
      · rw [(mixH_hi hb).2.1]
    · by_cases hb : b < 1000
      · rw [gref, (mixH_lo hb).2.2.1]
        exact (x.2.2 b (by omega)).trans (F.2.2.2 b hb).2
      · rw [(mixH_hi hb).2.2.1]
  obtain ⟨u, w, b1, b2, b3, b4, b5, b6, b7⟩ := I2.ih
  have s8 := P.v.1.2
  have s5 := P.x.1.2
  have s12 := P.x.2.1.2
  refine ⟨z, g, gh, ⟨⟨by rw [g132]; exact P.rk, by
      rw [g132]
      exact ⟨uY.heap fun b x1 x2 => go b (by omega) (by omega), uS.heap fun b x1 x2 => go b (by omega) (by omega)⟩⟩, ⟨0, by omega, ?_, ?_, fun j hj => absurd hj (by omega), ?_, ?_⟩, ?_, I2.is.fz fz (by unfold WG2 WRe WRd WS2 WD WB; omega) (by unfold WG2 WRe WRd WS2 WD WB; omega) (fun k => by unfold WG2 WRe WRd WS2 WD WB; omega) (fun b k hb => by unfold WG2 WRe WRd WS2 WD WB; omega) (by unfold VG2 VRe VRd VS2 VD VA; omega) (by unfold VG2 VRe VRd VS2 VD VA; omega) (by unfold VG2 VRe VRd VS2 VD VA; omega) (by unfold VG2 VRe VRd VS2 VD VA; omega), ⟨0, w, by omega, b2, ?_, ?_, ?_, fun j hj => ?_, fun i hi => absurd hi (Nat.not_lt_zero i)⟩, I2.ip.fz fz (by unfold WG2 WRe WRd WS2 WD WB; omega) (by unfold WG2 WRe WRd WS2 WD WB; omega) (by unfold WG2 WRe WRd WS2 WD WB; omega) (fun k => by unfold WG2 WRe WRd WS2 WD WB; omega) (fun k => by unfold WG2 WRe WRd WS2 WD WB; omega), I2.iz.fz fz (fun k => by unfold WG2 WRe WRd WS2 WD WB; omega) (fun k => by unfold WG2 WRe WRd WS2 WD WB; omega) (by unfold WG2 WRe WRd WS2 WD WB; omega)⟩, g132, ⟨0, by decide, ?_, Nat.zero_le _, fun i hi => absurd hi (Nat.not_lt_zero i)⟩⟩
  · show g.1 1 1 = _
    rw [go 1 (by decide) (by decide)]; exact u11
  · exact g130 2
  · show g.1 1 2 = g.1 130 10
    rw [go 1 (by decide) (by decide), g130]; exact u12
  · show g.1 1 3 = g.1 130 11
    rw [go 1 (by decide) (by decide), g130]; exact u13
  · unfold IN NmR
    rw [g132]
    have gv : ∀ b j, b ≠ 137 → gl g b j = gl h' b j := fun b j hb => congrFun (gl1 b hb) j
    have g7 : ∀ j, gl g 137 j = nm j := fun j => congrFun g137 j
    obtain ⟨y1, y2, y3⟩ := N
    refine ⟨fun i hi => ?_, fun i hi => ?_, fun i hi => ?_, fun i j hi hj => ?_, fun i j hi hj => ?_, fun i j hi hj => ?_⟩
    · rw [gv _ _ (by decide), g7]; exact uN.1 i hi
    · rw [gv _ _ (by decide), g7]; exact uN.2.1 i hi
    · rw [gv _ _ (by decide), g7]; exact uN.2.2 i hi
    · have e1 := y1 i (by omega)
      have e2 := y1 j hj
      rw [Nat.zero_add] at e1 e2
      rw [g7, g7, e1, e2]
      exact fun e => absurd ((nvN_inj (by decide) (by omega) (by omega)).mp e) (by omega)
    · rw [g7, g7, y2 i (by omega), y2 j hj]
      exact fun e => absurd ((nvN_inj (by decide) (by omega) (by omega)).mp e) (by omega)
    · rw [g7, g7, y3 i (by omega), y3 j hj]
      exact fun e => absurd ((nvN_inj (by decide) (by omega) (by omega)).mp e) (by omega)
  · show g.1 13 1 = _
    rw [go 13 (by decide) (by decide)]; exact u131
  · rw [fz.1 13 2 (by unfold WG2 WRe WRd WS2 WD WB; omega)]; exact b4
  · exact g130 21
  · show g.2.2.1 14 j = _
    rw [fz.2.2 14 (by omega)]; exact b6 j hj
  · exact g130 21
theorem c_rdT (I : Inv z 0 0 hC) (F : FL hC h) (hn : bs.length ≤ 580) (hT : Txt bs) (e1 : gi h 1 1 = nI bs.length) (eb : ∀ j, j < bs.length → gi h 2 j = sb_b (bs.getD j 0)) (R : Rdd (clrS (hC.1 132)) (fun i => gl hC 137 i) bs s nm td m) (P : PR s) (N : NmI nm s) (K : ∀ h', CI 0 0 s [] h' → kk (s 2) h') : MetPM m_X11_readText [.ref 0] h (rI (fun _ _ => False) kk) := by
  have B : CB (fun j => bs.getD j 0) bs.length h := ⟨by omega, fun j => by
    show bs.getD j 0 < 256
    rcases Nat.lt_or_ge j bs.length with hj | hj
    · rw [List.getD_eq_getElem?_getD, List.getElem?_eq_getElem hj]
      have := hT.1 _ (List.getElem_mem hj)
      show bs[j] < 256
      omega
    · rw [List.getD_eq_getElem?_getD, List.getElem?_eq_none hj]; decide, e1, eb⟩
  have hr : ∃ w, w < 30 ∧ gi h 79 2 = nI w := by
    obtain ⟨w, w1, w2⟩ := I.iz.2.2
    exact ⟨w, w1, (F.2.2.1 79 2 (by decide) (by decide) (by decide)).trans w2⟩
  obtain ⟨r1, r2⟩ := R
  obtain ⟨p, p1, p2, p3⟩ := r2 (fun j => bs.getD j 0) bs.length (Nat.le_refl _) (fun _ _ => rfl)
  have e132 : h.1 132 = hC.1 132 := funext fun k => F.2.2.1 132 k (by decide) (by omega) (by decide)
  have e137 : (fun i => gl h 137 i) = fun i => gl hC 137 i := funext fun i => congrFun (F.2.2.2 137 (by decide)).1 i
  have er : rtR (fun j => bs.getD j 0) bs.length h = .inr (s, nm, td, p) := by
    unfold rtR
    rw [e132, e137, show (900 : Nat) = m + (900 - m) by omega, p3]
    exact aAll_end (by omega) p2
  refine c_readText B hr (fun e pl er' => ?_) (fun s' nm' td' p' er' h' U P' => ?_)
  · rw [er] at er'
    cases er'
  · rw [er] at er'
    cases er'
    exact K h' (rd_CI I F U P N)
end
