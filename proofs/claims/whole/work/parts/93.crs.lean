/-! ===== runScript, the class ===== -/
section
variable {q : Nat → PH → Prop} {kk : Int32 → PH → Prop} {kv : PH → Prop} {h h' h0 : PH} {s t g s' : RW} {C E : Nat} {a b n m p u v w i j k o x y d e pl N : Nat} {B L : Nat → Nat} {nm : Nat → Int64} {c : Nat → Nat} {td : Nat → Bool} {z : FI}
/-- the heap, with the other one's list of commands -/
def r6 (h h' : PH) : PH := (h.1, h.2.1, (fun b => if b = 6 then h'.2.2.1 6 else h.2.2.1 b), h.2.2.2)
theorem Fq.r6 {W : Nat → Nat → Prop} {V : Nat → Prop} (x : Fq W V h h') : Fz W V (r6 h h') h' := ⟨x.1, x.2.1, fun b hb => by
  show h'.2.2.1 b = (if b = 6 then h'.2.2.1 6 else h.2.2.1 b)
  by_cases d : b = 6
  · rw [if_pos d, d]
  · rw [if_neg d]; exact x.2.2 b d hb⟩
theorem r6_eq {h1 h2 : PH} (e : h2.2.2.1 6 = h1.2.2.1 6) : r6 h h2 = r6 h h1 := by unfold r6; rw [e]
theorem Inv.r6 (I : Inv z C E h) : Inv z C E (r6 h h') := by
  obtain ⟨u, w, b1, b2, b3, b4, b5, b6, b7⟩ := I.ih
  exact ⟨I.ic, I.it, I.inn, I.is, ⟨u, w, b1, b2, b3, b4, b5, fun j hj => b6 j hj, b7⟩, I.ip, I.iz⟩
def NF : Nat := 16400000
theorem NF_ge : 16400000 ≤ NF := Nat.le_refl _
def RunF (g s : RW) : Nat × RW := aRun g NF 0 0 (fun _ => 0) (fun _ => 0) 0 s
/-- what the reading of the script comes to -/
def scR (c : Nat → Nat) (n : Nat) (h : PH) : Rs := aScr c n (h.1 132) (fun i => gl h 137 i) (fun w => bt (gi h 130 23) w) 900 pg0 0
theorem Rk.cnt (R : Rk C E s) : CNT s := ⟨R.v, R.p, R.m, R.w, R.l⟩
theorem scR_ok (R : Rk C E (h.1 132)) (hn : n ≤ 900) (er : scR c n h = .inr (g, nm, td, p)) : WFg g ∧ AVg (h.1 132) g ∧ pD g = 0 := po_scr R.cnt hn 900 pg0 0 (Nat.zero_le _) (Or.inr ⟨rfl, rfl⟩) WFg.z AVg.z _ _ _ _ er
def WRs (b k : Nat) : Prop := (b = 1 ∧ 1 ≤ k) ∨ (5 ≤ b ∧ b ≤ 12)
def VRs (b : Nat) : Prop := b = 1 ∨ b = 147
def WRo (b k : Nat) : Prop := WRs b k ∨ b = 13 ∨ (60 ≤ b ∧ b ≤ 66) ∨ (88 ≤ b ∧ b ≤ 129)
/-- the class has refused the script -/
def RsE (e pl : Nat) (h h' : PH) : Prop := Fz WRs VRs (r6 h h') h' ∧ gi h' 1 1 = nI 0 ∧ ER (nI e) pl h'
/-- the class has run the script -/
def RsO (C E : Nat) (s' : RW) (u w : Nat) (h h' : PH) : Prop := Fz WRo VRs (r6 h h') h' ∧ CR 60 s' h' ∧ MidC C E (h.1 132) u w h' ∧ gi h' 1 1 = nI 0 ∧ gi h' 1 2 = nI 0 ∧ gi h' 1 3 = -(nI 1)
theorem RsE.sl {k : Nat} {x : Int64} (U : RsE e pl h h') : RsE e pl h (sl h' 147 k x) := ⟨U.1.trans (Fz.sl h' x (Or.inr rfl)), U.2⟩
theorem RsO.sl {k : Nat} {x : Int64} (U : RsO C E s' u w h h') : RsO C E s' u w h (sl h' 147 k x) := ⟨U.1.trans (Fz.sl h' x (Or.inr rfl)), U.2⟩
theorem c_runScript (I : Inv z C E h) (B0 : CB c n h) (hC : C + 39960 < 2 ^ 29) (hE : E + 1198800 < 2 ^ 31) (K0 : ∀ e pl, scR c n h = .inl (e, pl) → ∀ h', RsE e pl h h' → q 1 h') (K1 : ∀ g nm td p, scR c n h = .inr (g, nm, td, p) → ∀ u w h', RsO C E (RunF g (h.1 132)).2 u w h h' → kk (nI (RunF g (h.1 132)).1) h') : MetPM m_X11_runScript [.ref 0] h (rI q kk) := by
  have R := I.ic.1
  refine t_X11_runScript (c_scr (td := fun w => bt (gi h 130 23) w) B0 R I.ic.2.1 I.inn ⟨fun e pl er h1 x1 y1 => ⟨fun z => absurd rfl z, fun _ => ⟨Nat.le_of_ble_eq_true rfl, ?_⟩⟩, fun g nm td p er h1 x1 J => ⟨fun _ => ?_, fun z => absurd z (by decide)⟩⟩)
  · have x0 : Fz WRs VRs (r6 h h1) h1 := x1.r6.mono (fun b k y => by unfold WCs at y; unfold WRs; omega) (fun b y => Or.inl y)
    exact K0 e pl er _ ⟨x0.trans (Fz.si _ _ (Or.inl ⟨rfl, by omega⟩)), gi_same, (gi_ok (by omega)).trans y1.1, (gi_ok (by omega)).trans y1.2⟩
  · obtain ⟨W, A, D⟩ := scR_ok R B0.1 er
    obtain ⟨_, G1, S1, e59⟩ := J
    have x0 : Fz WRs VRs (r6 h h1) h1 := x1.r6.mono (fun b k y => by unfold WCs at y; unfold WRs; omega) (fun b y => Or.inl y)
    have x2 : Fz WRs VRs (r6 h h1) (si h1 1 1 (nI 0)) := x0.trans (Fz.si _ _ (Or.inl ⟨rfl, by omega⟩))
    have a1 : gi (si h1 1 1 (nI 0)) 1 1 = nI 0 := gi_same
    have a2 : gi (si h1 1 1 (nI 0)) 1 2 = nI 0 := (gi_ok (by omega)).trans S1.e2
    have a3 : gi (si h1 1 1 (nI 0)) 1 3 = -(nI 1) := (gi_ok (by omega)).trans S1.e3
    have G2 : PGr g (si h1 1 1 (nI 0)) := (G1.r D).eq (gi_ob (by omega)) (fun b i h1 h2 => gi_ob (by omega)) (fun i => rfl)
    have a58 : gi (si h1 1 1 (nI 0)) 5 8 = nI 0 := by rw [gi_ob (by omega), G1.2.1, D]
    have a59 : gi (si h1 1 1 (nI 0)) 5 9 = nI 0 := (gi_ob (by omega)).trans e59
    have r2 : (si h1 1 1 (nI 0)).2.2.1 = h1.2.2.1 := rfl
    generalize si h1 1 1 (nI 0) = h2 at x2 a1 a2 a3 G2 a58 a59 r2
    obtain ⟨u, w, b1, b2, b3, b4, b5, b6, b7⟩ := I.ih
    have o2 : ∀ b, b ≠ 1 → (b < 5 ∨ 12 < b) → h2.1 b = h.1 b := fun b h1 h3 => x2.cell (fun k => by unfold WRs; omega)
    have g2 : ∀ b k, b ≠ 1 → (b < 5 ∨ 12 < b) → gi h2 b k = gi h b k := fun b k h1 h3 => congrFun (o2 b h1 h3) k
    have X2 : CR 60 (h.1 132) h2 := I.ic.2.heap (fun b hb => o2 b (by omega) (by omega))
    have ew : (w + 1) % 6 < 6 := Nat.mod_lt _ (by omega)
    refine c_keep b1 b2 ((g2 13 1 (by omega) (by omega)).trans b3) ((g2 13 2 (by omega) (by omega)).trans b4) (fun j hj => ?_) X2.2.ib (fun h3 k3 => ?_)
    · show h2.2.2.1 14 j = _
      rw [x2.2.2 14 (by omega)]
      exact b6 j hj
    · obtain ⟨k1, k2, k4, k5, k6⟩ := k3
      have fk : Fz WRo VRs h2 h3 := Fz.fr k1 (fun b k e => by
        cases c : (decide (b = 13 ∨ (88 ≤ b ∧ b ≤ 129)))
        · exfalso
          have c' := of_decide_eq_false c
          rw [WHi_f (by omega) (by omega)] at e
          cases e
        · have c' := of_decide_eq_true c
          unfold WRo; omega)
      have o3 : ∀ b, b ≠ 13 → (b < 88 ∨ 129 < b) → h3.1 b = h2.1 b := fun b h1 h3 => k6 b h1 (by omega)
      have g3 : ∀ b k, b ≠ 13 → (b < 88 ∨ 129 < b) → gi h3 b k = gi h2 b k := fun b k h1 h3 => congrFun (o3 b h1 h3) k
      have X3 : CR 60 (h.1 132) h3 := X2.heap (fun b hb => o3 b (by omega) (by omega))
      have G3 : PGr g h3 := G2.eq (g3 5 5 (by omega) (by omega)) (fun b i h1 h2 => g3 b i (by omega) (by omega)) (fun i => by
        show h3.2.2.1 6 i = h2.2.2.1 6 i
        rw [k1.2])
      have ml := mu_lt (B := fun _ => 0) (L := fun _ => 0) W RI.z
      refine l_crun (h0 := h3) (C := C) (E := E) W D hC hE NF NF (Nat.le_refl _) 0 0 (fun _ => 0) (fun _ => 0) 0 (h.1 132) h3 _ _ (by have := NF_ge; omega) (by omega) RI.z G3 ⟨(g3 5 8 (by omega) (by omega)).trans a58, (g3 5 9 (by omega) (by omega)).trans a59, fun o ho => absurd ho (by omega)⟩ A (R.mono (by omega) (by omega)) X3 (Fz.refl _ _ _) (fun h4 f4 X4 => ?_)
      have o4 : ∀ b, (b < 5 ∨ 12 < b) → (b < 60 ∨ 66 < b) → h4.1 b = h3.1 b := fun b h1 h2 => f4.cell (fun k => by unfold WCr; omega)
      have g4 : ∀ b k, (b < 5 ∨ 12 < b) → (b < 60 ∨ 66 < b) → gi h4 b k = gi h3 b k := fun b k h1 h2 => congrFun (o4 b h1 h2) k
      have rr : h4.2.2.1 6 = h1.2.2.1 6 := by
        rw [f4.2.2 6 (by omega), k1.2, r2]
      have oc : ∀ b, b ≠ 1 → b ≠ 13 → (b < 5 ∨ 12 < b) → (b < 60 ∨ 66 < b) → (b < 88 + 7 * ((w + 1) % 6) ∨ 88 + 7 * ((w + 1) % 6) + 6 < b) → h4.1 b = h.1 b := fun b x1 x2 x3 x4 x5 => by
        rw [o4 b x3 x4, k6 b x2 x5, o2 b x1 x3]
      refine K1 g nm td p er u w h4 ⟨?_, X4, ⟨b1, b2, ?_, ?_, ?_, fun j hj => ?_, ⟨I.ic.2.1.heap fun b x1 x2 => oc b (by omega) (by omega) (by omega) (by omega) (by omega), ?_⟩, fun i hi => ?_⟩, ?_, ?_, ?_⟩
      · rw [r6_eq rr]
        exact ((x2.mono (fun b k y => Or.inl y) (fun b y => y)).trans fk).trans (f4.mono (fun b k y => by unfold WCr at y; unfold WRs; omega) (fun b y => y.elim))
      · rw [g4 13 1 (by omega) (by omega)]; exact k2
      · rw [g4 13 2 (by omega) (by omega)]; exact k4
      · show h4.1 130 21 = _
        rw [oc 130 (by omega) (by omega) (by omega) (by omega) (by omega)]; exact b5
      · show h4.2.2.1 14 j = _
        rw [f4.2.2 14 (by omega), k1.2, x2.2.2 14 (by omega)]
        exact b6 j hj
      · exact (X2.2.cp R.m.2 k5).heap fun b x1 x2 => o4 b (by omega) (by omega)
      · rw [pst_eq (oc 134 (by omega) (by omega) (by omega) (by omega) (by omega))]
        obtain ⟨d1, d2, d3⟩ := b7 i hi
        have := hix_lt (u := u) (w := w) (i := i)
        exact ⟨d1, d2.heap fun b x1 x2 => oc b (by omega) (by omega) (by omega) (by omega) (by omega), fun y => d3.heap fun b x1 x2 => oc b (by omega) (by omega) (by omega) (by omega) (by omega)⟩
      · rw [g4 1 1 (by omega) (by omega), g3 1 1 (by omega) (by omega)]; exact a1
      · rw [g4 1 2 (by omega) (by omega), g3 1 2 (by omega) (by omega)]; exact a2
      · rw [g4 1 3 (by omega) (by omega), g3 1 3 (by omega) (by omega)]; exact a3
end
