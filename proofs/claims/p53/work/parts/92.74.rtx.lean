/-! ===== readText, both sides ===== -/
/-- what the reading of the text comes to -/
def rtR (c : Nat → Nat) (n : Nat) (h : PH) : Rs := aAll c n 900 (clrS (h.1 132)) (fun i => gl h 137 i) (fun _ => false) 0
section
variable {q : Nat → PH → Prop} {kk kj : Int32 → PH → Prop} {kl : Int64 → PH → Prop} {kv kw k1 : PH → Prop} {h h' : PH} {s t : RW} {C E L : Nat} {a b n m p v w e pl i : Nat} {f g z : FI} {nm : Nat → Int64} {c : Nat → Nat} {td : Nat → Bool} {y : Int64}
theorem IT.fn (I : IT h) : ∃ n c, CB c n h ∧ gi h 130 2 = nI n ∧ ∀ j, j < n → gi h 131 j = nI (c j) := by
  obtain ⟨n, a1, a2, a3, a4, a5, a6⟩ := I
  have q1 : ∀ j, j < n → ∃ c, nn (gi h 131 j) = c ∧ c < 256 ∧ gi h 2 j = sb_b c ∧ gi h 131 j = nI c := fun j hj => by
    obtain ⟨c, c1, c2, c3⟩ := a4 j hj
    exact ⟨c, by rw [c3, nn_nI (by omega)], c1, c2, c3⟩
  refine ⟨n, fun j => if j < n then nn (gi h 131 j) else 0, ⟨a1, fun j => ?_, a2, fun j hj => ?_⟩, a3, fun j hj => ?_⟩
  · show (if j < n then nn (gi h 131 j) else 0) < 256
    by_cases d : j < n
    · rw [if_pos d]
      obtain ⟨c, c0, c1, c2, c3⟩ := q1 j d
      rw [c0]; exact c1
    · rw [if_neg d]; omega
  · show gi h 2 j = sb_b (if j < n then nn (gi h 131 j) else 0)
    rw [if_pos hj]
    obtain ⟨c, c0, c1, c2, c3⟩ := q1 j hj
    rw [c0]; exact c2
  · show gi h 131 j = nI (if j < n then nn (gi h 131 j) else 0)
    rw [if_pos hj]
    obtain ⟨c, c0, c1, c2, c3⟩ := q1 j hj
    rw [c0]; exact c3
def WRd (b k : Nat) : Prop := WS2 b k ∨ (b = 1 ∧ 1 ≤ k)
def WRe (b k : Nat) : Prop := WRd b k ∨ (15 ≤ b ∧ b ≤ 29) ∨ (60 ≤ b ∧ b ≤ 66) ∨ (b = 13 ∧ k = 1)
def VRd (b : Nat) : Prop := VS2 b ∨ b = 147
def VRe (b : Nat) : Prop := VRd b ∨ (15 ≤ b ∧ b ≤ 29)
/-- the class has refused the text -/
def RdE (e pl : Nat) (h h' : PH) : Prop := Fz WRd VRd h h' ∧ gi h' 1 1 = nI 0 ∧ ER (nI e) pl h'
/-- the class has the text's cluster -/
def RdO (s : RW) (nm : Nat → Int64) (h h' : PH) : Prop := Fz WRe VRe h h' ∧ LyR 15 s h'.1 ∧ StR 60 s h'.1 ∧ ((∀ i, i < nn (s 0) → NmE (gl h' 17 i) (nm i)) ∧ (∀ i, i < nn (s 1) → NmE (gl h' 22 i) (nm (8 + i))) ∧ (∀ i, i < nn (s 2) → NmE (gl h' 27 i) (nm (13 + i)))) ∧ gi h' 1 1 = nI 0 ∧ gi h' 1 2 = nI 0 ∧ gi h' 1 3 = -(nI 1) ∧ gi h' 13 1 = nI 0
theorem c_readText (B : CB c n h) (hr : ∃ w, w < 30 ∧ gi h 79 2 = nI w) (K0 : ∀ e pl, rtR c n h = .inl (e, pl) → ∀ h', RdE e pl h h' → q 1 h') (K1 : ∀ s nm td p, rtR c n h = .inr (s, nm, td, p) → ∀ h', RdO s nm h h' → PR s → kk (s 2) h') : MetPM m_X11_readText [.ref 0] h (rI q kk) := by
  refine t_X11_readText (a_all B hr (fun i => gl h 137 i) (s := h.1 132) ⟨fun e pl er h1 x1 y1 => ⟨fun z => absurd rfl z, fun _ => ⟨Nat.le_of_ble_eq_true rfl, ?_⟩⟩, fun s nm td p er h1 x1 S1 => ⟨fun _ => ?_, fun z => absurd z (by decide)⟩⟩)
  · have x2 : Fz WRd VRd h (si h1 1 1 (nI 0)) := (x1.mono (fun b k y => Or.inl y) (fun b y => Or.inl y)).trans (Fz.si _ _ (Or.inr ⟨rfl, by omega⟩))
    exact K0 e pl er _ ⟨x2, gi_same, (gi_ok (by omega)).trans y1.1, (gi_ok (by omega)).trans y1.2⟩
  · have x2 : Fz WRd VRd h (si h1 1 1 (nI 0)) := (x1.mono (fun b k y => Or.inl y) (fun b y => Or.inl y)).trans (Fz.si _ _ (Or.inr ⟨rfl, by omega⟩))
    have D2 : LyR 30 s (si h1 1 1 (nI 0)).1 ∧ StR 74 s (si h1 1 1 (nI 0)).1 := ⟨S1.D.1.heap (fun b _ _ => si_b (by omega)), S1.D.2.1.heap (fun b _ _ => si_b (by omega))⟩
    have N2 := S1.D.2.2
    have e12 : gi (si h1 1 1 (nI 0)) 1 2 = nI 0 := (gi_ok (by omega)).trans S1.e2
    have e13 : gi (si h1 1 1 (nI 0)) 1 3 = -(nI 1) := (gi_ok (by omega)).trans S1.e3
    have e11 : gi (si h1 1 1 (nI 0)) 1 1 = nI 0 := gi_same
    have l2 : (si h1 1 1 (nI 0)).2 = h1.2 := rfl
    generalize si h1 1 1 (nI 0) = h2 at x2 D2 e12 e13 e11 l2
    refine t_X8_replaceBy_1 (c_copyLy (Or.inl ⟨rfl, rfl⟩) (fun h3 o3 e3 y3 => c_copySt (Or.inr (Or.inl ⟨rfl, rfl⟩)) ?_ (fun h4 f4 c4 => t_X4_forget ?_)))
    · rw [(o3 74 (by omega)).1]; exact D2.2.ib
    · have o4 : ∀ c, (c < 60 ∨ 66 < c) → h4.1 c = h3.1 c := fun c hc => f4.cell fun k => WS_f (by omega)
      have sb : ∀ c, c ≠ 13 → (si h4 13 1 (nI 0)).1 c = h4.1 c := fun c hc => si_b hc
      have l4 : (si h4 13 1 (nI 0)).2 = h3.2 := f4.2
      have Y3 : LyR 15 s h3.1 := D2.1.cp S1.P.rk.1 y3
      have Y5 : LyR 15 s (si h4 13 1 (nI 0)).1 := Y3.heap (fun b x1 x2 => by rw [sb b (by omega), o4 b (by omega)])
      have T3 : StR 74 s h3.1 := D2.2.heap (fun b x1 x2 => (o3 b (by omega)).1)
      have T5 : StR 60 s (si h4 13 1 (nI 0)).1 := (T3.cp S1.P.x.2.1.2 c4).heap (fun b x1 x2 => sb b (by omega))
      have F : Fz WRe VRe h (si h4 13 1 (nI 0)) := by
        refine (x2.mono (fun b k y => Or.inl y) (fun b y => Or.inl y)).trans ⟨fun b k e => ?_, fun b e => ?_, fun b _ => ?_⟩
        · have hb : ¬ ((15 ≤ b ∧ b ≤ 29) ∨ (60 ≤ b ∧ b ≤ 66) ∨ (b = 13 ∧ k = 1)) := fun y => e (Or.inr y)
          by_cases d : b = 13
          · subst d
            rw [gi_ok (by omega)]
            show h4.1 13 k = _
            rw [o4 13 (by omega), (o3 13 (by omega)).1]; rfl
          · rw [gi_ob d]
            show h4.1 b k = _
            rw [o4 b (by omega), (o3 b (by omega)).1]; rfl
        · have hb : ¬ (15 ≤ b ∧ b ≤ 29) := fun y => e (Or.inr y)
          rw [l4, (o3 b (by omega)).2]
        · rw [l4, e3]
      have g15 : ∀ b j, gl (si h4 13 1 (nI 0)) b j = gl h3 b j := fun b j => by
        show (si h4 13 1 (nI 0)).2.1 b j = _
        rw [l4]; rfl
      have g2 : ∀ b j, gl h2 b j = gl h1 b j := fun b j => by
        show h2.2.1 b j = _
        rw [l2]; rfl
      have s8 := S1.P.v.1.2
      have s5 := S1.P.x.1.2
      have s12 := S1.P.x.2.1.2
      have res := K1 s nm td p er _ ⟨F, Y5, T5, ⟨fun i hi => ?_, fun i hi => ?_, fun i hi => ?_⟩, ?_, ?_, ?_, gi_same⟩ S1.P
      · show rI q kk (.inl (some (.int (gi (si h4 13 1 (nI 0)) 26 1)))) (si h4 13 1 (nI 0))
        rw [show gi (si h4 13 1 (nI 0)) 26 1 = s 2 from Y5.nm]
        exact res
      · rw [g15, show gl h3 17 i = gl h2 32 i from y3.2.1 i (by omega), g2]
        exact N2.1 i hi
      · rw [g15, show gl h3 22 i = gl h2 37 i from y3.2.2.1 i (by omega), g2]
        exact N2.2.1 i hi
      · rw [g15, show gl h3 27 i = gl h2 42 i from y3.2.2.2 i (by omega), g2]
        exact N2.2.2 i hi
      · show (si h4 13 1 (nI 0)).1 1 1 = _
        rw [sb 1 (by omega), o4 1 (by omega), (o3 1 (by omega)).1]; exact e11
      · show (si h4 13 1 (nI 0)).1 1 2 = _
        rw [sb 1 (by omega), o4 1 (by omega), (o3 1 (by omega)).1]; exact e12
      · show (si h4 13 1 (nI 0)).1 1 3 = _
        rw [sb 1 (by omega), o4 1 (by omega), (o3 1 (by omega)).1]; exact e13
end

