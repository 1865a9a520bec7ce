/-! ===== restore ===== -/
section
variable {q : Nat → PH → Prop} {kk : Int32 → PH → Prop} {kv : PH → Prop} {h h' : PH} {s t s' : RW} {C E D F : Nat} {a b0 u w : Nat} {f g z : FI}
def RsC (h h' : PH) : Prop := (∀ c, (c < 15 ∨ 29 < c) → (c < 60 ∨ 66 < c) → c ≠ 13 → h'.1 c = h.1 c) ∧ (∀ k, k ≠ 1 → h'.1 13 k = h.1 13 k) ∧ gi h' 13 1 = nI 0 ∧ (∀ c, (c < 15 ∨ 29 < c) → c ≠ 147 → h'.2.1 c = h.2.1 c) ∧ h'.2.2.1 = h.2.2.1 ∧ LyC 15 45 h h' ∧ StC 60 81 h.1 h'.1
theorem c_restore (I : Inv z C E h) (K0 : gi h 130 22 = 0 → q 0 h) (K1 : gi h 130 22 = 1 → ∀ h2, RsC h h2 → kk (h.1 133 11) h2) : MetPM m_X11_restore [.ref 0] h (rI q kk) := by
  obtain ⟨i1, i2, i3⟩ := I.is
  refine t_X11_restore ?_
  rw [i2]
  refine ⟨fun c => ?_, fun c => ⟨Nat.le_of_ble_eq_true rfl, K0 c⟩⟩
  have e1 : gi h 130 22 = 1 := by
    rcases i1 with e | e
    · exact absurd e c
    · exact e
  have K := K1 e1
  obtain ⟨R, Y, S, N⟩ := i3 e1
  refine t_X8_replaceBy_3 (c_copyLy (Or.inr (Or.inr ⟨rfl, rfl⟩)) (fun h1 o1 e1 y1 => c_copySt (Or.inr (Or.inr (Or.inr (Or.inl ⟨rfl, rfl⟩)))) ?_ (fun h2 f2 c2 => t_X4_forget ?_)))
  · rw [(o1 81 (by omega)).1]; exact S.ib
  · have o2 : ∀ c, (c < 60 ∨ 66 < c) → h2.1 c = h1.1 c := fun c hc => f2.cell fun k => WS_f (by omega)
    have sb : ∀ c, c ≠ 13 → (si h2 13 1 (nI 0)).1 c = h2.1 c := fun c hc => si_b hc
    obtain ⟨⟨⟨l1, l2, l3⟩, l4, l5, l6, l7⟩, l8⟩ := y1
    obtain ⟨x1, x2, x3, x4⟩ := c2
    have e60 : gi (si h2 13 1 (nI 0)) 60 1 = h.1 133 11 := by
      rw [gi_ob (by omega)]
      show h2.1 60 1 = _
      rw [x1 1 (by omega), (o1 81 (by omega)).1]; exact S.ck
    show rI q kk (.inl (some (.int (gi (si h2 13 1 (nI 0)) 60 1)))) (si h2 13 1 (nI 0))
    rw [e60]
    have l8' : (∀ j, j < 8 → gl (si h2 13 1 (nI 0)) (15 + 2) j = gl h (45 + 2) j) ∧ (∀ j, j < 5 → gl (si h2 13 1 (nI 0)) (15 + 7) j = gl h (45 + 7) j) ∧ (∀ j, j < 12 → gl (si h2 13 1 (nI 0)) (15 + 12) j = gl h (45 + 12) j) := by
      have : ∀ b j, gl (si h2 13 1 (nI 0)) b j = gl h1 b j := fun b j => by
        show h2.2.1 b j = h1.2.1 b j
        rw [f2.2]
      simp only [this]
      exact l8
    refine K _ ⟨fun c h1' h2' hc => by rw [sb c hc, o2 c h2', (o1 c (by omega)).1], fun k hk => ?_, gi_same, fun c hc _ => ?_, ?_, ⟨⟨⟨?_, ?_, ?_⟩, fun k k1 k2 => ?_, fun i hi j hj => ?_, fun i hi j hj => ?_, fun i hi j hj => ?_⟩, l8'⟩, ⟨fun k hk => ?_, fun i i1 i2 j hj => ?_, ⟨?_, ?_⟩, fun j hj => ?_⟩⟩
    · rw [si_a, ups_n hk, o2 13 (by omega), (o1 13 (by omega)).1]
    · show h2.2.1 c = _
      rw [f2.2, (o1 c (by omega)).2]
    · show h2.2.2.1 = _
      rw [f2.2, e1]
    · rw [sb _ (by omega), o2 _ (by omega)]; exact l1
    · rw [sb _ (by omega), o2 _ (by omega)]; exact l2
    · rw [sb _ (by omega), o2 _ (by omega)]; exact l3
    · rw [sb _ (by omega), o2 _ (by omega)]; exact l4 k k1 k2
    · rw [sb _ (by omega), o2 _ (by omega)]; exact l5 i hi j hj
    · rw [sb _ (by omega), o2 _ (by omega)]; exact l6 i hi j hj
    · rw [sb _ (by omega), o2 _ (by omega)]; exact l7 i hi j hj
    · rw [sb _ (by omega), x1 k hk, (o1 81 (by omega)).1]
    · rw [sb _ (by omega), x2 i i1 i2 j hj, (o1 (81 + i) (by omega)).1]
    · rw [sb _ (by omega), x3.1, (o1 (81 + 5) (by omega)).1]
    · rw [sb _ (by omega), x3.2, (o1 (81 + 5) (by omega)).1]
    · rw [sb _ (by omega), x4 j hj, (o1 (81 + 6) (by omega)).1]
theorem l_rest15 {h0 : PH} (K : ∀ h', Fr WR h0 h' → (∀ j, j < 253 → gi h' 132 j = gi h0 133 j) → At m_X12_restore (rI q kk) 42 0 [some (.ref 130), some (.int (nI 0))] [] h') : ∀ k i h, i + k = 253 → Fr WR h0 h → (∀ j, j < i → gi h 132 j = gi h0 133 j) → At m_X12_restore (rI q kk) 15 0 [some (.ref 130), some (.int (nI i))] [] h := by
  intro k
  induction k with
  | zero =>
    intro i h hi F A
    refine u_X12_restore_15 (pk_le 253 i (fun _ => ?_) (fun z => absurd z (by omega)))
    exact K h F (fun j hj => A j (by omega))
  | succ k ih =>
    intro i h hi F A
    refine u_X12_restore_15 (pk_le 253 i (fun z => absurd z (by omega)) (fun _ => ⟨rv (by omega), rv (by omega), ?_⟩))
    rw [cl (by omega), nI_add]
    refine ih (i + 1) _ (by omega) (F.and _ (WR_t (by omega))) (fun j hj => ?_)
    by_cases c : j = i
    · subst c; rw [gi_same, F.1 133 j rfl]
    · rw [gi_ok c]; exact A j (by omega)
theorem l_rest42 {h0 : PH} (K : ∀ h', Lc1 137 h0 h' → (∀ j, j < 25 → gl h' 137 j = gl h0 138 j) → kk (gi h0 132 11) (si h' 130 21 (nI 0))) : ∀ k i h, i + k = 25 → Lc1 137 h0 h → (∀ j, j < i → gl h 137 j = gl h0 138 j) → At m_X12_restore (rI q kk) 42 0 [some (.ref 130), some (.int (nI i))] [] h := by
  intro k
  induction k with
  | zero =>
    intro i h hi F A
    refine u_X12_restore_42 (pk_le 25 i (fun _ => ⟨rv (by omega), ?_⟩) (fun z => absurd z (by omega)))
    have e : gi (si h 130 21 (nI 0)) 132 (nI 11).toNatClampNeg = gi h0 132 11 := by
      rw [cl (by omega), gi_ob (by omega)]
      show h.1 132 11 = _
      rw [F.1]; rfl
    rw [e]
    exact K h F (fun j hj => A j (by omega))
  | succ k ih =>
    intro i h hi F A
    refine u_X12_restore_42 (pk_le 25 i (fun z => absurd z (by omega)) (fun _ => ⟨vp_in_nI (by omega) (by omega), vp_in_nI (by omega) (by omega), ?_⟩))
    rw [cl (by omega), nI_add]
    refine ih (i + 1) _ (by omega) (F.and _) (fun j hj => ?_)
    by_cases c : j = i
    · subst c
      rw [gl_same]
      show h.2.1 138 j = _
      rw [F.2.1 138 (by omega)]; rfl
    · rw [gl_ok c]; exact A j (by omega)
theorem s_restore0 (e : gi h 130 22 = 0) (K : kk (nI 0) (si h 130 0 (nI 1))) : MetPM m_X12_restore [.ref 130] h (rI q kk) := by
  refine t_X12_restore ?_
  rw [e]
  exact s_gate (b := false) (fun _ => g0 K) (fun c => by cases c)
theorem s_restore {h0 : PH} (I : Inv z C E h0) (e22 : gi h0 130 22 = 1) (U : RsC h0 h) (K : ∀ h', Inv z C E h' → gi h' 130 0 = nI 0 → h'.2.1 147 = h.2.1 147 → kk (h0.1 133 11) h') : MetPM m_X12_restore [.ref 130] h (rI q kk) := by
  obtain ⟨i1, i2, i3⟩ := I.is
  obtain ⟨R, Y, S, N⟩ := i3 e22
  obtain ⟨u1, u2, u3, u4, u5, u6, u7⟩ := U
  obtain ⟨u, w, b⟩ := I.ih
  obtain ⟨b1, b2, b3, b4, b5, b6, b7⟩ := b
  have eh : gi h 130 22 = 1 := by
    show h.1 130 22 = _
    rw [u1 130 (by omega) (by omega) (by omega)]; exact e22
  refine t_X12_restore ?_
  rw [eh]
  refine s_gate (b := true) (fun c => by cases c) (fun _ => g1 ?_)
  refine l_rest15 (h0 := si h 130 0 (nI 0)) (fun h1 f1 a1 => l_rest42 (h0 := h1) (fun h2 f2 a2 => ?_) _ 0 h1 (Nat.zero_add _) (Lc1.refl _ _) (fun j hj => absurd hj (Nat.not_lt_zero j))) _ 0 _ (Nat.zero_add _) (Fr.refl _ _) (fun j hj => absurd hj (Nat.not_lt_zero j))
  have c1 : ∀ c, c ≠ 132 → c ≠ 130 → h1.1 c = h.1 c := fun c x1 x2 => by
    rw [f1.cell (b := c) (fun k => by
      unfold WR
      rw [nbq x1]; rfl), si_b x2]
  have c2 : ∀ c, c ≠ 132 → c ≠ 130 → (si h2 130 21 (nI 0)).1 c = h.1 c := fun c x1 x2 => by rw [si_b x2, f2.1, c1 c x1 x2]
  have c130 : ∀ k, k ≠ 21 → k ≠ 0 → (si h2 130 21 (nI 0)).1 130 k = h.1 130 k := fun k x1 x2 => by
    rw [si_a, ups_n x1, f2.1, f1.cell (b := 130) (fun k => rfl), si_a, ups_n x2]
  have l2 : ∀ c, c ≠ 137 → (si h2 130 21 (nI 0)).2.1 c = h.2.1 c := fun c x1 => by
    show h2.2.1 c = _
    rw [f2.2.1 c x1, f1.2]; rfl
  have r2 : (si h2 130 21 (nI 0)).2.2.1 = h0.2.2.1 := by
    show h2.2.2.1 = _
    rw [f2.2.2, f1.2]; exact u5
  have ep : eqR (h0.1 133) ((si h2 130 21 (nI 0)).1 132) := fun j hj => by
    rw [si_b (by omega), f2.1]
    show gi h1 132 j = _
    rw [a1 j hj]
    show (si h 130 0 (nI 0)).1 133 j = _
    rw [si_b (by omega), u1 133 (by omega) (by omega) (by omega)]
  have e11 : gi h1 132 11 = h0.1 133 11 := by
    have := ep 11 (by omega)
    rw [si_b (by omega), f2.1] at this
    exact this
  rw [e11]
  have Y15 : LyR 15 (h0.1 133) h.1 := Y.cp R.1 u6
  have S60 : StR 60 (h0.1 133) h.1 := S.cp R.m.2 u7
  have gl9 : ∀ b j, b ≠ 137 → gl (si h2 130 21 (nI 0)) b j = gl h b j := fun b j hb => by
    show (si h2 130 21 (nI 0)).2.1 b j = _
    rw [l2 b hb]; rfl
  have N2 : NmR 15 137 ((si h2 130 21 (nI 0)).1 132) (si h2 130 21 (nI 0)) := by
    refine NmR.cp (h := h0) (b0 := 45) (n := 138) R.1 ep.ag ⟨fun j hj => ?_, fun j hj => ?_, fun j hj => ?_⟩ (fun j hj => ?_) N
    · rw [gl9 _ _ (by omega)]; exact u6.2.1 j hj
    · rw [gl9 _ _ (by omega)]; exact u6.2.2.1 j hj
    · rw [gl9 _ _ (by omega)]; exact u6.2.2.2 j hj
    · show gl h2 137 j = _
      rw [a2 j hj]
      show h1.2.1 138 j = h0.2.1 138 j
      rw [f1.2]
      show h.2.1 138 j = _
      rw [u4 138 (by omega) (by omega)]
  have fz : Fz (fun b k => (15 ≤ b ∧ b ≤ 29) ∨ (60 ≤ b ∧ b ≤ 66) ∨ (b = 13 ∧ k = 1) ∨ b = 132 ∨ (b = 130 ∧ (k = 0 ∨ k = 21))) (fun b => (15 ≤ b ∧ b ≤ 29) ∨ b = 137 ∨ b = 147) h0 (si h2 130 21 (nI 0)) := ⟨fun b k e => by
    by_cases c : b = 130
    · subst c
      show (si h2 130 21 (nI 0)).1 130 k = h0.1 130 k
      rw [c130 k (by omega) (by omega), u1 130 (by omega) (by omega) (by omega)]
    · by_cases d : b = 13
      · subst d
        show (si h2 130 21 (nI 0)).1 13 k = h0.1 13 k
        rw [c2 13 (by omega) (by omega), u2 k (by omega)]
      · show (si h2 130 21 (nI 0)).1 b k = h0.1 b k
        rw [c2 b (by omega) c, u1 b (by omega) (by omega) d], fun b e => by rw [l2 b (by omega), u4 b (by omega) (by omega)], fun b _ => by rw [r2]⟩
  refine K _ ⟨⟨R.eqR ep, ⟨(Y15.heap fun b x1 x2 => c2 b (by omega) (by omega)).congr ep.ag R.1, (S60.heap fun b x1 x2 => c2 b (by omega) (by omega)).eqR R.m.2 ep⟩⟩, I.it.fz fz (fun k _ _ => by omega) (fun k => by omega) (fun k => by omega) (fun k _ => by omega), N2, I.is.fz fz (by omega) (by omega) (fun k => by omega) (fun b k _ => by omega) (by omega) (by omega) (by omega) (by omega), ⟨0, w, by omega, b2, ?_, ?_, ?_, fun j hj => ?_, fun i hi => absurd hi (Nat.not_lt_zero i)⟩, I.ip.fz fz (by omega) (by omega) (by omega) (fun k => by omega) (fun k => by omega), I.iz.fz fz (fun k => by omega) (fun k => by omega) (by omega)⟩ ?_ (l2 147 (by omega))
  · show (si h2 130 21 (nI 0)).1 13 1 = _
    rw [c2 13 (by omega) (by omega)]; exact u3
  · show (si h2 130 21 (nI 0)).1 13 2 = _
    rw [c2 13 (by omega) (by omega), u2 2 (by omega)]; exact b4
  · exact gi_same
  · show (si h2 130 21 (nI 0)).2.2.1 14 j = _
    rw [r2]; exact b6 j hj
  · rw [gi_ok (by omega)]
    show h2.1 130 0 = _
    rw [f2.1, f1.cell (b := 130) (fun k => rfl), si_a, ups_s]
end
