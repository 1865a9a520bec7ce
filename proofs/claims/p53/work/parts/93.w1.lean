/-! ===== the law's World: what it shows ===== -/
/-- a World's numbers: 0 members' list, 1 its places, 2 events' list, 3 its places, 4 low, 5 high, 6 waveOf, 7 talks, 8 linked; members, events; rows of talks, of linked -/
abbrev WN : Type := (Nat → Nat) × List Nat × List Nat × (Nat → Nat) × (Nat → Nat)
def WN.u (W : WN) : Nat → Nat := W.1
def WN.ms (W : WN) : List Nat := W.2.1
def WN.es (W : WN) : List Nat := W.2.2.1
def WN.tr (W : WN) : Nat → Nat := W.2.2.2.1
def WN.lr (W : WN) : Nat → Nat := W.2.2.2.2
/-- its own ints -/
def WOi (h : PH) (w : Nat) (s : RW) : Prop :=
  (qkd h w = 2 ∧ 2000 ≤ w) ∧ (gi h w 0 = s 5 ∧ gi h w 1 = s 6 ∧ gi h w 2 = s 7 ∧ gi h w 3 = s 8 ∧ gi h w 4 = s 9 ∧ gi h w 5 = s 10 ∧ gi h w 6 = s 11 ∧ gi h w 8 = s 12 ∧ gi h w 15 = s 0 ∧ gi h w 16 = s 1 ∧ gi h w 17 = s 3) ∧
  (hasP s = true → gi h w 9 = s 13 ∧ gi h w 10 = s 14 ∧ gi h w 11 = s 15 ∧ gi h w 14 = s 17) ∧ (s 12 = nI 3 → gi h w 13 = s 18) ∧ (s 12 = nI 2 ∨ (s 12 = nI 3 ∧ s 18 = nI 2) → gi h w 12 = s 16)
/-- its references -/
def WOr (h : PH) (w : Nat) (u : Nat → Nat) : Prop := gr h w 18 = some (u 4) ∧ gr h w 19 = some (u 5) ∧ gr h w 20 = some (u 6) ∧ gr h w 21 = some (u 7) ∧ gr h w 22 = some (u 8) ∧ gr h w 23 = some (u 0) ∧ gr h w 24 = some (u 2)
/-- its arrays -/
def WOa (h : PH) (W : WN) (s : RW) : Prop :=
  (qkd h (W.u 4) = 16 ∧ qln h (W.u 4) = 8 ∧ ∀ v, v < nn (s 0) → gi h (W.u 4) v = s (20 + v)) ∧
  (qkd h (W.u 5) = 16 ∧ qln h (W.u 5) = 8 ∧ ∀ v, v < nn (s 0) → gi h (W.u 5) v = s (28 + v)) ∧
  (qkd h (W.u 6) = 16 ∧ qln h (W.u 6) = 5 ∧ ∀ p, p < nn (s 1) → gi h (W.u 6) p = s (44 + p)) ∧
  (qkd h (W.u 7) = 24 ∧ qln h (W.u 7) = 8 ∧ ∀ a, a < 8 → gr h (W.u 7) a = some (W.tr a) ∧ qkd h (W.tr a) = 22 ∧ qln h (W.tr a) = 8 ∧ ∀ b, b < nn (s 0) → a < nn (s 0) → gi h (W.tr a) b = b2i (bt (s (36 + a)) b)) ∧
  (qkd h (W.u 8) = 24 ∧ qln h (W.u 8) = 12 ∧ ∀ a, a < 12 → gr h (W.u 8) a = some (W.lr a) ∧ qkd h (W.lr a) = 22 ∧ qln h (W.lr a) = 12 ∧ ∀ b, b < nn (s 2) → a < nn (s 2) → gi h (W.lr a) b = b2i (bt (mf s a 6) b))
/-- its members, its events -/
def WOm (h : PH) (W : WN) (s : RW) : Prop :=
  AlQ h (W.u 0) (W.u 1) W.ms 1 ∧ W.ms.length = nn (s 2) ∧ W.ms.Nodup ∧ (∀ k, k < W.ms.length → 2000 ≤ W.ms.getD k 0 ∧ ∀ j, j < 6 → gi h (W.ms.getD k 0) j = mf s k j)
def WOe (h : PH) (W : WN) : Prop := AlQ h (W.u 2) (W.u 3) W.es 16 ∧ 2000 ≤ W.u 0 ∧ 2000 ≤ W.u 2 ∧ W.u 0 ≠ W.u 2 ∧ (W.u 1 = 1402 ∨ (2000 ≤ W.u 1 ∧ W.u 1 ≠ W.u 3)) ∧ (W.u 3 = 1402 ∨ 2000 ≤ W.u 3)
def WO (h : PH) (w : Nat) (W : WN) (s : RW) : Prop := WOi h w s ∧ WOr h w W.u ∧ WOa h W s ∧ WOm h W s ∧ WOe h W
section
variable {h h' : PH} {w k q9 : Nat} {W : WN} {s : RW} {C E : Nat} {Q : Res → PH → Prop}
theorem WO.i (X : WO h w W s) : WOi h w s := X.1
theorem WO.r (X : WO h w W s) : WOr h w W.u := X.2.1
theorem WO.a (X : WO h w W s) : WOa h W s := X.2.2.1
theorem WO.m (X : WO h w W s) : WOm h W s := X.2.2.2.1
theorem WO.e (X : WO h w W s) : WOe h W := X.2.2.2.2
theorem WO.kw (X : WO h w W s) : qkd h w = 2 := X.i.1.1
theorem WO.rc (X : WO h w W s) : rcvQ h w 2 := Or.inl X.kw
theorem WO.al (X : WO h w W s) : AlQ h (W.u 0) (W.u 1) W.ms 1 := X.m.1
theorem WO.km (X : WO h w W s) (hk : k < W.ms.length) : qkd h (W.ms.getD k 0) = 1 := X.al.el _ (by
  rw [List.getD_eq_getElem?_getD, List.getElem?_eq_getElem hk]
  exact List.getElem_mem hk)
theorem WO.f (X : WO h w W s) (hk : k < W.ms.length) {j : Nat} (hj : j < 6) : gi h (W.ms.getD k 0) j = mf s k j := (X.m.2.2.2 k hk).2 j hj
theorem c_mUp (km : qkd h q9 = 1) (k1 : gi h q9 2 < 0 → Q (.inl (some (.int (nI 1)))) h) (k0 : 0 ≤ gi h q9 2 → Q (.inl (some (.int (nI 0)))) h) : MetQ mq_X12_isUp [.ref q9] h Q :=
  tq_X12_isUp ⟨km, fun z => ⟨Or.inl rfl, k0 z⟩, fun z => ⟨Or.inr rfl, k1 (Int32.not_le.mp z)⟩⟩
theorem c_mCom (km : qkd h q9 = 1) (k1 : gi h q9 2 < 0 → Q (.inl (some (.int (gi h q9 1)))) h) (k0 : 0 ≤ gi h q9 2 → Q (.inl (some (.int (gi h q9 2)))) h) : MetQ mq_X12_coming [.ref q9] h Q :=
  tq_X12_coming ⟨Or.inl km, c_mUp km (fun z _ => ⟨fun y => absurd y (by decide), fun _ => ⟨km, k1 z⟩⟩) (fun z _ => ⟨fun _ => ⟨km, k0 z⟩, fun y => absurd rfl y⟩)⟩
theorem c_wGoing (X : WO h w W s) (k : Q (.inl (some (.int (b2i (going s))))) h) : MetQ mq_X13_isGoing [.ref w] h Q := by
  have e : gi h w 8 = s 12 := X.i.2.1.2.2.2.2.2.2.2.1
  refine tq_X13_isGoing ⟨X.kw, ?_⟩
  rw [e]
  unfold going at k
  refine ⟨fun z => ⟨Or.inr rfl, ?_⟩, fun z => ⟨X.kw, fun z2 => ⟨Or.inl rfl, ?_⟩, fun z2 => ⟨Or.inr rfl, ?_⟩⟩⟩
  · rw [decide_eq_true z, Bool.true_or] at k; exact k
  · rw [decide_eq_false z, decide_eq_false z2] at k; exact k
  · rw [decide_eq_true z2, Bool.or_true] at k; exact k
theorem c_wWave (X : WO h w W s) (R : RkL s) (hk : k < W.ms.length) (K : Q (.inl (some (.int (wvOf s k)))) h) : MetQ mq_X13_waveAt [.ref w, .int (nI k)] h Q := by
  obtain ⟨-, -, ⟨a1, a2, a3⟩, -, -⟩ := X.a
  obtain ⟨r1, r2, r3, r4, r5, r6, r7⟩ := X.r
  have hl := X.m.2.1
  obtain ⟨p1, p2⟩ := R.pl k (by omega)
  have e0 : gi h (W.ms.getD k 0) 0 = mf s k 0 := X.f hk (by decide)
  have hp := R.p.2
  refine tq_X13_waveAt ⟨X.kw, g3 r3 ⟨X.kw, g3 r6 ⟨X.al.rc, c_get X.al hk (fun _ => ⟨X.km hk, X.km hk, Or.inl a1, ?_, ?_⟩)⟩⟩⟩
  · rw [e0, p1.1, a2]
    exact vp_in_nI (show pN s k < 5 by omega) (by decide)
  · rw [e0]
    show Q (.inl (some (.int (gi h (W.u 6) (pN s k))))) h
    rw [a3 _ p2]
    exact K
end
