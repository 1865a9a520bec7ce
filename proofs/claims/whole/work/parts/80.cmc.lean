/-! ===== the class reads a command ===== -/
section
variable {q : Nat → PH → Prop} {kk kj : Int32 → PH → Prop} {kl : Int64 → PH → Prop} {kv : PH → Prop} {h h' : PH} {s t g : RW} {C E L : Nat} {a b n m p v w j ct : Nat} {nm : Nat → Int64} {c : Nat → Nat} {td : Nat → Bool}
def AG (j i : Nat) (x y : Int32) (h : PH) : Prop := (4 ≤ j ∧ j ≤ 7 → gi h 7 i = x) ∧ (j = 1 → gi h 8 i = x) ∧ (j = 7 → gi h 8 i = y) ∧ (j = 0 ∨ j = 8 ∨ j = 9 → gi h 9 i = x) ∧ (j = 6 → gi h 9 i = y)
/-- the class's program is this one -/
def PGc (g : RW) (h : PH) : Prop := gi h 5 5 = nI (pC g) ∧ gi h 5 8 = nI (pD g) ∧ (∀ o, o < pD g → gi h 11 o = nI (sig g (pS g o))) ∧ (∀ k, k < pM g → ∀ j, j < 10 → pK g k = nI j → gr h 6 (sig g k) = some (1020 + j) ∧ AG j (sig g k) (pX g k) (pY g k) h) ∧ (∀ k, k < pM g → pK g k = nI 9 → (∀ o, o < pD g → pS g o ≠ k) → gi h 10 (sig g k) = nI (sig g (pE g k)))
def JC (c : Nat → Nat) (n : Nat) (s : RW) (nm : Nat → Int64) : RW → (Nat → Int64) → (Nat → Bool) → Nat → PH → Prop := fun g _ _ p h => WFg g ∧ PGc g h ∧ CY c n s nm p h ∧ gi h 5 9 = nI 0
theorem AG.eq {i : Nat} {x y : Int32} (A : AG j i x y h) (e : ∀ b, b = 7 ∨ b = 8 ∨ b = 9 → gi h' b i = gi h b i) : AG j i x y h' := ⟨fun z => (e 7 (by omega)).trans (A.1 z), fun z => (e 8 (by omega)).trans (A.2.1 z), fun z => (e 8 (by omega)).trans (A.2.2.1 z), fun z => (e 9 (by omega)).trans (A.2.2.2.1 z), fun z => (e 9 (by omega)).trans (A.2.2.2.2 z)⟩
theorem sig_lt {k : Nat} (W : WFg g) (hk : k < pM g) (hj : j < 10) (e : pK g k = nI j) : sig g k < pC g := by
  have n10 : ¬ nI j = nI 10 := fun z => by
    have := (nI_eq (a := j) (b := 10) (by omega) (by omega)).mp z
    omega
  have h1 := sig_s (g := g) (k := k)
  rw [e, if_neg n10] at h1
  have h2 := sig_mono (g := g) (k := k + 1) (pM g - (k + 1))
  rw [show k + 1 + (pM g - (k + 1)) = pM g by omega, ← W.2.2.1] at h2
  omega
/-- the program has a command more -/
theorem PGc.put {x y : Nat} (W : WFg g) (G : PGc g h) (hj : j < 10) (hC : pC g < 30) (hD : j = 9 → pD g < 2) (i55 : gi h' 5 5 = nI (pC g + 1)) (i58 : gi h' 5 8 = nI (if j = 9 then pD g + 1 else pD g)) (i11 : ∀ o, o < pD g → gi h' 11 o = gi h 11 o) (i11n : j = 9 → gi h' 11 (pD g) = nI (pC g)) (i10 : ∀ i, gi h' 10 i = gi h 10 i) (i7 : ∀ b i, b = 7 ∨ b = 8 ∨ b = 9 → i ≠ pC g → gi h' b i = gi h b i) (r6 : ∀ i, i ≠ pC g → gr h' 6 i = gr h 6 i) (r6n : gr h' 6 (pC g) = some (1020 + j)) (A : AG j (pC g) (nI x) (nI y) h') : PGc (aPut g j x y) h' := by
  obtain ⟨⟨w1, w2, w3⟩, w4, w5, w6, w7, w8⟩ := W
  have W : WFg g := ⟨⟨w1, w2, w3⟩, w4, w5, w6, w7, w8⟩
  have hM : pM g ≤ 200 := by omega
  have eK : ∀ i, i < pM g → pK (aPut g j x y) i = pK g i := fun i hi => by rw [put_K (by omega) hM, if_neg (by omega)]
  have eM : pK (aPut g j x y) (pM g) = nI j := by rw [put_K hM hM, if_pos rfl]
  have eS : ∀ k, k ≤ pM g → sig (aPut g j x y) k = sig g k := fun k hk => sig_eq (fun i hi => eK i (by omega))
  have pm := put_M (j := j) (x := x) (y := y) hM
  have pd := put_D (j := j) (x := x) (y := y) hM w3
  obtain ⟨g1, g2, g3, g4, g5⟩ := G
  refine ⟨?_, ?_, fun o ho => ?_, fun k hk j' hj' e => ?_, fun k hk e9 no => ?_⟩
  · rw [put_C hM (by omega)]; exact i55
  · rw [pd]; exact i58
  · rw [pd] at ho
    rw [put_S hM]
    by_cases d : j = 9 ∧ o = pD g
    · rw [if_pos d, eS _ (Nat.le_refl _), ← w5, d.2]
      exact i11n d.1
    · have ho2 : o < pD g := by
        by_cases d9 : j = 9
        · rw [if_pos d9] at ho; omega
        · rw [if_neg d9] at ho; exact ho
      rw [if_neg d, eS _ (by have := (w7 o ho2).1; omega), i11 o ho2]
      exact g3 o ho2
  · rw [pm] at hk
    by_cases d : k = pM g
    · subst d
      rw [eM] at e
      have jj : j = j' := (nI_eq (a := j) (b := j') (by omega) (by omega)).mp e
      subst jj
      rw [eS _ (Nat.le_refl _), ← w5, put_X hM hM, if_pos rfl, put_Y hM hM, if_pos rfl]
      exact ⟨r6n, A⟩
    · rw [eK k (by omega)] at e
      have lt := sig_lt W (by omega : k < pM g) hj' e
      rw [eS k (by omega), put_X (by omega) hM, if_neg d, put_Y (by omega) hM, if_neg d]
      have z := g4 k (by omega) j' hj' e
      exact ⟨(r6 _ (by omega)).trans z.1, z.2.eq (fun b hb => i7 b _ hb (by omega))⟩
  · rw [pm] at hk
    by_cases d : k = pM g
    · exfalso
      rw [d, eM] at e9
      have j9 : j = 9 := (nI_eq (a := j) (b := 9) (by omega) (by omega)).mp e9
      exact no (pD g) (by rw [pd, if_pos j9]; omega) (by rw [put_S hM, if_pos ⟨j9, rfl⟩, d])
    · rw [eK k (by omega)] at e9
      have no2 : ∀ o, o < pD g → pS g o ≠ k := fun o ho z => by
        have := no o (by rw [pd]; split <;> omega)
        rw [put_S hM, if_neg (by omega)] at this
        exact this z
      have cl2 : pE g k < pM g := by
        rcases (w8 k (by omega) e9).2 with ⟨o, h1, h2⟩ | z
        · exact absurd h2 (no2 o h1)
        · exact z.2.1
      rw [eS k (by omega), put_E (by omega) hM, eS _ (by omega), i10]
      exact g5 k (by omega) e9 no2
/-- the program has an end more -/
theorem PGc.en (W : WFg g) (G : PGc g h) (hD : 0 < pD g) (i55 : gi h' 5 5 = gi h 5 5) (i58 : gi h' 5 8 = nI (pD g - 1)) (i11 : ∀ o, gi h' 11 o = gi h 11 o) (i10 : ∀ i, i ≠ sig g (pS g (pD g - 1)) → gi h' 10 i = gi h 10 i) (i10n : gi h' 10 (sig g (pS g (pD g - 1))) = nI (pC g)) (i7 : ∀ b i, b = 7 ∨ b = 8 ∨ b = 9 → gi h' b i = gi h b i) (r6 : ∀ i, gr h' 6 i = gr h 6 i) : PGc (aEnd g) h' := by
  obtain ⟨⟨w1, w2, w3⟩, w4, w5, w6, w7, w8⟩ := W
  have W : WFg g := ⟨⟨w1, w2, w3⟩, w4, w5, w6, w7, w8⟩
  have hM : pM g ≤ 200 := by omega
  obtain ⟨q1, q2, q3, q4, q5⟩ := w7 (pD g - 1) (by omega)
  have eK : ∀ i, i < pM g → pK (aEnd g) i = pK g i := fun i hi => by rw [end_K (by omega) hM, if_neg (by omega)]
  have eM : pK (aEnd g) (pM g) = nI 10 := by rw [end_K hM hM, if_pos rfl]
  have eS : ∀ k, k ≤ pM g → sig (aEnd g) k = sig g k := fun k hk => sig_eq (fun i hi => eK i (by omega))
  have pm := end_M hM
  have pd := end_D hM w3
  have ps : ∀ o, pS (aEnd g) o = pS g o := fun o => end_S hM (by omega)
  have inj : ∀ k, k < pM g → pK g k = nI 9 → k ≠ pS g (pD g - 1) → sig g k ≠ sig g (pS g (pD g - 1)) := fun k hk e9 d z => by
    have lt : ∀ a b, a < b → pK g a = nI 9 → sig g a < sig g b := fun a b hab ea => by
      have h1 := sig_s (g := g) (k := a)
      rw [ea, if_neg (by decide)] at h1
      have h2 := sig_mono (g := g) (k := a + 1) (b - (a + 1))
      rw [show a + 1 + (b - (a + 1)) = b by omega] at h2
      omega
    rcases Nat.lt_or_ge k (pS g (pD g - 1)) with y | y
    · have := lt _ _ y e9
      omega
    · have := lt (pS g (pD g - 1)) k (by omega) q2
      omega
  obtain ⟨g1, g2, g3, g4, g5⟩ := G
  refine ⟨?_, ?_, fun o ho => ?_, fun k hk j' hj' e => ?_, fun k hk e9 no => ?_⟩
  · rw [end_C hM]; exact i55.trans g1
  · rw [pd]; exact i58
  · rw [pd] at ho
    rw [ps, eS _ (by have := (w7 o (by omega)).1; omega), i11]
    exact g3 o (by omega)
  · rw [pm] at hk
    by_cases d : k = pM g
    · subst d
      rw [eM] at e
      have := (nI_eq (a := 10) (b := j') (by omega) (by omega)).mp e
      omega
    · rw [eK k (by omega)] at e
      rw [eS k (by omega), end_X (by omega), end_Y (by omega)]
      have z := g4 k (by omega) j' hj' e
      exact ⟨(r6 _).trans z.1, z.2.eq (fun b hb => i7 b _ hb)⟩
  · rw [pm] at hk
    by_cases d : k = pM g
    · rw [d, eM] at e9
      exact absurd e9 (by decide)
    · rw [eK k (by omega)] at e9
      rw [eS k (by omega), end_E (by omega) hM]
      by_cases dk : k = pS g (pD g - 1)
      · rw [if_pos dk, eS _ (Nat.le_refl _), ← w5, dk]
        exact i10n
      · have no2 : ∀ o, o < pD g → pS g o ≠ k := fun o ho z => by
          by_cases zo : o = pD g - 1
          · rw [zo] at z; exact dk z.symm
          · have := no o (by rw [pd]; omega)
            rw [ps] at this
            exact this z
        have cl2 : pE g k < pM g := by
          rcases (w8 k (by omega) e9).2 with ⟨o, h1, h2⟩ | z
          · exact absurd h2 (no2 o h1)
          · exact z.2.1
        rw [if_neg dk, eS _ (by omega), i10 _ (inj k (by omega) e9 dk)]
        exact g5 k (by omega) e9 no2
end
