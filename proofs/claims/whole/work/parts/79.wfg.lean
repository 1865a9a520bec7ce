/-! ===== programs that are well nested ===== -/
section
variable {s t g g' : RW} {a b n m p v w j k o x y : Nat}
/-- how many repeats are open before item k -/
def nst (g : RW) : Nat → Nat
  | 0 => 0
  | k + 1 => if pK g k = nI 9 then nst g k + 1 else if pK g k = nI 10 then nst g k - 1 else nst g k
/-- how many commands lie before item k: its number in the class -/
def sig (g : RW) (k : Nat) : Nat := cnt k (fun i => !decide (pK g i = nI 10))
theorem nst_eq : ∀ k, (∀ i, i < k → pK g' i = pK g i) → nst g' k = nst g k
  | 0, _ => rfl
  | k + 1, h => by
    unfold nst
    rw [h k (by omega), nst_eq k (fun i hi => h i (by omega))]
theorem sig_eq (h : ∀ i, i < k → pK g' i = pK g i) : sig g' k = sig g k := cnt_eq fun i hi => by rw [h i hi]
theorem sig_s : sig g (k + 1) = sig g k + (if pK g k = nI 10 then 0 else 1) := by
  unfold sig
  rw [cnt]
  by_cases d : pK g k = nI 10
  · rw [if_pos d, decide_eq_true d]; rfl
  · rw [if_neg d, decide_eq_false d]; rfl
theorem sig_mono : ∀ d, sig g k ≤ sig g (k + d)
  | 0 => Nat.le_refl _
  | d + 1 => by
    have := sig_mono d
    rw [show k + (d + 1) = (k + d) + 1 by omega, sig_s]
    omega
theorem put_K (hk : k ≤ 200) (hM : pM g ≤ 200) : pK (aPut g j x y) k = if k = pM g then nI j else pK g k := by
  unfold pK aPut
  by_cases d : k = pM g
  · rw [if_pos (by omega), if_pos d]
  · rw [if_neg (by omega), if_neg (by omega), if_neg (by omega), if_neg (by omega), if_neg (by omega), if_neg (by omega), if_neg (by omega), if_neg d]
theorem put_X (hk : k ≤ 200) (hM : pM g ≤ 200) : pX (aPut g j x y) k = if k = pM g then nI x else pX g k := by
  unfold pX aPut
  by_cases d : k = pM g
  · rw [if_neg (by omega), if_pos (by omega), if_pos d]
  · rw [if_neg (by omega), if_neg (by omega), if_neg (by omega), if_neg (by omega), if_neg (by omega), if_neg (by omega), if_neg (by omega), if_neg d]
theorem put_Y (hk : k ≤ 200) (hM : pM g ≤ 200) : pY (aPut g j x y) k = if k = pM g then nI y else pY g k := by
  unfold pY aPut
  by_cases d : k = pM g
  · rw [if_neg (by omega), if_neg (by omega), if_pos (by omega), if_pos d]
  · rw [if_neg (by omega), if_neg (by omega), if_neg (by omega), if_neg (by omega), if_neg (by omega), if_neg (by omega), if_neg (by omega), if_neg d]
theorem put_E (hk : k ≤ 200) (hM : pM g ≤ 200) : pE (aPut g j x y) k = pE g k := by
  unfold pE aPut
  rw [if_neg (by omega), if_neg (by omega), if_neg (by omega), if_neg (by omega), if_neg (by omega), if_neg (by omega), if_neg (by omega)]
theorem put_M (hM : pM g ≤ 200) : pM (aPut g j x y) = pM g + 1 := by
  show nn (aPut g j x y 1000) = _
  unfold aPut
  rw [if_neg (by omega), if_neg (by omega), if_neg (by omega), if_pos rfl, nn_nI (by omega)]
theorem put_D (hM : pM g ≤ 200) (hD : pD g ≤ 2) : pD (aPut g j x y) = if j = 9 then pD g + 1 else pD g := by
  show nn (aPut g j x y 1001) = _
  unfold aPut
  rw [if_neg (by omega), if_neg (by omega), if_neg (by omega), if_neg (by omega), if_pos rfl, nn_nI (by split <;> omega)]
theorem put_C (hM : pM g ≤ 200) (hC : pC g ≤ 200) : pC (aPut g j x y) = pC g + 1 := by
  show nn (aPut g j x y 1002) = _
  unfold aPut
  rw [if_neg (by omega), if_neg (by omega), if_neg (by omega), if_neg (by omega), if_neg (by omega), if_pos rfl, nn_nI (by omega)]
theorem put_S (hM : pM g ≤ 200) : pS (aPut g j x y) o = if j = 9 ∧ o = pD g then pM g else pS g o := by
  show nn (aPut g j x y (1003 + o)) = _
  unfold aPut
  rw [if_neg (by omega), if_neg (by omega), if_neg (by omega), if_neg (by omega), if_neg (by omega), if_neg (by omega)]
  by_cases d : j = 9 ∧ o = pD g
  · rw [if_pos (by omega), if_pos d, nn_nI (by omega)]
  · rw [if_neg (by omega), if_neg d]; rfl
theorem end_K (hk : k ≤ 200) (hM : pM g ≤ 200) : pK (aEnd g) k = if k = pM g then nI 10 else pK g k := by
  unfold pK aEnd
  by_cases d : k = pM g
  · rw [if_pos (by omega), if_pos d]
  · rw [if_neg (by omega), if_neg (by omega), if_neg (by omega), if_neg (by omega), if_neg d]
theorem end_X (hk : k ≤ 200) : pX (aEnd g) k = pX g k := by
  unfold pX aEnd
  rw [if_neg (by omega), if_neg (by omega), if_neg (by omega), if_neg (by omega)]
theorem end_Y (hk : k ≤ 200) : pY (aEnd g) k = pY g k := by
  unfold pY aEnd
  rw [if_neg (by omega), if_neg (by omega), if_neg (by omega), if_neg (by omega)]
theorem end_E (hk : k ≤ 200) (hM : pM g ≤ 200) : pE (aEnd g) k = if k = pS g (pD g - 1) then pM g else pE g k := by
  unfold pE aEnd
  by_cases d : k = pS g (pD g - 1)
  · rw [if_neg (by omega), if_pos (by omega), if_pos d, nn_nI (by omega)]
  · rw [if_neg (by omega), if_neg (by omega), if_neg (by omega), if_neg (by omega), if_neg d]
theorem end_M (hM : pM g ≤ 200) : pM (aEnd g) = pM g + 1 := by
  show nn (aEnd g 1000) = _
  unfold aEnd
  rw [if_neg (by omega), if_neg (by omega), if_pos rfl, nn_nI (by omega)]
theorem end_D (hM : pM g ≤ 200) (hD : pD g ≤ 2) : pD (aEnd g) = pD g - 1 := by
  show nn (aEnd g 1001) = _
  unfold aEnd
  rw [if_neg (by omega), if_neg (by omega), if_neg (by omega), if_pos rfl, nn_nI (by omega)]
theorem end_C (hM : pM g ≤ 200) : pC (aEnd g) = pC g := by
  show nn (aEnd g 1002) = _
  unfold aEnd
  rw [if_neg (by omega), if_neg (by omega), if_neg (by omega), if_neg (by omega)]; rfl
theorem end_S (hM : pM g ≤ 200) (hS : pS g (pD g - 1) ≤ 200) : pS (aEnd g) o = pS g o := by
  show nn (aEnd g (1003 + o)) = _
  unfold aEnd
  rw [if_neg (by omega), if_neg (by omega), if_neg (by omega), if_neg (by omega)]; rfl
/-- a repeat with its end -/
def CLg (g : RW) (k : Nat) : Prop := k < pE g k ∧ pE g k < pM g ∧ pK g (pE g k) = nI 10 ∧ nst g (pE g k) = nst g k + 1 ∧ (∀ i, k < i → i ≤ pE g k → nst g k + 1 ≤ nst g i) ∧ (∀ i, k < i → i < pE g k → pK g i = nI 10 → nst g k + 2 ≤ nst g i)
/-- a repeat that is open -/
def OPg (g : RW) (o : Nat) : Prop := pS g o < pM g ∧ pK g (pS g o) = nI 9 ∧ nst g (pS g o) = o ∧ (∀ i, pS g o < i → i ≤ pM g → o + 1 ≤ nst g i) ∧ (∀ i, pS g o < i → i < pM g → pK g i = nI 10 → o + 2 ≤ nst g i)
def WFg (g : RW) : Prop := (pM g + pD g ≤ 2 * pC g ∧ pC g ≤ 30 ∧ pD g ≤ 2) ∧ nst g (pM g) = pD g ∧ pC g = sig g (pM g) ∧ (∀ k, k < pM g → ∃ j, j ≤ 10 ∧ pK g k = nI j) ∧ (∀ o, o < pD g → OPg g o) ∧ (∀ k, k < pM g → pK g k = nI 9 → nst g k ≤ 1 ∧ ((∃ o, o < pD g ∧ pS g o = k) ∨ CLg g k))
theorem WFg.z : WFg pg0 := by
  have m0 : pM pg0 = 0 := by decide
  have d0 : pD pg0 = 0 := by decide
  have c0 : pC pg0 = 0 := by decide
  refine ⟨?_, ?_, ?_, fun k hk => ?_, fun o ho => ?_, fun k hk => ?_⟩
  · rw [m0, d0, c0]; omega
  · rw [m0, d0]; rfl
  · rw [m0, c0]; rfl
  · rw [m0] at hk; omega
  · rw [d0] at ho; omega
  · rw [m0] at hk; omega
theorem WFg.put (W : WFg g) (hj : j < 10) (hC : pC g < 30) (hD : j = 9 → pD g < 2) : WFg (aPut g j x y) := by
  obtain ⟨⟨w1, w2, w3⟩, w4, w5, w6, w7, w8⟩ := W
  have hM : pM g ≤ 200 := by omega
  have eK : ∀ i, i < pM g → pK (aPut g j x y) i = pK g i := fun i hi => by rw [put_K (by omega) hM, if_neg (by omega)]
  have eM : pK (aPut g j x y) (pM g) = nI j := by rw [put_K hM hM, if_pos rfl]
  have eN : ∀ k, k ≤ pM g → nst (aPut g j x y) k = nst g k := fun k hk => nst_eq k (fun i hi => eK i (by omega))
  have n10 : ¬ nI j = nI 10 := fun z => by
    have := (nI_eq (a := j) (b := 10) (by omega) (by omega)).mp z
    omega
  have eN1 : nst (aPut g j x y) (pM g + 1) = if j = 9 then pD g + 1 else pD g := by
    show (if pK (aPut g j x y) (pM g) = nI 9 then nst (aPut g j x y) (pM g) + 1 else if pK (aPut g j x y) (pM g) = nI 10 then nst (aPut g j x y) (pM g) - 1 else nst (aPut g j x y) (pM g)) = _
    rw [eM, eN _ (Nat.le_refl _), w4]
    by_cases d : j = 9
    · rw [if_pos (by rw [d]), if_pos d]
    · rw [if_neg (fun z => d ((nI_eq (a := j) (b := 9) (by omega) (by omega)).mp z)), if_neg n10, if_neg d]
  have pm := put_M (j := j) (x := x) (y := y) hM
  have pd := put_D (j := j) (x := x) (y := y) hM w3
  have pc := put_C (j := j) (x := x) (y := y) hM (show pC g ≤ 200 by omega)
  have clo : ∀ k, k < pM g → CLg g k → CLg (aPut g j x y) k := fun k hk c => by
    obtain ⟨c1, c2, c3, c4, c5, c6⟩ := c
    unfold CLg
    rw [put_E (by omega) hM, pm, eK _ c2, eN _ (by omega), eN _ (by omega)]
    exact ⟨c1, by omega, c3, c4, fun i h1 h2 => by rw [eN i (by omega)]; exact c5 i h1 h2, fun i h1 h2 h3 => by
      rw [eK i (by omega)] at h3
      rw [eN i (by omega)]; exact c6 i h1 h2 h3⟩
  refine ⟨⟨?_, ?_, ?_⟩, ?_, ?_, fun k hk => ?_, fun o ho => ?_, fun k hk e9 => ?_⟩
  · rw [pm, pd, pc]; split <;> omega
  · rw [pc]; omega
  · rw [pd]
    split
    · have := hD (by assumption)
      omega
    · exact w3
  · rw [pm, eN1, pd]
  · rw [pc, pm, sig_s, eM, if_neg n10, sig_eq (g := g) (fun i hi => eK i hi), ← w5]
  · rw [pm] at hk
    by_cases d : k = pM g
    · exact ⟨j, by omega, by rw [d, eM]⟩
    · rw [eK k (by omega)]; exact w6 k (by omega)
  · rw [pd] at ho
    unfold OPg
    rw [pm]
    by_cases d : j = 9 ∧ o = pD g
    · have eS : pS (aPut g j x y) o = pM g := by rw [put_S hM, if_pos d]
      rw [eS, eM, eN _ (Nat.le_refl _), w4, d.2]
      refine ⟨by omega, by rw [d.1], rfl, fun i h1 h2 => ?_, fun i h1 h2 => by omega⟩
      have : i = pM g + 1 := by omega
      rw [this, eN1, if_pos d.1]; omega
    · have eS : pS (aPut g j x y) o = pS g o := by rw [put_S hM, if_neg d]
      have ho2 : o < pD g := by
        by_cases d9 : j = 9
        · rw [if_pos d9] at ho; omega
        · rw [if_neg d9] at ho; exact ho
      obtain ⟨o1, o2, o3, o4, o5⟩ := w7 o ho2
      rw [eS, eK _ o1, eN _ (by omega)]
      refine ⟨by omega, o2, o3, fun i h1 h2 => ?_, fun i h1 h2 h3 => ?_⟩
      · by_cases di : i = pM g + 1
        · rw [di, eN1]; split <;> omega
        · rw [eN i (by omega)]; exact o4 i h1 (by omega)
      · by_cases di : i = pM g
        · rw [di, eM] at h3
          exact absurd h3 n10
        · rw [eK i (by omega)] at h3
          rw [eN i (by omega)]; exact o5 i h1 (by omega) h3
  · rw [pm] at hk
    by_cases d : k = pM g
    · rw [d, eM] at e9
      have j9 : j = 9 := (nI_eq (a := j) (b := 9) (by omega) (by omega)).mp e9
      exact ⟨by rw [d, eN _ (Nat.le_refl _), w4]; have := hD j9; omega, Or.inl ⟨pD g, by rw [pd, if_pos j9]; omega, by rw [put_S hM, if_pos ⟨j9, rfl⟩, d]⟩⟩
    · rw [eK k (by omega)] at e9
      obtain ⟨l1, l2⟩ := w8 k (by omega) e9
      refine ⟨by rw [eN k (by omega)]; exact l1, ?_⟩
      rcases l2 with ⟨o, h1, h2⟩ | z
      · exact Or.inl ⟨o, by rw [pd]; split <;> omega, by rw [put_S hM, if_neg (by omega)]; exact h2⟩
      · exact Or.inr (clo k (by omega) z)
theorem WFg.en (W : WFg g) (hD : 0 < pD g) : WFg (aEnd g) := by
  obtain ⟨⟨w1, w2, w3⟩, w4, w5, w6, w7, w8⟩ := W
  have hM : pM g ≤ 200 := by omega
  obtain ⟨q1, q2, q3, q4, q5⟩ := w7 (pD g - 1) (by omega)
  have eK : ∀ i, i < pM g → pK (aEnd g) i = pK g i := fun i hi => by rw [end_K (by omega) hM, if_neg (by omega)]
  have eM : pK (aEnd g) (pM g) = nI 10 := by rw [end_K hM hM, if_pos rfl]
  have eN : ∀ k, k ≤ pM g → nst (aEnd g) k = nst g k := fun k hk => nst_eq k (fun i hi => eK i (by omega))
  have eN1 : nst (aEnd g) (pM g + 1) = pD g - 1 := by
    show (if pK (aEnd g) (pM g) = nI 9 then nst (aEnd g) (pM g) + 1 else if pK (aEnd g) (pM g) = nI 10 then nst (aEnd g) (pM g) - 1 else nst (aEnd g) (pM g)) = _
    rw [eM, eN _ (Nat.le_refl _), w4, if_neg (by decide), if_pos rfl]
  have pm := end_M hM
  have pd := end_D hM w3
  have pc := end_C hM
  have ps : ∀ o, pS (aEnd g) o = pS g o := fun o => end_S hM (by omega)
  refine ⟨⟨?_, ?_, ?_⟩, ?_, ?_, fun k hk => ?_, fun o ho => ?_, fun k hk e9 => ?_⟩
  · rw [pm, pd, pc]; omega
  · rw [pc]; omega
  · rw [pd]; omega
  · rw [pm, eN1, pd]
  · rw [pc, pm, sig_s, eM, if_pos rfl, sig_eq (g := g) (fun i hi => eK i hi)]; omega
  · rw [pm] at hk
    by_cases d : k = pM g
    · exact ⟨10, by omega, by rw [d, eM]⟩
    · rw [eK k (by omega)]; exact w6 k (by omega)
  · rw [pd] at ho
    obtain ⟨o1, o2, o3, o4, o5⟩ := w7 o (by omega)
    unfold OPg
    rw [pm, ps, eK _ o1, eN _ (by omega)]
    refine ⟨by omega, o2, o3, fun i h1 h2 => ?_, fun i h1 h2 h3 => ?_⟩
    · by_cases di : i = pM g + 1
      · rw [di, eN1]; omega
      · rw [eN i (by omega)]; exact o4 i h1 (by omega)
    · by_cases di : i = pM g
      · rw [di, eN _ (Nat.le_refl _), w4]; omega
      · rw [eK i (by omega)] at h3
        rw [eN i (by omega)]; exact o5 i h1 (by omega) h3
  · rw [pm] at hk
    by_cases d : k = pM g
    · rw [d, eM] at e9
      exact absurd e9 (by decide)
    · rw [eK k (by omega)] at e9
      obtain ⟨l1, l2⟩ := w8 k (by omega) e9
      refine ⟨by rw [eN k (by omega)]; exact l1, ?_⟩
      by_cases dk : k = pS g (pD g - 1)
      · clear l2
        refine Or.inr ?_
        unfold CLg
        have eE : pE (aEnd g) k = pM g := by rw [end_E (by omega) hM, if_pos dk]
        rw [eE, pm, eM, eN _ (Nat.le_refl _), eN _ (by omega), w4, dk, q3]
        refine ⟨by omega, by omega, rfl, by omega, fun i h1 h2 => ?_, fun i h1 h2 h3 => ?_⟩
        · rw [eN i (by omega)]; exact q4 i h1 (by omega)
        · rw [eK i (by omega)] at h3
          rw [eN i (by omega)]; exact q5 i h1 (by omega) h3
      · rcases l2 with ⟨o, h1, h2⟩ | ⟨c1, c2, c3, c4, c5, c6⟩
        · refine Or.inl ⟨o, ?_, by rw [ps]; exact h2⟩
          rw [pd]
          by_cases z : o = pD g - 1
          · rw [z] at h2; exact absurd h2.symm dk
          · omega
        · refine Or.inr ?_
          unfold CLg
          have eE : pE (aEnd g) k = pE g k := by rw [end_E (by omega) hM, if_neg dk]
          rw [eE, pm, eK _ c2, eN _ (by omega), eN _ (by omega)]
          exact ⟨c1, by omega, c3, c4, fun i h1 h2 => by rw [eN i (by omega)]; exact c5 i h1 h2, fun i h1 h2 h3 => by
            rw [eK i (by omega)] at h3
            rw [eN i (by omega)]; exact c6 i h1 h2 h3⟩
end
