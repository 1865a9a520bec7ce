/-! ===== the model's program while it grows ===== -/
section
variable {h h' : PH} {g : RW} {j x y : Nat}
/-- the model's program is this one -/
def PGm (g : RW) (h : PH) : Prop := gi h 130 33 = nI (pM g) ∧ gi h 130 34 = nI (pC g) ∧ gi h 130 35 = nI (pD g) ∧ ∀ k, k < pM g → gi h 141 k = pK g k ∧ (∀ i, i < 10 → i ≠ 2 → i ≠ 3 → pK g k = nI i → gi h 142 k = pX g k) ∧ (∀ i, i = 6 ∨ i = 7 → pK g k = nI i → gi h 143 k = pY g k)
theorem PGm.put (W : WFg g) (G : PGm g h) (hj : j < 10) (i33 : gi h' 130 33 = nI (pM g + 1)) (i34 : gi h' 130 34 = nI (pC g + 1)) (i35 : gi h' 130 35 = nI (if j = 9 then pD g + 1 else pD g)) (io : ∀ b k, 141 ≤ b → b ≤ 143 → k ≠ pM g → gi h' b k = gi h b k) (iK : gi h' 141 (pM g) = nI j) (iX : j ≠ 2 → j ≠ 3 → gi h' 142 (pM g) = nI x) (iY : j = 6 ∨ j = 7 → gi h' 143 (pM g) = nI y) : PGm (aPut g j x y) h' := by
  obtain ⟨⟨w1, w2, w3⟩, -⟩ := W
  have hM : pM g ≤ 200 := by omega
  obtain ⟨g1, g2, g3, g4⟩ := G
  refine ⟨by rw [put_M hM]; exact i33, by rw [put_C hM (by omega)]; exact i34, by rw [put_D hM w3]; exact i35, fun k hk => ?_⟩
  rw [put_M hM] at hk
  rw [put_K (by omega) hM, put_X (by omega) hM, put_Y (by omega) hM]
  by_cases d : k = pM g
  · rw [if_pos d, if_pos d, if_pos d, d]
    have q : ∀ i, i < 10 → nI j = nI i → j = i := fun i hi z => (nI_eq (a := j) (b := i) (by omega) (by omega)).mp z
    refine ⟨iK, fun i h1 h2 h3 z => iX ?_ ?_, fun i h1 z => iY ?_⟩
    · have := q i h1 z; omega
    · have := q i h1 z; omega
    · have := q i (by omega) z; omega
  · rw [if_neg d, if_neg d, if_neg d, io 141 k (by omega) (by omega) d, io 142 k (by omega) (by omega) d, io 143 k (by omega) (by omega) d]
    exact g4 k (by omega)
theorem PGm.en (W : WFg g) (G : PGm g h) (i33 : gi h' 130 33 = nI (pM g + 1)) (i34 : gi h' 130 34 = gi h 130 34) (i35 : gi h' 130 35 = nI (pD g - 1)) (io : ∀ b k, 141 ≤ b → b ≤ 143 → k ≠ pM g → gi h' b k = gi h b k) (iK : gi h' 141 (pM g) = nI 10) : PGm (aEnd g) h' := by
  obtain ⟨⟨w1, w2, w3⟩, -⟩ := W
  have hM : pM g ≤ 200 := by omega
  obtain ⟨g1, g2, g3, g4⟩ := G
  refine ⟨by rw [end_M hM]; exact i33, by rw [end_C hM]; exact i34.trans g2, by rw [end_D hM w3]; exact i35, fun k hk => ?_⟩
  rw [end_M hM] at hk
  rw [end_K (by omega) hM, end_X (by omega), end_Y (by omega)]
  by_cases d : k = pM g
  · rw [if_pos d, d]
    have q : ∀ i, i < 10 → ¬ nI 10 = nI i := fun i hi z => by
      have := (nI_eq (a := 10) (b := i) (by omega) (by omega)).mp z
      omega
    exact ⟨iK, fun i h1 h2 h3 z => absurd z (q i h1), fun i h1 z => absurd z (q i (by omega))⟩
  · rw [if_neg d, io 141 k (by omega) (by omega) d, io 142 k (by omega) (by omega) d, io 143 k (by omega) (by omega) d]
    exact g4 k (by omega)
theorem PGm.z (e1 : gi h 130 33 = nI 0) (e2 : gi h 130 34 = nI 0) (e3 : gi h 130 35 = nI 0) : PGm pg0 h := by
  have m0 : pM pg0 = 0 := by decide
  have d0 : pD pg0 = 0 := by decide
  have c0 : pC pg0 = 0 := by decide
  refine ⟨by rw [m0]; exact e1, by rw [c0]; exact e2, by rw [d0]; exact e3, fun k hk => ?_⟩
  rw [m0] at hk
  omega
end
