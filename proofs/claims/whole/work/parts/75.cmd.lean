/-! ===== the word of a command, both sides ===== -/
section
variable {q : Nat → PH → Prop} {kk kj : Int32 → PH → Prop} {kl : Int64 → PH → Prop} {kv k2 : PH → Prop} {h h' : PH} {s t : RW} {C E L : Nat} {a b n m p v w e pl : Nat} {f g : FI} {nm : Nat → Int64} {c : Nat → Nat} {td : Nat → Bool} {k1 : Nat → PH → Prop}
def kwC (c : Nat → Nat) (n p j : Nat) : Bool := kwB c n p (12 + j)
theorem l_atC (hp : p ≤ n) (T : CT c n p h) (K0 : fst1 10 (kwC c n p) = 0 → k2 h) (K1 : ∀ i, i < 10 → fst1 10 (kwC c n p) = i + 1 → k1 (1020 + i) h) : ∀ k i, i + k = 10 → (∀ j, j < i → kwC c n p j = false) → ∀ o, At m_X2_at (rA q k1 k2) 9 0 [some (.ref 1), some (.ref 1081), some (.int (nI 10)), some (.int (nI i)), o] [] h := by
  intro k
  induction k with
  | zero =>
    intro i hi hn o
    refine u_X2_at_9 (pk_le 10 i (fun _ => ?_) (fun y => absurd y (by omega)))
    exact K0 (fst1_no (fun j hj => hn j (by omega)))
  | succ k ih =>
    intro i hi hn o
    refine u_X2_at_9 (pk_le 10 i (fun y => absurd y (by omega)) (fun _ => ⟨Or.inr (Or.inr (Or.inr ⟨rfl, rfl⟩)), vp_in_nI (N := 10) (by omega) (by omega), ?_⟩))
    rw [cl (by omega), show cel 1081 i = 1020 + i from rfl, show cfr (1020 + i) = kst (12 + i) from (by decide +kernel : ∀ i, i < 10 → cfr (1020 + i) = kst (12 + i)) i (by omega)]
    refine ⟨Or.inr (Or.inl ⟨rfl, by omega, by omega⟩), c_isWord (by omega) hp T (bq (fun y => ?_) (fun y => ?_))⟩
    · rw [nI_add]
      exact ih (i + 1) (by omega) (fun j hj => by
        by_cases d : j = i
        · rw [d]; exact y
        · exact hn j (by omega)) _
    · exact K1 i (by omega) (fst1_yes (k := i) y hn (by omega))
theorem c_atC (hp : p ≤ n) (T : CT c n p h) (K0 : fst1 10 (kwC c n p) = 0 → k2 h) (K1 : ∀ i, i < 10 → fst1 10 (kwC c n p) = i + 1 → k1 (1020 + i) h) : MetPM m_X2_at [.ref 1] h (rA q k1 k2) :=
  t_X2_at ⟨Or.inr (Or.inr (Or.inr ⟨rfl, rfl⟩)), l_atC hp T K0 K1 10 0 rfl (fun j hj => absurd hj (by omega)) none⟩
theorem s_commandHere (hp : p ≤ n) (T : MT c n p h) (e8 : gi h 130 8 = nI 0) (K : kk (pre1 (fst1 10 (kwC c n p))) h) : MetPM m_X12_commandHere [.ref 130] h (rI q kk) := by
  refine t_X12_commandHere ?_
  refine s_isWord (i := 12 + 0) (by omega) (by decide +kernel) hp T e8 (bq (fun y0 => ?_) (fun y => ?_))
  rotate_left 1
  · have e : fst1 10 (kwC c n p) = 0 + 1 := fst1_yes (k := 0) y (fun j hj => absurd hj (by omega)) (by omega)
    rw [e] at K
    exact K
  refine s_isWord (i := 12 + 1) (by omega) (by decide +kernel) hp T e8 (bq (fun y1 => ?_) (fun y => ?_))
  rotate_left 1
  · have e : fst1 10 (kwC c n p) = 1 + 1 := fst1_yes (k := 1) y (fun j hj => by rw [show j = 0 by omega]; exact y0) (by omega)
    rw [e] at K
    exact K
  refine s_isWord (i := 12 + 2) (by omega) (by decide +kernel) hp T e8 (bq (fun y2 => ?_) (fun y => ?_))
  rotate_left 1
  · have e : fst1 10 (kwC c n p) = 2 + 1 := fst1_yes (k := 2) y (fun j hj => by
      rcases (by omega : j = 0 ∨ j = 1) with rfl | rfl
      · exact y0
      · exact y1) (by omega)
    rw [e] at K
    exact K
  refine s_isWord (i := 12 + 3) (by omega) (by decide +kernel) hp T e8 (bq (fun y3 => ?_) (fun y => ?_))
  rotate_left 1
  · have e : fst1 10 (kwC c n p) = 3 + 1 := fst1_yes (k := 3) y (fun j hj => by
      rcases (by omega : j = 0 ∨ j = 1 ∨ j = 2) with rfl | rfl | rfl
      · exact y0
      · exact y1
      · exact y2) (by omega)
    rw [e] at K
    exact K
  refine s_isWord (i := 12 + 4) (by omega) (by decide +kernel) hp T e8 (bq (fun y4 => ?_) (fun y => ?_))
  rotate_left 1
  · have e : fst1 10 (kwC c n p) = 4 + 1 := fst1_yes (k := 4) y (fun j hj => by
      rcases (by omega : j = 0 ∨ j = 1 ∨ j = 2 ∨ j = 3) with rfl | rfl | rfl | rfl
      · exact y0
      · exact y1
      · exact y2
      · exact y3) (by omega)
    rw [e] at K
    exact K
  refine s_isWord (i := 12 + 5) (by omega) (by decide +kernel) hp T e8 (bq (fun y5 => ?_) (fun y => ?_))
  rotate_left 1
  · have e : fst1 10 (kwC c n p) = 5 + 1 := fst1_yes (k := 5) y (fun j hj => by
      rcases (by omega : j = 0 ∨ j = 1 ∨ j = 2 ∨ j = 3 ∨ j = 4) with rfl | rfl | rfl | rfl | rfl
      · exact y0
      · exact y1
      · exact y2
      · exact y3
      · exact y4) (by omega)
    rw [e] at K
    exact K
  refine s_isWord (i := 12 + 6) (by omega) (by decide +kernel) hp T e8 (bq (fun y6 => ?_) (fun y => ?_))
  rotate_left 1
  · have e : fst1 10 (kwC c n p) = 6 + 1 := fst1_yes (k := 6) y (fun j hj => by
      rcases (by omega : j = 0 ∨ j = 1 ∨ j = 2 ∨ j = 3 ∨ j = 4 ∨ j = 5) with rfl | rfl | rfl | rfl | rfl | rfl
      · exact y0
      · exact y1
      · exact y2
      · exact y3
      · exact y4
      · exact y5) (by omega)
    rw [e] at K
    exact K
  refine s_isWord (i := 12 + 7) (by omega) (by decide +kernel) hp T e8 (bq (fun y7 => ?_) (fun y => ?_))
  rotate_left 1
  · have e : fst1 10 (kwC c n p) = 7 + 1 := fst1_yes (k := 7) y (fun j hj => by
      rcases (by omega : j = 0 ∨ j = 1 ∨ j = 2 ∨ j = 3 ∨ j = 4 ∨ j = 5 ∨ j = 6) with rfl | rfl | rfl | rfl | rfl | rfl | rfl
      · exact y0
      · exact y1
      · exact y2
      · exact y3
      · exact y4
      · exact y5
      · exact y6) (by omega)
    rw [e] at K
    exact K
  refine s_isWord (i := 12 + 8) (by omega) (by decide +kernel) hp T e8 (bq (fun y8 => ?_) (fun y => ?_))
  rotate_left 1
  · have e : fst1 10 (kwC c n p) = 8 + 1 := fst1_yes (k := 8) y (fun j hj => by
      rcases (by omega : j = 0 ∨ j = 1 ∨ j = 2 ∨ j = 3 ∨ j = 4 ∨ j = 5 ∨ j = 6 ∨ j = 7) with rfl | rfl | rfl | rfl | rfl | rfl | rfl | rfl
      · exact y0
      · exact y1
      · exact y2
      · exact y3
      · exact y4
      · exact y5
      · exact y6
      · exact y7) (by omega)
    rw [e] at K
    exact K
  refine s_isWord (i := 12 + 9) (by omega) (by decide +kernel) hp T e8 (bq (fun y9 => ?_) (fun y => ?_))
  rotate_left 1
  · have e : fst1 10 (kwC c n p) = 9 + 1 := fst1_yes (k := 9) y (fun j hj => by
      rcases (by omega : j = 0 ∨ j = 1 ∨ j = 2 ∨ j = 3 ∨ j = 4 ∨ j = 5 ∨ j = 6 ∨ j = 7 ∨ j = 8) with rfl | rfl | rfl | rfl | rfl | rfl | rfl | rfl | rfl
      · exact y0
      · exact y1
      · exact y2
      · exact y3
      · exact y4
      · exact y5
      · exact y6
      · exact y7
      · exact y8) (by omega)
    rw [e] at K
    exact K
  have e : fst1 10 (kwC c n p) = 0 := fst1_no (fun j hj => by
      rcases (by omega : j = 0 ∨ j = 1 ∨ j = 2 ∨ j = 3 ∨ j = 4 ∨ j = 5 ∨ j = 6 ∨ j = 7 ∨ j = 8 ∨ j = 9) with rfl | rfl | rfl | rfl | rfl | rfl | rfl | rfl | rfl | rfl
      · exact y0
      · exact y1
      · exact y2
      · exact y3
      · exact y4
      · exact y5
      · exact y6
      · exact y7
      · exact y8
      · exact y9)
  rw [e] at K
  exact K
end
