/-! ===== readText, both sides ===== -/
section
variable {q : Nat → PH → Prop} {kk kj : Int32 → PH → Prop} {kl : Int64 → PH → Prop} {kv kw k1 : PH → Prop} {h h' : PH} {s t : RW} {C E L : Nat} {a b n m p v w e pl i : Nat} {f g z : FI} {nm : Nat → Int64} {c : Nat → Nat} {td : Nat → Bool} {y : Int64}
theorem IT.fn (I : IT h) : ∃ n c, CB c n h ∧ gi h 130 2 = nI n ∧ ∀ j, j < n → gi h 131 j = nI (c j) := by
  obtain ⟨n, a1, a2, a3, a4, a5, a6⟩ := I
  have q1 : ∀ j, j < n → ∃ c, nn (gi h 131 j) = c ∧ c < 256 ∧ gi h 2 j = sb_b c ∧ gi h 131 j = nI c := fun j hj => by
    obtain ⟨c, c1, c2, c3⟩ := a4 j hj
    exact ⟨c, by rw [c3, nn_nI (by omega)], c1, c2, c3⟩
  refine ⟨n, fun j => if j < n then nn (gi h 131 j) else 0, ⟨a1, fun j => ?_, a2, fun j hj => ?_⟩, a3, fun j hj => ?_⟩
  · show (if j < n then nn (gi h 131 j) else 0) < 256
    by_cases d : j < n
    · rw [if_pos d]
      obtain ⟨c, c0, c1, c2, c3⟩ := q1 j d
      rw [c0]; exact c1
    · rw [if_neg d]; omega
  · show gi h 2 j = sb_b (if j < n then nn (gi h 131 j) else 0)
    rw [if_pos hj]
    obtain ⟨c, c0, c1, c2, c3⟩ := q1 j hj
    rw [c0]; exact c2
  · show gi h 131 j = nI (if j < n then nn (gi h 131 j) else 0)
    rw [if_pos hj]
    obtain ⟨c, c0, c1, c2, c3⟩ := q1 j hj
    rw [c0]; exact c3
def WRd (b k : Nat) : Prop := WS2 b k ∨ (b = 1 ∧ 1 ≤ k)
def WRe (b k : Nat) : Prop := WRd b k ∨ (15 ≤ b ∧ b ≤ 29) ∨ (60 ≤ b ∧ b ≤ 66) ∨ (b = 13 ∧ k = 1)
def VRd (b : Nat) : Prop := VS2 b ∨ b = 147
def VRe (b : Nat) : Prop := VRd b ∨ (15 ≤ b ∧ b ≤ 29)
/-- the class has refused the text -/
def RdE (e pl : Nat) (h h' : PH) : Prop := Fz WRd VRd h h' ∧ gi h' 1 1 = nI 0 ∧ ER (nI e) pl h'
/-- the class has the text's cluster -/
def RdO (s : RW) (nm : Nat → Int64) (h h' : PH) : Prop := Fz WRe VRe h h' ∧ LyR 15 s h'.1 ∧ StR 60 s h'.1 ∧ ((∀ i, i < nn (s 0) → NmE (gl h' 17 i) (nm i)) ∧ (∀ i, i < nn (s 1) → NmE (gl h' 22 i) (nm (8 + i))) ∧ (∀ i, i < nn (s 2) → NmE (gl h' 27 i) (nm (13 + i)))) ∧ gi h' 1 1 = nI 0 ∧ gi h' 1 2 = nI 0 ∧ gi h' 1 3 = -(nI 1) ∧ gi h' 13 1 = nI 0
end

