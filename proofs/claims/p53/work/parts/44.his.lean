/-! ===== the past: both sides ===== -/
section
variable {q : Nat → PH → Prop} {kk : Int32 → PH → Prop} {kv : PH → Prop} {h h' : PH} {s t : RW} {C E : Nat} {a u w : Nat} {f g : FI}
def kpu (u : Nat) : Nat := if u = 6 then 6 else u + 1
def WHi (b k : Nat) : Bool := Nat.beq b 13 || (Nat.ble 88 b && Nat.ble b 129)
theorem WHi_f {b k : Nat} (e : b ≠ 13) (e2 : b < 88 ∨ 129 < b) : WHi b k = false := by
  cases h1 : WHi b k
  · rfl
  · simp only [WHi, Bool.or_eq_true, Bool.and_eq_true] at h1
    rcases h1 with h1 | h1
    · exact absurd (Nat.eq_of_beq_eq_true h1) e
    · have := Nat.le_of_ble_eq_true h1.1
      have := Nat.le_of_ble_eq_true h1.2
      omega
theorem WHi_t {b k : Nat} (e : b = 13 ∨ (88 ≤ b ∧ b ≤ 129)) : WHi b k = true := by
  cases h1 : WHi b k
  · exfalso
    simp only [WHi, Bool.or_eq_false_iff, Bool.and_eq_false_iff] at h1
    rcases e with e | e
    · subst e; cases h1.1
    · rcases h1.2 with h2 | h2
      · rw [Nat.ble_eq_true_of_le e.1] at h2; cases h2
      · rw [Nat.ble_eq_true_of_le e.2] at h2; cases h2
  · rfl
def KpC (u w : Nat) (h h' : PH) : Prop := Fr WHi h h' ∧ gi h' 13 1 = nI (kpu u) ∧ gi h' 13 2 = nI ((w + 1) % 6) ∧ StC (88 + 7 * ((w + 1) % 6)) 60 h.1 h'.1 ∧ (∀ b, b ≠ 13 → (b < 88 + 7 * ((w + 1) % 6) ∨ 88 + 7 * ((w + 1) % 6) + 6 < b) → h'.1 b = h.1 b)
theorem obIf_h {j : Nat} {P : Prop} (hj : j < 6) (p : P) : obIf (88 + 7 * j) 6 P := by
  rcases (by omega : j = 0 ∨ j = 1 ∨ j = 2 ∨ j = 3 ∨ j = 4 ∨ j = 5) with rfl | rfl | rfl | rfl | rfl | rfl
  all_goals exact p
theorem HB_k {j : Nat} (hj : j < 6) : HB (88 + 7 * j) 60 ∧ HB 60 (88 + 7 * j) := by
  rcases (by omega : j = 0 ∨ j = 1 ∨ j = 2 ∨ j = 3 ∨ j = 4 ∨ j = 5) with rfl | rfl | rfl | rfl | rfl | rfl
  all_goals (unfold HB; decide)
/-! the reference -/
def W135 (b k : Nat) : Bool := Nat.beq b 135
def W134 (b k : Nat) : Bool := Nat.beq b 134 || (Nat.beq b 130 && Nat.beq k 21)
def kpd (u : Nat) : Nat := if u = 6 then 1 else 0
def KpM (u : Nat) (h h' : PH) : Prop := Fr W134 h h' ∧ gi h' 130 21 = nI (kpu u) ∧ (∀ i, i + 1 < kpu u → eqR (pst h (i + kpd u)) (pst h' i)) ∧ eqR (h.1 135) (pst h' (kpu u - 1))
/-- the past behind a change -/
theorem IH.kept {h0 : PH} (hu : u ≤ 6) (hw : w < 6) (I : ∀ i, i < u → Rk C E (pst h0 i) ∧ LyR 15 (pst h0 i) h0.1 ∧ StR (88 + 7 * hix u w i) (pst h0 i) h0.1) (R : Rk C E s) (X : CR 60 s h0)
    (e1 : gi h' 13 1 = nI (kpu u)) (e2 : gi h' 13 2 = nI ((w + 1) % 6)) (e3 : gi h' 130 21 = nI (kpu u)) (er : ∀ j, j < 6 → gr h' 14 j = some (88 + 7 * j))
    (p1 : ∀ i, i + 1 < kpu u → eqR (pst h0 (i + kpd u)) (pst h' i)) (p2 : eqR s (pst h' (kpu u - 1))) (c1 : StC (88 + 7 * ((w + 1) % 6)) 60 h0.1 h'.1)
    (c2 : ∀ b, (15 ≤ b ∧ b ≤ 29) ∨ ((88 ≤ b ∧ b ≤ 129) ∧ (b < 88 + 7 * ((w + 1) % 6) ∨ 88 + 7 * ((w + 1) % 6) + 6 < b)) → h'.1 b = h0.1 b) : IH C E h' := by
  have hk : kpu u ≤ 6 ∧ 1 ≤ kpu u := by unfold kpu; split <;> omega
  refine ⟨kpu u, (w + 1) % 6, hk.1, Nat.mod_lt _ (by omega), e1, e2, e3, er, fun i hi => ?_⟩
  by_cases c : i + 1 < kpu u
  · have hj : i + kpd u < u := by
      unfold kpu at c
      unfold kpd
      split at c
      · rename_i z; rw [if_pos z]; omega
      · rename_i z; rw [if_neg z]; omega
    obtain ⟨b1, b2, b3⟩ := I _ hj
    have ep := p1 i c
    have eh : hix (kpu u) ((w + 1) % 6) i = hix u w (i + kpd u) := by
      unfold hix kpu kpd
      split <;> omega
    have nh : hix u w (i + kpd u) ≠ (w + 1) % 6 := by
      unfold hix kpd
      unfold kpu at c
      split
      · rename_i z; rw [if_pos z] at c; omega
      · rename_i z; rw [if_neg z] at c; omega
    have := hix_lt (u := u) (w := w) (i := i + kpd u)
    have hm := b1.m.2
    rw [eh]
    exact ⟨b1.eqR ep, (b2.heap fun b h1 h2 => c2 b (by omega)).congr ep.ag b1.1, (b3.heap fun b h1 h2 => c2 b (by omega)).eqR hm ep⟩
  · have ei : i = kpu u - 1 := by omega
    subst ei
    have eh : hix (kpu u) ((w + 1) % 6) (kpu u - 1) = (w + 1) % 6 := by unfold hix; omega
    rw [eh]
    exact ⟨R.eqR p2, (X.1.heap fun b h1 h2 => c2 b (by omega)).congr p2.ag R.1, (X.2.cp R.m.2 c1).eqR R.m.2 p2⟩
end

