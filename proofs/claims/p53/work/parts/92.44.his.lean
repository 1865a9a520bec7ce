/-! ===== the past: both sides ===== -/
section
variable {q : Nat → PH → Prop} {kk : Int32 → PH → Prop} {kv : PH → Prop} {h h' : PH} {s t : RW} {C E : Nat} {a u w : Nat} {f g : FI}
def kpu (u : Nat) : Nat := if u = 6 then 6 else u + 1
def WHi (b k : Nat) : Bool := Nat.beq b 13 || (Nat.ble 88 b && Nat.ble b 129)
theorem WHi_f {b k : Nat} (e : b ≠ 13) (e2 : b < 88 ∨ 129 < b) : WHi b k = false := by
  cases h1 : WHi b k
  · rfl
  · simp only [WHi, Bool.or_eq_true, Bool.and_eq_true] at h1
    rcases h1 with h1 | h1
    · exact absurd (Nat.eq_of_beq_eq_true h1) e
    · have := Nat.le_of_ble_eq_true h1.1
      have := Nat.le_of_ble_eq_true h1.2
      omega
theorem WHi_t {b k : Nat} (e : b = 13 ∨ (88 ≤ b ∧ b ≤ 129)) : WHi b k = true := by
  cases h1 : WHi b k
  · exfalso
    simp only [WHi, Bool.or_eq_false_iff, Bool.and_eq_false_iff] at h1
    rcases e with e | e
    · subst e; cases h1.1
    · rcases h1.2 with h2 | h2
      · rw [Nat.ble_eq_true_of_le e.1] at h2; cases h2
      · rw [Nat.ble_eq_true_of_le e.2] at h2; cases h2
  · rfl
def KpC (u w : Nat) (h h' : PH) : Prop := Fr WHi h h' ∧ gi h' 13 1 = nI (kpu u) ∧ gi h' 13 2 = nI ((w + 1) % 6) ∧ StC (88 + 7 * ((w + 1) % 6)) 60 h.1 h'.1 ∧ (∀ b, b ≠ 13 → (b < 88 + 7 * ((w + 1) % 6) ∨ 88 + 7 * ((w + 1) % 6) + 6 < b) → h'.1 b = h.1 b)
theorem obIf_h {j : Nat} {P : Prop} (hj : j < 6) (p : P) : obIf (88 + 7 * j) 6 P := by
  rcases (by omega : j = 0 ∨ j = 1 ∨ j = 2 ∨ j = 3 ∨ j = 4 ∨ j = 5) with rfl | rfl | rfl | rfl | rfl | rfl
  all_goals exact p
theorem HB_k {j : Nat} (hj : j < 6) : HB (88 + 7 * j) 60 ∧ HB 60 (88 + 7 * j) := by
  rcases (by omega : j = 0 ∨ j = 1 ∨ j = 2 ∨ j = 3 ∨ j = 4 ∨ j = 5) with rfl | rfl | rfl | rfl | rfl | rfl
  all_goals (unfold HB; decide)
theorem c_keep (hu : u ≤ 6) (hw : w < 6) (e1 : gi h 13 1 = nI u) (e2 : gi h 13 2 = nI w) (er : ∀ j, j < 6 → gr h 14 j = some (88 + 7 * j)) (ib : isB (h.1 60 12)) (K : ∀ h', KpC u w h h' → kv h') : MetPM m_X4_keep [.ref 13, .ref 60] h (rV q kv) := by
  have hw6 : (w + 1) % 6 < 6 := Nat.mod_lt _ (by omega)
  refine t_X4_keep ?_
  rw [e2, nI_add, pk_rem (by omega) (by omega) (by omega), gi_same, cl (by omega)]
  refine ⟨by decide, vp_in_nI hw6 (by omega), fun b1 hb => ?_, fun hb => ?_⟩
  · have e9 : b1 = 88 + 7 * ((w + 1) % 6) := by
      have h9 := er _ hw6
      have hb' : gr h 14 ((w + 1) % 6) = some b1 := hb
      rw [h9] at hb'
      exact (Option.some.inj hb').symm
    subst e9
    refine obIf_h hw6 (c_copySt (HB_k hw6).1 ?_ (fun h2 f2 c2 => ?_))
    · show isB ((si h 13 2 (nI ((w + 1) % 6))).1 60 12)
      rw [si_b (by omega)]; exact ib
    · intro h3
      have o2 : ∀ b, (b < 88 + 7 * ((w + 1) % 6) ∨ 88 + 7 * ((w + 1) % 6) + 6 < b) → h2.1 b = (si h 13 2 (nI ((w + 1) % 6))).1 b := fun b hb => f2.cell fun k => WS_f (by omega)
      have e13 : ∀ k, k ≠ 2 → h2.1 13 k = h.1 13 k := fun k hk => by rw [o2 13 (by omega), si_a, ups_n hk]
      have e132 : h2.1 13 2 = nI ((w + 1) % 6) := by rw [o2 13 (by omega), si_a, ups_s]
      have es : ∀ b, b ≠ 13 → (si h 13 2 (nI ((w + 1) % 6))).1 b = h.1 b := fun b hb => si_b hb
      have v : (if nI 6 < gi h2 13 1 + nI 1 then nI 6 else gi h2 13 1 + nI 1) = nI (kpu u) := by
        rw [show gi h2 13 1 = nI u from (e13 1 (by omega)).trans e1, nI_add]
        unfold kpu
        by_cases c : u = 6
        · rw [if_pos c, if_pos (nI_lt (by omega) (by omega))]
        · rw [if_neg c, if_neg (nI_nlt (by omega) (by omega))]
      have e3 : h3 = si h2 13 1 (nI (kpu u)) := by
        show si h2 13 1 (if nI 6 < gi h2 13 1 + nI 1 then nI 6 else gi h2 13 1 + nI 1) = _
        rw [v]
      clear_value h3
      subst e3
      refine K _ ⟨?_, gi_same, ?_, ?_, fun b hb hb2 => ?_⟩
      · refine Fr.and (Fr.trans (Fr.wr h _ (WHi_t (by omega))) (f2.mono fun b k e => ?_)) _ (WHi_t (by omega))
        refine WS_f ?_
        apply Classical.byContradiction
        intro c
        rw [WHi_t (by omega)] at e
        cases e
      · rw [gi_ok (by omega)]; exact e132
      · obtain ⟨x1, x2, x3, x4⟩ := c2
        have n13 : ∀ i, 88 + 7 * ((w + 1) % 6) + i ≠ 13 := fun i => by omega
        refine ⟨fun k hk => ?_, fun i h1 h2 j hj => ?_, ⟨?_, ?_⟩, fun j hj => ?_⟩
        · rw [si_b (by omega), x1 k hk, es 60 (by omega)]
        · rw [si_b (n13 i), x2 i h1 h2 j hj, es (60 + i) (by omega)]
        · rw [si_b (n13 5), x3.1, es (60 + 5) (by omega)]
        · rw [si_b (n13 5), x3.2, es (60 + 5) (by omega)]
        · rw [si_b (n13 6), x4 j hj, es (60 + 6) (by omega)]
      · rw [si_b hb, o2 b hb2, es b hb]
  · have hb' : gr h 14 ((w + 1) % 6) = none := hb
    rw [er _ hw6] at hb'
    cases hb'
/-! the reference -/
def W135 (b k : Nat) : Bool := Nat.beq b 135
def W134 (b k : Nat) : Bool := Nat.beq b 134 || (Nat.beq b 130 && Nat.beq k 21)
def kpd (u : Nat) : Nat := if u = 6 then 1 else 0
def KpM (u : Nat) (h h' : PH) : Prop := Fr W134 h h' ∧ gi h' 130 21 = nI (kpu u) ∧ (∀ i, i + 1 < kpu u → eqR (pst h (i + kpd u)) (pst h' i)) ∧ eqR (h.1 135) (pst h' (kpu u - 1))
/-- the past behind a change -/
theorem IH.kept {h0 : PH} (hu : u ≤ 6) (hw : w < 6) (I : ∀ i, i < u → Rk C E (pst h0 i) ∧ LyR 15 (pst h0 i) h0.1 ∧ StR (88 + 7 * hix u w i) (pst h0 i) h0.1) (R : Rk C E s) (X : CR 60 s h0)
    (e1 : gi h' 13 1 = nI (kpu u)) (e2 : gi h' 13 2 = nI ((w + 1) % 6)) (e3 : gi h' 130 21 = nI (kpu u)) (er : ∀ j, j < 6 → gr h' 14 j = some (88 + 7 * j))
    (p1 : ∀ i, i + 1 < kpu u → eqR (pst h0 (i + kpd u)) (pst h' i)) (p2 : eqR s (pst h' (kpu u - 1))) (c1 : StC (88 + 7 * ((w + 1) % 6)) 60 h0.1 h'.1)
    (c2 : ∀ b, (15 ≤ b ∧ b ≤ 29) ∨ ((88 ≤ b ∧ b ≤ 129) ∧ (b < 88 + 7 * ((w + 1) % 6) ∨ 88 + 7 * ((w + 1) % 6) + 6 < b)) → h'.1 b = h0.1 b) : IH C E h' := by
  have hk : kpu u ≤ 6 ∧ 1 ≤ kpu u := by unfold kpu; split <;> omega
  refine ⟨kpu u, (w + 1) % 6, hk.1, Nat.mod_lt _ (by omega), e1, e2, e3, er, fun i hi => ?_⟩
  by_cases c : i + 1 < kpu u
  · have hj : i + kpd u < u := by
      unfold kpu at c
      unfold kpd
      split at c
      · rename_i z; rw [if_pos z]; omega
      · rename_i z; rw [if_neg z]; omega
    obtain ⟨b1, b2, b3⟩ := I _ hj
    have ep := p1 i c
    have eh : hix (kpu u) ((w + 1) % 6) i = hix u w (i + kpd u) := by
      unfold hix kpu kpd
      split <;> omega
    have nh : hix u w (i + kpd u) ≠ (w + 1) % 6 := by
      unfold hix kpd
      unfold kpu at c
      split
      · rename_i z; rw [if_pos z] at c; omega
      · rename_i z; rw [if_neg z] at c; omega
    have := hix_lt (u := u) (w := w) (i := i + kpd u)
    have hm := b1.m.2
    rw [eh]
    exact ⟨b1.eqR ep, (b2.heap fun b h1 h2 => c2 b (by omega)).congr ep.ag b1.1, (b3.heap fun b h1 h2 => c2 b (by omega)).eqR hm ep⟩
  · have ei : i = kpu u - 1 := by omega
    subst ei
    have eh : hix (kpu u) ((w + 1) % 6) (kpu u - 1) = (w + 1) % 6 := by unfold hix; omega
    rw [eh]
    exact ⟨R.eqR p2, (X.1.heap fun b h1 h2 => c2 b (by omega)).congr p2.ag R.1, (X.2.cp R.m.2 c1).eqR R.m.2 p2⟩
end

