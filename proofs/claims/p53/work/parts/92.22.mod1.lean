/-! ===== the reference's questions ===== -/
section
variable {q : Nat → PH → Prop} {kk : Int32 → PH → Prop} {h : PH} {s : RW}
theorem rd (hs : h.1 132 = s) (k : Nat) (hk : k < 2 ^ 31) : gi h 132 (nI k).toNatClampNeg = s k := by rw [nI_clamp hk]; exact congrFun hs k
theorem rv {k : Nat} (hk : k < 253) : vp_in (nI k) 253 := vp_in_nI hk (by omega)
theorem mk_f {n : Nat} {p : Nat → Bool} (e : p n = false) : mk n p ||| (nI 0 <<< (nI n &&& 31)) = mk (n + 1) p := by rw [mk, e]; rfl
theorem mk_t {n : Nat} {p : Nat → Bool} (e : p n = true) : mk n p ||| (nI 1 <<< (nI n &&& 31)) = mk (n + 1) p := by rw [mk, e]; rfl
theorem lgc_lt {a b : Int64} : lg_cmp a b < 0 ↔ a.toInt < b.toInt := by
  unfold lg_cmp
  by_cases h1 : a > b
  · rw [if_pos h1]
    have h2 : b.toInt < a.toInt := Int64.lt_iff_toInt_lt.mp h1
    exact ⟨fun z => absurd z (by decide), fun z => by omega⟩
  · rw [if_neg h1]
    have h2 : ¬ b.toInt < a.toInt := fun z => h1 (Int64.lt_iff_toInt_lt.mpr z)
    by_cases h3 : a = b
    · subst h3; rw [if_pos rfl]
      exact ⟨fun z => absurd z (by decide), fun z => by omega⟩
    · rw [if_neg h3]
      have h4 : ¬ a.toInt = b.toInt := fun z => h3 (Int64.toInt_inj.mp z)
      exact ⟨fun _ => by omega, fun _ => by decide⟩
theorem lgc_gt {a b : Int64} : 0 < lg_cmp a b ↔ b.toInt < a.toInt := by
  unfold lg_cmp
  by_cases h1 : a > b
  · rw [if_pos h1]
    exact ⟨fun _ => Int64.lt_iff_toInt_lt.mp h1, fun _ => by decide⟩
  · rw [if_neg h1]
    have h2 : ¬ b.toInt < a.toInt := fun z => h1 (Int64.lt_iff_toInt_lt.mpr z)
    by_cases h3 : a = b
    · rw [if_pos h3]
      exact ⟨fun z => absurd z (by decide), fun z => absurd z h2⟩
    · rw [if_neg h3]
      exact ⟨fun z => absurd z (by decide), fun z => absurd z h2⟩
theorem inR_t {x : Int32} {n : Nat} (hn : n < 2 ^ 31) (e : inR x 0 ((n : Int) - 1) = true) : ∃ j, j < n ∧ x = nI j := by
  simp only [inR, Bool.and_eq_true, decide_eq_true_eq] at e
  refine vp_in_of (vp_in_iff.mpr ⟨e.1, by omega⟩) hn
theorem inR_j {j n : Nat} (hj : j < n) (hn : n < 2 ^ 31) : inR (nI j) 0 ((n : Int) - 1) = true := by
  simp only [inR, Bool.and_eq_true, decide_eq_true_eq]
  rw [nI_toInt (by omega)]
  omega
theorem ix_of (m w : Nat) : ((nI 49) + ((nI 7) * nI m)) + nI w = nI (49 + 7 * m + w) := by rw [pk_mul, nI_add, nI_add]
theorem Rk.co {C E : Nat} (R : Rk C E s) {m : Nat} (hm : m < nn (s 2)) : isN (com s m) 7 ∧ cN s m < nn (s 0) := by
  unfold cN com
  cases e : isD s m
  · exact R.ve m hm
  · exact R.nx m hm e
theorem toInt_leI {a b : Int32} : a.toInt ≤ b.toInt ↔ a ≤ b := (Int32.le_iff_toInt_le).symm
theorem anyN_s {n : Nat} {p : Nat → Bool} : anyN (n + 1) p = (anyN n p || p n) := rfl
theorem allN_s {n : Nat} {p : Nat → Bool} : allN (n + 1) p = (allN n p && p n) := rfl
end

