/-! ===== the reference's minute ===== -/
section
variable {q : Nat → PH → Prop} {kk : Int32 → PH → Prop} {kv : PH → Prop} {h : PH} {s : RW} {C E : Nat}
/-- what a minute of the reference may change -/
def WM (b k : Nat) : Bool := (Nat.beq b 132 && Nat.blt k 253) || (Nat.beq b 130 && (Nat.beq k 25 || (Nat.beq k 26 || Nat.beq k 27)))
theorem WM_t {k : Nat} (h : k < 253) : WM 132 k = true := by
  have e : Nat.blt k 253 = true := Nat.ble_eq_true_of_le h
  show ((true && Nat.blt k 253) || _) = true
  rw [e]; rfl
theorem WR_WM {b k : Nat} (e : WM b k = false) : WR b k = false := by
  simp only [WM, Bool.or_eq_false_iff] at e
  exact e.1
theorem endA_t {n : Nat} (e : endC (endA n s) n = true) : endA (n + 1) s = endS (endA n s) n := by rw [endA, e]
theorem endA_f {n : Nat} (e : endC (endA n s) n = false) : endA (n + 1) s = endA n s := by rw [endA, e]
theorem rolA_t {n : Nat} (e : rolC (rolA n s) n = true) : rolA (n + 1) s = begS (rolA n s) n (s 14) ∧ rolN (n + 1) s = rolN n s + 1 := by
  constructor
  · rw [rolA, e]
  · rw [rolN, e]
theorem rolA_f {n : Nat} (e : rolC (rolA n s) n = false) : rolA (n + 1) s = rolA n s ∧ rolN (n + 1) s = rolN n s := by
  constructor
  · rw [rolA, e]
  · rw [rolN, e]
theorem rolA_lo : ∀ n i, i < 49 → i ≠ 19 → rolA n s i = s i
  | 0, _, _, _ => rfl
  | n + 1, i, h, h2 => by
    have ih := rolA_lo n i h h2
    cases q : rolC (rolA n s) n
    · rw [(rolA_f q).1]; exact ih
    · rw [(rolA_t q).1, beg_lo h h2]; exact ih
theorem rolA_agL : ∀ n, agL s (rolA n s)
  | 0 => agL.refl s
  | n + 1 => by
    unfold rolA
    split
    · exact (rolA_agL n).trans agL_beg
    · exact rolA_agL n
theorem rolN_le : ∀ n, rolN n s ≤ n
  | 0 => Nat.le_refl _
  | n + 1 => by
    have ih := rolN_le n
    cases q : rolC (rolA n s) n
    · rw [(rolA_f q).2]; omega
    · rw [(rolA_t q).2]; omega
theorem Rk.rolA (R : Rk C E s) (hC : C < 2 ^ 30) (hE : E + 12 < 2 ^ 31) (hp : hasP s = true) : ∀ n, n ≤ nn (s 2) → Rk C (E + n) (rolA n s)
  | 0, _ => R
  | n + 1, hn => by
    have hm2 := R.m.2
    have ih := Rk.rolA R hC hE hp n (by omega)
    unfold _root_.Jvm.Pilot.CWaveUpgradeLaw_law_r2622_ef96a7.rolA
    split
    · refine ih.beg hC (by omega) (by rw [rolA_lo n 2 (by omega) (by omega)]; omega) ?_
      rw [rolA_lo n 0 (by omega) (by omega)]
      exact R.se hp
    · exact ih.mono (Nat.le_refl _) (by omega)
theorem Rk.min2 (R : Rk C E s) (hC : C < 2 ^ 29) (hE : E + 13 < 2 ^ 31) : Rk (C + 1) (E + 13) (min2 s) := by
  have R1 := R.min1 hC (by omega)
  unfold _root_.Jvm.Pilot.CWaveUpgradeLaw_law_r2622_ef96a7.min2
  split
  · rename_i c; exact R1.stop (by omega) c.1
  · exact R1.mono (Nat.le_refl _) (by omega)
theorem Rk.min3 (R : Rk C E s) (hC : C < 2 ^ 29) (hE : E + 14 < 2 ^ 31) : Rk (C + 1) (E + 14) (min3 s) := by
  have R2 := R.min2 hC (by omega)
  unfold _root_.Jvm.Pilot.CWaveUpgradeLaw_law_r2622_ef96a7.min3
  split
  · rename_i c; exact R2.next (by omega) c.1
  · exact R2.mono (Nat.le_refl _) (by omega)
theorem Rk.minS (R : Rk C E s) (hC : C < 2 ^ 29) (hE : E + 30 < 2 ^ 31) : Rk (C + 1) (E + 30) (minS s) := by
  have R3 := R.min3 hC (by omega)
  have hm2 := R3.m.2
  unfold _root_.Jvm.Pilot.CWaveUpgradeLaw_law_r2622_ef96a7.minS
  split
  · rename_i c
    have hp := hasP_t c (by omega) (by omega)
    have R4 := R3.rolA (by omega) (by omega) hp _ (Nat.le_refl _)
    unfold rolS
    split
    · exact (R4.soak (by omega) (by omega) ((hasP_of (rolA_lo _ 12 (by omega) (by omega))).trans hp)).mono (Nat.le_refl _) (by omega)
    · exact R4.mono (Nat.le_refl _) (by omega)
  · exact R3.mono (Nat.le_refl _) (by omega)
end

