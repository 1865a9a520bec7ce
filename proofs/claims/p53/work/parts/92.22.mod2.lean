/-! ===== the reference's questions on the plan, its changes ===== -/
section
variable {q : Nat → PH → Prop} {kk : Int32 → PH → Prop} {kv : PH → Prop} {h : PH} {s : RW} {C E : Nat}
theorem Rk.pm (R : Rk C E s) {m : Nat} (hm : m < nn (s 2)) : mf s m 0 = nI (pN s m) ∧ pN s m < 5 ∧ pN s m < nn (s 1) := by
  have h1 := R.pl m hm
  have h2 := R.p.2
  exact ⟨h1.1.1, by omega, h1.2⟩
/-! changes of the row -/
/-- an event in a row -/
def evS (s : RW) (k m n : Int32) : RW := fun j =>
  if j = 133 + 4 * (nn (s 19) % 30) then s 11 else if j = 133 + 4 * (nn (s 19) % 30) + 1 then k else if j = 133 + 4 * (nn (s 19) % 30) + 2 then m
  else if j = 133 + 4 * (nn (s 19) % 30) + 3 then n else if j = 19 then s 19 + nI 1 else s j
/-- the row alone may change -/
def WR (b k : Nat) : Bool := Nat.beq b 132 && Nat.blt k 253
theorem WR_t {k : Nat} (h : k < 253) : WR 132 k = true := Nat.ble_eq_true_of_le h
end

