/-! ===== the public changes: each call ===== -/
section
variable {q : Nat → PH → Prop} {kk : Int32 → PH → Prop} {kv : PH → Prop} {h h' : PH} {s t s' : RW} {C E D F : Nat} {a u w : Nat} {f g z : FI}
theorem mayP_t {x : Int32} (e : mayP s x = true) : x = nI (nn x) ∧ nn x ≤ 999 := by
  unfold mayP at e
  rw [Bool.and_eq_true] at e
  have := inR_n (a := 0) (b := 999) (by omega) e.1
  exact ⟨this.1, this.2.2⟩
theorem WR_M {h h' : PH} (f : Fr WR h h') : Fr WM h h' := f.mono fun b k e => WR_WM e
/-! start -/
/-! stop, go -/
/-! hold -/
def hldB (s : RW) (x : Int32) (b : Bool) : Bool := !decide (decide (mf s (nn x) 5 = nI 1) = b)
/-! report -/
/-! change -/
def chaB (s : RW) (x y : Int32) : Bool := decide (whyN s (nn x) (nn y) = 0)
/-! commit -/
def comB (s : RW) (x : Int32) : Bool := decide (whyF s x = 0)
theorem whyF_le {x : Int32} : whyF s x ≤ 2 := by
  unfold whyF
  split
  · split <;> omega
  · omega
theorem whyF_q {x : Int32} {A B : Prop} (f : comB s x = true → A) (g : comB s x = false → B) : (nI (whyF s x) = 0 → A) ∧ (¬ nI (whyF s x) = 0 → B) := by
  have h7 := whyF_le (s := s) (x := x)
  rw [← nI_0, nI_eq (by omega) (by omega)]
  exact ⟨fun y => f (decide_eq_true y), fun y => g (decide_eq_false y)⟩
end

