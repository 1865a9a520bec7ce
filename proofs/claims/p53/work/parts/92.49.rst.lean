/-! ===== restore ===== -/
section
variable {q : Nat → PH → Prop} {kk : Int32 → PH → Prop} {kv : PH → Prop} {h h' : PH} {s t s' : RW} {C E D F : Nat} {a b0 u w : Nat} {f g z : FI}
def RsC (h h' : PH) : Prop := (∀ c, (c < 15 ∨ 29 < c) → (c < 60 ∨ 66 < c) → c ≠ 13 → h'.1 c = h.1 c) ∧ (∀ k, k ≠ 1 → h'.1 13 k = h.1 13 k) ∧ gi h' 13 1 = nI 0 ∧ (∀ c, (c < 15 ∨ 29 < c) → c ≠ 147 → h'.2.1 c = h.2.1 c) ∧ h'.2.2.1 = h.2.2.1 ∧ LyC 15 45 h h' ∧ StC 60 81 h.1 h'.1
end

