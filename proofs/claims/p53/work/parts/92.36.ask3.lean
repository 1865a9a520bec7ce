/-! ===== ways, mixed pairs, the highest format: both sides ===== -/
section
variable {q : Nat → PH → Prop} {kk : Int32 → PH → Prop} {kv : PH → Prop} {h : PH} {s : RW} {C E : Nat} {a : Nat}
/-! mixed pairs -/
def mixP (s : RW) (a b : Nat) : Bool := !isD s a && ((par s a b && !isD s b) && !decide (vN s a = vN s b))
def tri (P : Nat → Nat → Bool) : Nat → Nat
  | 0 => 0
  | n + 1 => tri P n + cnt n (P n)
def sqr (P : Nat → Nat → Bool) (m : Nat) : Nat → Nat
  | 0 => 0
  | n + 1 => sqr P m n + cnt m (P n)
theorem sqr_s {P : Nat → Nat → Bool} {m : Nat} : ∀ n, sqr P (m + 1) n = sqr P m n + cnt n (fun a => P a m)
  | 0 => rfl
  | n + 1 => by
    rw [sqr, sqr, cnt, cnt, sqr_s n]
    omega
theorem sqr_tri {P : Nat → Nat → Bool} : ∀ n, (∀ a b, a < n → b < n → P a b = P b a) → (∀ a, a < n → P a a = false) → sqr P n n = 2 * tri P n
  | 0, _, _ => rfl
  | n + 1, hs, hi => by
    rw [sqr, sqr_s, sqr_tri n (fun a b h1 h2 => hs a b (by omega) (by omega)) (fun a h1 => hi a (by omega)), tri, cnt, hi n (by omega), cnt_eq (p := fun a => P a n) (q := P n) (fun i hi => hs i n (by omega) (by omega))]
    show 2 * tri P n + cnt n (P n) + (cnt n (P n) + 0) = 2 * (tri P n + cnt n (P n))
    omega
theorem sqr_le {P : Nat → Nat → Bool} {m : Nat} (hm : m ≤ 12) : ∀ n, sqr P m n ≤ 12 * n
  | 0 => Nat.le_refl _
  | n + 1 => by
    have := sqr_le (P := P) hm n
    have := cnt_le (P n) m
    rw [sqr]; omega
theorem tri_le {P : Nat → Nat → Bool} : ∀ n, n ≤ 12 → tri P n ≤ 12 * n
  | 0, _ => Nat.le_refl _
  | n + 1, hn => by
    have := tri_le (P := P) n (by omega)
    have := cnt_le (P n) n
    rw [tri]; omega
def mixN (s : RW) : Nat := tri (mixP s) (nn (s 2))
theorem mix_tw (R : Rk C E s) : sqr (mixP s) (nn (s 2)) (nn (s 2)) = 2 * mixN s := sqr_tri _ (fun a b h1 h2 => by
  unfold mixP
  rw [R.sy a b h1 h2]
  have : decide (vN s a = vN s b) = decide (vN s b = vN s a) := decide_eq_decide.mpr ⟨fun z => z.symm, fun z => z.symm⟩
  rw [this]
  cases isD s a <;> cases isD s b <;> cases par s b a <;> rfl) (fun a h1 => by
  unfold mixP
  rw [decide_eq_true (p := vN s a = vN s a) rfl]
  simp)
/-! the highest format -/
def lst (s : RW) : Nat → Int32
  | 0 => -(nI 1)
  | n + 1 => if allR s (nI (n + 1)) = true then nI (n + 1) else lst s n
def hfm (s : RW) : Int32 := if nn (s 2) = 0 then -(nI 1) else lst s 9
end

