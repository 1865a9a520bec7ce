/-! ===== rows of the reference: what their numbers mean, and what always holds of them ===== -/
def nn (x : Int32) : Nat := x.toNatClampNeg
/-- a number that isn't negative, and not above b -/
def isN (x : Int32) (b : Nat) : Prop := x = nI (nn x) ∧ nn x ≤ b
theorem nn_nI {n : Nat} (h : n < 2 ^ 31) : nn (nI n) = n := nI_clamp h
theorem isN_nI {n b : Nat} (h : n ≤ b) (hb : b < 2 ^ 31) : isN (nI n) b := by
  have e : nn (nI n) = n := nn_nI (by omega)
  exact ⟨by rw [e], by omega⟩
theorem isN.mono {x : Int32} {a b : Nat} (h : isN x a) (hab : a ≤ b) : isN x b := ⟨h.1, by have := h.2; omega⟩
theorem isN.nm1 {x : Int32} {a : Nat} (h : isN x a) : ¬ x = -1 := by
  intro e
  have h1 := h.1
  rw [e] at h1
  exact absurd h1 (by decide)
def mf (s : RW) (m w : Nat) : Int32 := s (49 + 7 * m + w)
def isD (s : RW) (m : Nat) : Bool := !decide (mf s m 2 = -1)
def com (s : RW) (m : Nat) : Int32 := match isD s m with
  | true => mf s m 2
  | false => mf s m 1
def pN (s : RW) (m : Nat) : Nat := nn (mf s m 0)
def vN (s : RW) (m : Nat) : Nat := nn (mf s m 1)
def cN (s : RW) (m : Nat) : Nat := nn (com s m)
def tlk (s : RW) (a b : Nat) : Bool := decide (a = b) || bt (s (36 + a)) b
def rds (s : RW) (v : Nat) (f : Int32) : Bool := decide (s (20 + v) ≤ f) && decide (f ≤ s (28 + v))
def par (s : RW) (a b : Nat) : Bool := !decide (a = b) && (decide (mf s a 0 = mf s b 0) || bt (mf s a 6) b)
def apt (a b : Nat) : Nat := if a ≤ b then b - a else a - b
def dnIn (s : RW) (p : Int32) (m : Nat) : Bool := decide (mf s m 0 = p) && isD s m
def farM (s : RW) (m v : Nat) : Bool := anyN (nn (s 2)) (fun o => !decide (o = m) && decide (nn (s 6) < apt v (cN s o)))
def slnt (s : RW) (m v o : Nat) : Bool := par s m o && !tlk s v (cN s o)
def whyN (s : RW) (m v : Nat) : Nat :=
  if mf s m 5 = nI 1 then 1 else if isD s m = true then 2 else if vN s m = v then 3 else if rds s v (s 5) = false then 4
  else if nn (s 7) ≤ cnt (nn (s 2)) (dnIn s (mf s m 0)) then 5 else if farM s m v = true then 6 else if anyN (nn (s 2)) (slnt s m v) = true then 7 else 0
def hasP (s : RW) : Bool := !decide (s 12 = 0) && !decide (s 12 = nI 4)
def going (s : RW) : Bool := decide (s 12 = nI 1) || decide (s 12 = nI 2)
def wvOf (s : RW) (m : Nat) : Int32 := s (44 + pN s m)
def plnd (s : RW) (m : Nat) : Bool := !decide (wvOf s m = -1)
def free (s : RW) (m : Nat) : Bool := plnd s m && decide (mf s m 5 = 0)
def rdy (s : RW) (m : Nat) : Bool := !isD s m && (if s 17 = nI 1 then decide (nn (s 14) ≤ vN s m) else decide (vN s m ≤ nn (s 14)))
def ofW (s : RW) (m : Nat) (w : Int32) : Bool := decide (wvOf s m = w)
def lagM (s : RW) (m : Nat) : Bool := hasP s && (ofW s m (s 15) && !rdy s m)
def cmpl (s : RW) : Bool := allN (nn (s 2)) (fun m => !ofW s m (s 15) || (!free s m || rdy s m))
def allR (s : RW) (f : Int32) : Bool := allN (nn (s 2)) (fun m => rds s (cN s m) f)
def whyF (s : RW) (f : Int32) : Nat := if s 5 < f then (if allR s f = true then 0 else 2) else 1
def upW (s : RW) (v m : Nat) : Bool := !isD s m && decide (vN s m = v)
def folw (s : RW) (a b : Nat) : Bool := !decide (a = b) && (rds s b (s 5) && (tlk s a b && decide (apt a b ≤ nn (s 6))))
def inR (x : Int32) (a b : Int) : Bool := decide (a ≤ x.toInt) && decide (x.toInt ≤ b)
def mesd (s : RW) (m : Nat) : Bool := plnd s m && rdy s m
def mSum (s : RW) : Int32 := sumI (nn (s 2)) (mesd s) (fun m => mf s m 4)
def mCnt (s : RW) : Nat := cnt (nn (s 2)) (mesd s)
def over (s : RW) : Bool := !decide (mSum s ≤ s 10 * nI (mCnt s))
def lowA (s : RW) : Nat := lo1 (nn (s 2)) (fun _ => true) (cN s)
def higA (s : RW) : Nat := hi1 (nn (s 2)) (fun _ => true) (cN s)
def mayP (s : RW) (x : Int32) : Bool := inR x 0 999 && decide (s 11 + x ≤ nI 20000)
def mayS (s : RW) : Bool := !decide (s 3 ≤ 0) && !going s
def kEv (s : RW) : Nat := if nn (s 19) < 30 then nn (s 19) else 30
def RkL (s : RW) : Prop :=
  (isN (s 0) 8) ∧
  (isN (s 1) 5) ∧
  (isN (s 2) 12) ∧
  (isN (s 3) 5) ∧
  (isN (s 4) 20) ∧
  (isN (s 6) 7) ∧
  (isN (s 7) 12) ∧
  (isN (s 8) 99) ∧
  (1 ≤ nn (s 8)) ∧
  (isN (s 9) 99) ∧
  (isN (s 10) 999) ∧
  (∀ m, m < nn (s 2) → isN (mf s m 0) 4 ∧ pN s m < nn (s 1)) ∧
  (∀ p, p < nn (s 1) → s (44 + p) = -1 ∨ (isN (s (44 + p)) 4 ∧ nn (s (44 + p)) < nn (s 3))) ∧
  (∀ a b, a < nn (s 0) → b < nn (s 0) → tlk s a b = tlk s b a) ∧
  (∀ a b, a < nn (s 2) → b < nn (s 2) → par s a b = par s b a)
theorem RkL.v {s : RW} (h : RkL s) : isN (s 0) 8 := h.1
theorem RkL.p {s : RW} (h : RkL s) : isN (s 1) 5 := h.2.1
theorem RkL.m {s : RW} (h : RkL s) : isN (s 2) 12 := h.2.2.1
theorem RkL.w {s : RW} (h : RkL s) : isN (s 3) 5 := h.2.2.2.1
theorem RkL.l {s : RW} (h : RkL s) : isN (s 4) 20 := h.2.2.2.2.1
theorem RkL.sk {s : RW} (h : RkL s) : isN (s 6) 7 := h.2.2.2.2.2.1
theorem RkL.dn {s : RW} (h : RkL s) : isN (s 7) 12 := h.2.2.2.2.2.2.1
theorem RkL.tk {s : RW} (h : RkL s) : isN (s 8) 99 := h.2.2.2.2.2.2.2.1
theorem RkL.tk1 {s : RW} (h : RkL s) : 1 ≤ nn (s 8) := h.2.2.2.2.2.2.2.2.1
theorem RkL.so {s : RW} (h : RkL s) : isN (s 9) 99 := h.2.2.2.2.2.2.2.2.2.1
theorem RkL.li {s : RW} (h : RkL s) : isN (s 10) 999 := h.2.2.2.2.2.2.2.2.2.2.1
theorem RkL.pl {s : RW} (h : RkL s) : ∀ m, m < nn (s 2) → isN (mf s m 0) 4 ∧ pN s m < nn (s 1) := h.2.2.2.2.2.2.2.2.2.2.2.1
theorem RkL.wv {s : RW} (h : RkL s) : ∀ p, p < nn (s 1) → s (44 + p) = -1 ∨ (isN (s (44 + p)) 4 ∧ nn (s (44 + p)) < nn (s 3)) := h.2.2.2.2.2.2.2.2.2.2.2.2.1
theorem RkL.ts {s : RW} (h : RkL s) : ∀ a b, a < nn (s 0) → b < nn (s 0) → tlk s a b = tlk s b a := h.2.2.2.2.2.2.2.2.2.2.2.2.2.1
theorem RkL.sy {s : RW} (h : RkL s) : ∀ a b, a < nn (s 2) → b < nn (s 2) → par s a b = par s b a := h.2.2.2.2.2.2.2.2.2.2.2.2.2.2
def MO (C : Nat) (s : RW) (m : Nat) : Prop :=
  (isN (mf s m 1) 7 ∧ vN s m < nn (s 0)) ∧
  (isD s m = true → isN (mf s m 2) 7 ∧ nn (mf s m 2) < nn (s 0)) ∧
  (isD s m = false → mf s m 3 = -1) ∧
  (isD s m = true → isN (mf s m 3) (C + 99) ∧ nn (s 11) < nn (mf s m 3) ∧ nn (mf s m 3) ≤ nn (s 11) + 99) ∧
  (isN (mf s m 4) 999) ∧
  (mf s m 5 = 0 ∨ mf s m 5 = nI 1)
theorem MO.ve {C : Nat} {s : RW} {m : Nat} (h : MO C s m) : isN (mf s m 1) 7 ∧ vN s m < nn (s 0) := h.1
theorem MO.nx {C : Nat} {s : RW} {m : Nat} (h : MO C s m) : isD s m = true → isN (mf s m 2) 7 ∧ nn (mf s m 2) < nn (s 0) := h.2.1
theorem MO.up {C : Nat} {s : RW} {m : Nat} (h : MO C s m) : isD s m = false → mf s m 3 = -1 := h.2.2.1
theorem MO.un {C : Nat} {s : RW} {m : Nat} (h : MO C s m) : isD s m = true → isN (mf s m 3) (C + 99) ∧ nn (s 11) < nn (mf s m 3) ∧ nn (mf s m 3) ≤ nn (s 11) + 99 := h.2.2.2.1
theorem MO.me {C : Nat} {s : RW} {m : Nat} (h : MO C s m) : isN (mf s m 4) 999 := h.2.2.2.2.1
theorem MO.he {C : Nat} {s : RW} {m : Nat} (h : MO C s m) : mf s m 5 = 0 ∨ mf s m 5 = nI 1 := h.2.2.2.2.2
def RkT (C : Nat) (s : RW) : Prop :=
  (isN (s 5) 9) ∧
  (isN (s 12) 4) ∧
  (hasP s = true → isN (s 13) 7 ∧ nn (s 13) < nn (s 0)) ∧
  (hasP s = true → isN (s 14) 7 ∧ nn (s 14) < nn (s 0)) ∧
  (hasP s = true → isN (s 15) 4 ∧ nn (s 15) < nn (s 3)) ∧
  (hasP s = true → (s 17 = nI 1 ∧ nn (s 14) ≤ nn (s 13)) ∨ (s 17 = 0 ∧ nn (s 13) ≤ nn (s 14))) ∧
  (s 12 = nI 3 → s 18 = nI 1 ∨ s 18 = nI 2) ∧
  (s 12 = nI 2 ∨ (s 12 = nI 3 ∧ s 18 = nI 2) → isN (s 16) (C + 99))
theorem RkT.f {C : Nat} {s : RW} (h : RkT C s) : isN (s 5) 9 := h.1
theorem RkT.st {C : Nat} {s : RW} (h : RkT C s) : isN (s 12) 4 := h.2.1
theorem RkT.ta {C : Nat} {s : RW} (h : RkT C s) : hasP s = true → isN (s 13) 7 ∧ nn (s 13) < nn (s 0) := h.2.2.1
theorem RkT.se {C : Nat} {s : RW} (h : RkT C s) : hasP s = true → isN (s 14) 7 ∧ nn (s 14) < nn (s 0) := h.2.2.2.1
theorem RkT.tu {C : Nat} {s : RW} (h : RkT C s) : hasP s = true → isN (s 15) 4 ∧ nn (s 15) < nn (s 3) := h.2.2.2.2.1
theorem RkT.dr {C : Nat} {s : RW} (h : RkT C s) : hasP s = true → (s 17 = nI 1 ∧ nn (s 14) ≤ nn (s 13)) ∨ (s 17 = 0 ∧ nn (s 13) ≤ nn (s 14)) := h.2.2.2.2.2.1
theorem RkT.wa {C : Nat} {s : RW} (h : RkT C s) : s 12 = nI 3 → s 18 = nI 1 ∨ s 18 = nI 2 := h.2.2.2.2.2.2.1
theorem RkT.en {C : Nat} {s : RW} (h : RkT C s) : s 12 = nI 2 ∨ (s 12 = nI 3 ∧ s 18 = nI 2) → isN (s 16) (C + 99) := h.2.2.2.2.2.2.2
def RkM (C : Nat) (s : RW) : Prop := isN (s 11) C ∧ ∀ m, m < nn (s 2) → MO C s m
def Rk (C E : Nat) (s : RW) : Prop := RkL s ∧ RkM C s ∧ RkT C s ∧ isN (s 19) E
theorem Rk.v {C E : Nat} {s : RW} (h : Rk C E s) : isN (s 0) 8 := h.1.v
theorem Rk.p {C E : Nat} {s : RW} (h : Rk C E s) : isN (s 1) 5 := h.1.p
theorem Rk.m {C E : Nat} {s : RW} (h : Rk C E s) : isN (s 2) 12 := h.1.m
theorem Rk.w {C E : Nat} {s : RW} (h : Rk C E s) : isN (s 3) 5 := h.1.w
theorem Rk.l {C E : Nat} {s : RW} (h : Rk C E s) : isN (s 4) 20 := h.1.l
theorem Rk.sk {C E : Nat} {s : RW} (h : Rk C E s) : isN (s 6) 7 := h.1.sk
theorem Rk.dn {C E : Nat} {s : RW} (h : Rk C E s) : isN (s 7) 12 := h.1.dn
theorem Rk.tk {C E : Nat} {s : RW} (h : Rk C E s) : isN (s 8) 99 := h.1.tk
theorem Rk.tk1 {C E : Nat} {s : RW} (h : Rk C E s) : 1 ≤ nn (s 8) := h.1.tk1
theorem Rk.so {C E : Nat} {s : RW} (h : Rk C E s) : isN (s 9) 99 := h.1.so
theorem Rk.li {C E : Nat} {s : RW} (h : Rk C E s) : isN (s 10) 999 := h.1.li
theorem Rk.pl {C E : Nat} {s : RW} (h : Rk C E s) : ∀ m, m < nn (s 2) → isN (mf s m 0) 4 ∧ pN s m < nn (s 1) := h.1.pl
theorem Rk.wv {C E : Nat} {s : RW} (h : Rk C E s) : ∀ p, p < nn (s 1) → s (44 + p) = -1 ∨ (isN (s (44 + p)) 4 ∧ nn (s (44 + p)) < nn (s 3)) := h.1.wv
theorem Rk.ts {C E : Nat} {s : RW} (h : Rk C E s) : ∀ a b, a < nn (s 0) → b < nn (s 0) → tlk s a b = tlk s b a := h.1.ts
theorem Rk.sy {C E : Nat} {s : RW} (h : Rk C E s) : ∀ a b, a < nn (s 2) → b < nn (s 2) → par s a b = par s b a := h.1.sy
theorem Rk.ve {C E : Nat} {s : RW} (h : Rk C E s) : ∀ m, m < nn (s 2) → isN (mf s m 1) 7 ∧ vN s m < nn (s 0) := fun m hm => (h.2.1.2 m hm).ve
theorem Rk.nx {C E : Nat} {s : RW} (h : Rk C E s) : ∀ m, m < nn (s 2) → isD s m = true → isN (mf s m 2) 7 ∧ nn (mf s m 2) < nn (s 0) := fun m hm => (h.2.1.2 m hm).nx
theorem Rk.up {C E : Nat} {s : RW} (h : Rk C E s) : ∀ m, m < nn (s 2) → isD s m = false → mf s m 3 = -1 := fun m hm => (h.2.1.2 m hm).up
theorem Rk.un {C E : Nat} {s : RW} (h : Rk C E s) : ∀ m, m < nn (s 2) → isD s m = true → isN (mf s m 3) (C + 99) ∧ nn (s 11) < nn (mf s m 3) ∧ nn (mf s m 3) ≤ nn (s 11) + 99 := fun m hm => (h.2.1.2 m hm).un
theorem Rk.me {C E : Nat} {s : RW} (h : Rk C E s) : ∀ m, m < nn (s 2) → isN (mf s m 4) 999 := fun m hm => (h.2.1.2 m hm).me
theorem Rk.he {C E : Nat} {s : RW} (h : Rk C E s) : ∀ m, m < nn (s 2) → mf s m 5 = 0 ∨ mf s m 5 = nI 1 := fun m hm => (h.2.1.2 m hm).he
theorem Rk.ck {C E : Nat} {s : RW} (h : Rk C E s) : isN (s 11) C := h.2.1.1
theorem Rk.f {C E : Nat} {s : RW} (h : Rk C E s) : isN (s 5) 9 := h.2.2.1.f
theorem Rk.st {C E : Nat} {s : RW} (h : Rk C E s) : isN (s 12) 4 := h.2.2.1.st
theorem Rk.ta {C E : Nat} {s : RW} (h : Rk C E s) : hasP s = true → isN (s 13) 7 ∧ nn (s 13) < nn (s 0) := h.2.2.1.ta
theorem Rk.se {C E : Nat} {s : RW} (h : Rk C E s) : hasP s = true → isN (s 14) 7 ∧ nn (s 14) < nn (s 0) := h.2.2.1.se
theorem Rk.tu {C E : Nat} {s : RW} (h : Rk C E s) : hasP s = true → isN (s 15) 4 ∧ nn (s 15) < nn (s 3) := h.2.2.1.tu
theorem Rk.dr {C E : Nat} {s : RW} (h : Rk C E s) : hasP s = true → (s 17 = nI 1 ∧ nn (s 14) ≤ nn (s 13)) ∨ (s 17 = 0 ∧ nn (s 13) ≤ nn (s 14)) := h.2.2.1.dr
theorem Rk.wa {C E : Nat} {s : RW} (h : Rk C E s) : s 12 = nI 3 → s 18 = nI 1 ∨ s 18 = nI 2 := h.2.2.1.wa
theorem Rk.en {C E : Nat} {s : RW} (h : Rk C E s) : s 12 = nI 2 ∨ (s 12 = nI 3 ∧ s 18 = nI 2) → isN (s 16) (C + 99) := h.2.2.1.en
theorem Rk.ev {C E : Nat} {s : RW} (h : Rk C E s) : isN (s 19) E := h.2.2.2

