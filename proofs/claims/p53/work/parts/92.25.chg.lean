/-! ===== changes of a row, and what they leave ===== -/
section
variable {s t : RW} {C E : Nat}
def agL (s t : RW) : Prop := ∀ i, (i < 5 ∨ (6 ≤ i ∧ i ≤ 10) ∨ (20 ≤ i ∧ i < 49) ∨ (49 ≤ i ∧ i < 133 ∧ ((i - 49) % 7 = 0 ∨ (i - 49) % 7 = 6))) → t i = s i
theorem agL.refl (s : RW) : agL s s := fun _ _ => rfl
theorem agL.trans {u : RW} (a : agL s t) (b : agL t u) : agL s u := fun i hi => (b i hi).trans (a i hi)
theorem agL.symm (a : agL s t) : agL t s := fun i hi => (a i hi).symm
theorem agL.n0 (a : agL s t) : t 0 = s 0 := a 0 (by omega)
theorem agL.n1 (a : agL s t) : t 1 = s 1 := a 1 (by omega)
theorem agL.n2 (a : agL s t) : t 2 = s 2 := a 2 (by omega)
theorem agL.n3 (a : agL s t) : t 3 = s 3 := a 3 (by omega)
theorem agL.pl (a : agL s t) {m : Nat} (hm : m < 12) : mf t m 0 = mf s m 0 := a (49 + 7 * m + 0) (by omega)
theorem agL.pN (a : agL s t) {m : Nat} (hm : m < 12) : pN t m = pN s m := congrArg nn (a.pl hm)
theorem agL.lk (a : agL s t) {m : Nat} (hm : m < 12) : mf t m 6 = mf s m 6 := a (49 + 7 * m + 6) (by omega)
theorem agL.tlk (a : agL s t) {v w : Nat} (hv : v < 8) : tlk t v w = tlk s v w := by
  show (decide (v = w) || bt (t (36 + v)) w) = (decide (v = w) || bt (s (36 + v)) w)
  rw [a (36 + v) (by omega)]
theorem agL.rds (a : agL s t) {v : Nat} {f : Int32} (hv : v < 8) : rds t v f = rds s v f := by
  show (decide (t (20 + v) ≤ f) && decide (f ≤ t (28 + v))) = (decide (s (20 + v) ≤ f) && decide (f ≤ s (28 + v)))
  rw [a (20 + v) (by omega), a (28 + v) (by omega)]
theorem agL.par (a : agL s t) {m o : Nat} (hm : m < 12) (ho : o < 12) : par t m o = par s m o := by
  show (!decide (m = o) && (decide (mf t m 0 = mf t o 0) || bt (mf t m 6) o)) = (!decide (m = o) && (decide (mf s m 0 = mf s o 0) || bt (mf s m 6) o))
  rw [a.pl hm, a.pl ho, a.lk hm]
theorem agL.wvOf (a : agL s t) (R : RkL s) {m : Nat} (hm : m < nn (s 2)) : wvOf t m = wvOf s m := by
  have h1 := R.m.2
  have h2 := (R.pl m hm).2
  have h3 := R.p.2
  show t (44 + _root_.Jvm.Pilot.CWaveUpgradeLaw_law_r2622_ef96a7.pN t m) = s (44 + _root_.Jvm.Pilot.CWaveUpgradeLaw_law_r2622_ef96a7.pN s m)
  rw [a.pN (by omega), a (44 + _) (by omega)]
theorem agL.plnd (a : agL s t) (R : RkL s) {m : Nat} (hm : m < nn (s 2)) : plnd t m = plnd s m := by
  show (!decide (_root_.Jvm.Pilot.CWaveUpgradeLaw_law_r2622_ef96a7.wvOf t m = -1)) = (!decide (_root_.Jvm.Pilot.CWaveUpgradeLaw_law_r2622_ef96a7.wvOf s m = -1))
  rw [a.wvOf R hm]
theorem agL.ofW (a : agL s t) (R : RkL s) {m : Nat} {w : Int32} (hm : m < nn (s 2)) : ofW t m w = ofW s m w := by
  show decide (_root_.Jvm.Pilot.CWaveUpgradeLaw_law_r2622_ef96a7.wvOf t m = w) = decide (_root_.Jvm.Pilot.CWaveUpgradeLaw_law_r2622_ef96a7.wvOf s m = w)
  rw [a.wvOf R hm]
theorem RkL.congr (a : agL s t) (R : RkL s) : RkL t := by
  have h2 := R.m.2
  have h3 := R.v.2
  have h4 := R.p.2
  refine ⟨?_, ?_, ?_, ?_, ?_, ?_, ?_, ?_, ?_, ?_, ?_, ?_, ?_, ?_, ?_⟩
  · rw [a.n0]; exact R.v
  · rw [a.n1]; exact R.p
  · rw [a.n2]; exact R.m
  · rw [a.n3]; exact R.w
  · rw [a 4 (by omega)]; exact R.l
  · rw [a 6 (by omega)]; exact R.sk
  · rw [a 7 (by omega)]; exact R.dn
  · rw [a 8 (by omega)]; exact R.tk
  · rw [a 8 (by omega)]; exact R.tk1
  · rw [a 9 (by omega)]; exact R.so
  · rw [a 10 (by omega)]; exact R.li
  · intro m hm
    rw [a.n2] at hm
    rw [a.pl (by omega), a.pN (by omega), a.n1]; exact R.pl m hm
  · intro p hp
    rw [a.n1] at hp
    rw [a (44 + p) (by omega), a.n3]; exact R.wv p hp
  · intro x y hx hy
    rw [a.n0] at hx hy
    rw [a.tlk (by omega), a.tlk (by omega)]; exact R.ts x y hx hy
  · intro x y hx hy
    rw [a.n2] at hx hy
    rw [a.par (by omega) (by omega), a.par (by omega) (by omega)]; exact R.sy x y hx hy
theorem LyR.congr {L : Nat} {f : FI} (a : agL s t) (R : RkL s) (Y : LyR L s f) : LyR L t f := by
  have h2 := R.m.2
  have h3 := R.v.2
  have h4 := R.p.2
  refine ⟨?_, ?_, ?_, ?_, ?_, ?_, ?_, ?_, ?_, ?_, ?_, ?_, ?_, ?_, ?_, ?_, ?_, ?_⟩
  · rw [a.n0]; exact Y.nv
  · rw [a.n1]; exact Y.np
  · rw [a.n2]; exact Y.nm
  · rw [a.n3]; exact Y.wa
  · rw [a 4 (by omega)]; exact Y.li
  · rw [a 6 (by omega)]; exact Y.sk
  · rw [a 7 (by omega)]; exact Y.dn
  · rw [a 8 (by omega)]; exact Y.tk
  · rw [a 9 (by omega)]; exact Y.so
  · rw [a 10 (by omega)]; exact Y.lm
  · intro v hv
    rw [a.n0] at hv
    rw [a (20 + v) (by omega)]; exact Y.lo v hv
  · intro v hv
    rw [a.n0] at hv
    rw [a (28 + v) (by omega)]; exact Y.hi v hv
  · intro v hv i hi
    rw [a.n0] at hv
    rw [a.tlk (by omega)]; exact Y.ta v hv i hi
  · intro p hp
    rw [a.n1] at hp
    rw [a (44 + p) (by omega)]; exact Y.wp p hp
  · intro p hp
    rw [a.n1] at hp
    rw [a.n2, Y.ps p hp]
    exact mk_eq fun m hm => by rw [a.pl (by omega)]
  · intro w hw
    rw [a.n3] at hw
    rw [a.n2, Y.ws w hw]
    exact mk_eq fun m hm => (a.ofW R hm).symm
  · intro m hm
    rw [a.n2] at hm
    rw [a.pl (by omega)]; exact Y.po m hm
  · intro m hm
    rw [a.n2] at hm
    rw [a.n2, Y.pa m hm]
    exact mk_eq fun o ho => (a.par (by omega) (by omega)).symm
/-! members and plan -/
theorem isD_of {m : Nat} (e : mf t m 2 = mf s m 2) : isD t m = isD s m := by unfold isD; rw [e]
theorem com_of {m : Nat} (e : mf t m 2 = mf s m 2) (e1 : mf t m 1 = mf s m 1) : com t m = com s m := by unfold com; rw [isD_of e, e, e1]
theorem MO.congr {m : Nat} (e0 : t 0 = s 0) (e11 : t 11 = s 11) (e : ∀ w, 1 ≤ w → w ≤ 5 → mf t m w = mf s m w) (h : MO C s m) : MO C t m := by
  have d := isD_of (e 2 (by omega) (by omega))
  refine ⟨?_, ?_, ?_, ?_, ?_, ?_⟩
  · unfold vN; rw [e 1 (by omega) (by omega), e0]; exact h.ve
  · rw [d, e 2 (by omega) (by omega), e0]; exact h.nx
  · rw [d, e 3 (by omega) (by omega)]; exact h.up
  · rw [d, e 3 (by omega) (by omega), e11]; exact h.un
  · rw [e 4 (by omega) (by omega)]; exact h.me
  · rw [e 5 (by omega) (by omega)]; exact h.he
theorem hasP_of (e : t 12 = s 12) : hasP t = hasP s := by unfold hasP; rw [e]
theorem going_of (e : t 12 = s 12) : going t = going s := by unfold going; rw [e]
theorem RkT.congr (e0 : t 0 = s 0) (e3 : t 3 = s 3) (e5 : t 5 = s 5) (e : ∀ i, 12 ≤ i → i ≤ 18 → t i = s i) (R : RkT C s) : RkT C t := by
  have d := hasP_of (e 12 (by omega) (by omega))
  refine ⟨?_, ?_, ?_, ?_, ?_, ?_, ?_, ?_⟩
  · rw [e5]; exact R.f
  · rw [e 12 (by omega) (by omega)]; exact R.st
  · rw [d, e 13 (by omega) (by omega), e0]; exact R.ta
  · rw [d, e 14 (by omega) (by omega), e0]; exact R.se
  · rw [d, e 15 (by omega) (by omega), e3]; exact R.tu
  · rw [d, e 17 (by omega) (by omega), e 14 (by omega) (by omega), e 13 (by omega) (by omega)]; exact R.dr
  · rw [e 12 (by omega) (by omega), e 18 (by omega) (by omega)]; exact R.wa
  · rw [e 12 (by omega) (by omega), e 18 (by omega) (by omega), e 16 (by omega) (by omega)]; exact R.en
theorem RkT.mono {D : Nat} (h : C ≤ D) (R : RkT C s) : RkT D s := ⟨R.f, R.st, R.ta, R.se, R.tu, R.dr, R.wa, fun z => (R.en z).mono (by omega)⟩
theorem MO.mono {m D : Nat} (h : C ≤ D) (R : MO C s m) : MO D s m := ⟨R.ve, R.nx, R.up, fun z => ⟨(R.un z).1.mono (by omega), (R.un z).2⟩, R.me, R.he⟩
theorem Rk.mono {D F : Nat} (h : C ≤ D) (h2 : E ≤ F) (R : Rk C E s) : Rk D F s := ⟨R.1, ⟨R.2.1.1.mono h, fun m hm => (R.2.1.2 m hm).mono h⟩, R.2.2.1.mono h, R.2.2.2.mono h2⟩
/-! cells behind an event, behind a change of a member -/
theorem evS_lo {k m n : Int32} {i : Nat} (hi : i < 133) (h19 : i ≠ 19) : evS s k m n i = s i := by
  unfold evS
  rw [if_neg (by omega), if_neg (by omega), if_neg (by omega), if_neg (by omega), if_neg h19]
theorem evS_19 {k m n : Int32} : evS s k m n 19 = s 19 + nI 1 := by
  unfold evS
  rw [if_neg (by omega), if_neg (by omega), if_neg (by omega), if_neg (by omega), if_pos rfl]
theorem evS_ev {k m n : Int32} (R : isN (s 19) E) (hE : E + 1 < 2 ^ 31) : isN (evS s k m n 19) (E + 1) ∧ nn (evS s k m n 19) = nn (s 19) + 1 := by
  have h2 := R.2
  rw [evS_19, R.1, nI_add, nn_nI (n := nn (s 19)) (by omega), nn_nI (by omega)]
  exact ⟨isN_nI (by omega) (by omega), rfl⟩
theorem mf_ev {k m n : Int32} {o w : Nat} (ho : o < 12) (hw : w < 7) : mf (evS s k m n) o w = mf s o w := evS_lo (by omega) (by omega)
theorem agL_ev {k m n : Int32} : agL s (evS s k m n) := fun i hi => evS_lo (by omega) (by omega)
def lyS (s : RW) (m w : Nat) (x : Int32) : RW := ups s (49 + 7 * m + w) x
theorem lyS_lo {m w : Nat} {x : Int32} {i : Nat} (hi : i < 49) : lyS s m w x i = s i := ups_n (by omega)
theorem mf_ly {m w o v : Nat} {x : Int32} (hw : w < 7) (hv : v < 7) (h : ¬ (o = m ∧ v = w)) : mf (lyS s m w x) o v = mf s o v := ups_n (by omega)
theorem mf_lys {m w : Nat} {x : Int32} : mf (lyS s m w x) m w = x := ups_s
theorem agL_ly {m w : Nat} {x : Int32} (h : 1 ≤ w) (h2 : w ≤ 5) : agL s (lyS s m w x) := fun i hi => ups_n (by omega)
theorem agL_up {k : Nat} {x : Int32} (h : k = 5 ∨ (11 ≤ k ∧ k ≤ 19)) : agL s (ups s k x) := fun i hi => ups_n (by omega)
theorem mf_up {k o w : Nat} {x : Int32} (h : k < 49) : mf (ups s k x) o w = mf s o w := ups_n (by omega)
theorem Rk.evs {k m n : Int32} (R : Rk C E s) (hE : E + 1 < 2 ^ 31) : Rk C (E + 1) (evS s k m n) := by
  have hm := R.m.2
  refine ⟨R.1.congr agL_ev, ⟨?_, ?_⟩, ?_, (evS_ev R.ev hE).1⟩
  · rw [evS_lo (by omega) (by omega)]; exact R.ck
  · intro o ho
    rw [agL_ev.n2] at ho
    exact (R.2.1.2 o ho).congr agL_ev.n0 (evS_lo (by omega) (by omega)) (fun w _ _ => mf_ev (by omega) (by omega))
  · exact R.2.2.1.congr agL_ev.n0 agL_ev.n3 (evS_lo (by omega) (by omega)) (fun i _ _ => evS_lo (by omega) (by omega))
/-! the changes -/
def begS (s : RW) (m : Nat) (v : Int32) : RW := evS (lyS (lyS s m 2 v) m 3 (s 11 + s 8)) (nI 0) (nI m) v
def endU (s : RW) (m : Nat) : RW := lyS (lyS (lyS (lyS s m 1 (mf s m 2)) m 2 (-(nI 1))) m 3 (-(nI 1))) m 4 (nI 0)
def endS (s : RW) (m : Nat) : RW := evS (endU s m) (nI 1) (nI m) (mf s m 2)
def endC (s : RW) (m : Nat) : Bool := isD s m && decide (mf s m 3 ≤ s 11)
def endA : Nat → RW → RW
  | 0, s => s
  | n + 1, s => match endC (endA n s) n with
    | true => endS (endA n s) n
    | false => endA n s
def stopS (s : RW) : RW := evS (ups (ups s 18 (s 12)) 12 (nI 3)) (nI 4) (-(nI 1)) (s 15)
def doneS (s : RW) : RW := evS (ups s 12 (nI 4)) (nI 6) (-(nI 1)) (s 13)
def soakS (s : RW) : RW := evS (ups (ups s 12 (nI 2)) 16 (s 11 + s 9)) (nI 3) (-(nI 1)) (s 15)
def nextU (s : RW) : RW := ups (ups s 15 (s 15 + nI 1)) 12 (nI 1)
def nextS (s : RW) : RW := if nn (s 15) + 1 < nn (s 3) then nextU s else if s 14 = s 13 then doneS (ups (nextU s) 15 (nI 0)) else ups (ups (nextU s) 15 (nI 0)) 14 (s 14 + (if s 17 = nI 1 then nI 1 else -(nI 1)))
def rolC (s : RW) (m : Nat) : Bool := ofW s m (s 15) && (free s m && (!isD s m && (!rdy s m && decide (whyN s m (nn (s 14)) = 0))))
def rolA : Nat → RW → RW
  | 0, s => s
  | n + 1, s => match rolC (rolA n s) n with
    | true => begS (rolA n s) n (s 14)
    | false => rolA n s
def rolN : Nat → RW → Nat
  | 0, _ => 0
  | n + 1, s => match rolC (rolA n s) n with
    | true => rolN n s + 1
    | false => rolN n s
def rolS (s : RW) : RW := if cmpl (rolA (nn (s 2)) s) = true then soakS (rolA (nn (s 2)) s) else rolA (nn (s 2)) s
def min1 (s : RW) : RW := endA (nn (s 2)) (ups s 11 (s 11 + nI 1))
def min2 (s : RW) : RW := if going (min1 s) = true ∧ over (min1 s) = true then stopS (min1 s) else min1 s
def min3 (s : RW) : RW := if (min2 s) 12 = nI 2 ∧ ¬ (min2 s) 11 < (min2 s) 16 then nextS (min2 s) else min2 s
def minS (s : RW) : RW := if (min3 s) 12 = nI 1 then rolS (min3 s) else min3 s
def minN (s : RW) : Nat := if (min3 s) 12 = nI 1 then rolN (nn ((min3 s) 2)) (min3 s) else 0
end

