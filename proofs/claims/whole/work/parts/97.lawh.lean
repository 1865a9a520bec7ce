/-! ===== the law's loop: what its cases rest on ===== -/
section
variable {q : Nat → PH → Prop} {kk : Int32 → PH → Prop} {kf : UInt32 → PH → Prop} {kd : UInt64 → PH → Prop} {h h' h1 : PH} {s : RW} {z : FI} {C E D F c c' i n m p k u w : Nat} {v : Int32} {A B X : PH → Prop} {t : RW}
def QL : Res → PH → Prop := fun r _ => r = .inl (some (.int (nI 1)))
theorem hQI {a : KT} {c : Nat} {ls : Lc} : ∀ x h, ¬ rI (hnd QL a c ls []) kk (.inr x) h := fun x h y => by
  have y : (Sum.inr x : Res) = .inl (some (.int (nI 1))) := y
  cases y
theorem ret1 {x : Int32} (K : kk x h) : rI q kk (.inl (some (.int x))) h := K
abbrev LLs (v : Int32) (o6 o7 o8 : Option Value) : Lc := [some (.ref 999), some (.ref 0), some (.ref 130), some (.ref 147), some (.ref 148), some (.int v), o6, o7, o8, none]
def LB (z : FI) (C E c i n : Nat) : Prop := i + 6 ≤ n ∧ n ≤ 3072 ∧ z 0 0 = nI n ∧ C + 50000 < 2 ^ 29 ∧ E + 2000000 < 2 ^ 31 ∧ c + 3 ≤ 100000
def GO (z : FI) (C E c i : Nat) : Prop := ∀ h' c' o6 o7 o8, c' ≤ c + 3 → Inv z (C + 39960) (E + 1198800) h' → At m_L_law QL 2658 c' (LLs (nI i) o6 o7 o8) [] h'
theorem vpS (Z : IZ z h) (B : LB z C E c i n) (hk : k < 6) : vp_in (nI i + nI k) (gi h 998 0).toNatClampNeg := by
  obtain ⟨b1, b2, b3, b4⟩ := B
  rw [show gi h 998 0 = nI n from (congrFun Z.1 0).trans b3, nI_add, nI_clamp (by omega)]
  exact vp_in_nI (by omega) (by omega)
theorem a999 (Z : IZ z h) (B : LB z C E c i n) (hk : k < 6) : gi h 999 (nI i + nI k).toNatClampNeg = z 1 (i + k) := by
  obtain ⟨b1, b2, b3, b4⟩ := B
  rw [nI_add, nI_clamp (by omega)]
  exact congrFun Z.2.1 _
theorem a999s {j : Nat} {x : Int64} (Z : IZ z h) (B : LB z C E c i n) (hk : k < 6) : gi (sl h 147 j x) 999 (nI i + nI k).toNatClampNeg = z 1 (i + k) := a999 (h := h) Z B hk
theorem a999d {j : Nat} {x : UInt64} (Z : IZ z h) (B : LB z C E c i n) (hk : k < 6) : gi (sd h 148 j x) 999 (nI i + nI k).toNatClampNeg = z 1 (i + k) := a999 (h := h) Z B hk
theorem capL (B : LB z C E c i n) (hk : k ≤ 3) : c + k ≤ m_L_law.cap := by
  have := B.2.2.2.2.2
  show c + k ≤ 100000
  omega
theorem LB.bC (B : LB z C E c i n) : C + 50000 < 2 ^ 29 := B.2.2.2.1
theorem LB.bE (B : LB z C E c i n) : E + 2000000 < 2 ^ 31 := B.2.2.2.2.1
theorem GO.go {o6 o7 o8 : Option Value} (G : GO z C E c i) (hc : c' ≤ c + 3) (I : Inv z D F h) (hC : D ≤ C + 39960) (hE : F ≤ E + 1198800) : At m_L_law QL 2658 c' (LLs (nI i) o6 o7 o8) [] h := G h c' o6 o7 o8 hc (I.mono hC hE)
theorem FZ0 {x : Int32} : Fz WZ VZ h (si h 130 0 x) := Fz.si h x (by unfold WZ; omega)
theorem FZL {k : Nat} {x : Int64} : Fz WZ VZ h (sl h 147 k x) := Fz.sl h x (by unfold VZ; omega)
theorem FZD {k : Nat} {x : UInt64} : Fz WZ VZ h (sd h 148 k x) := Fz.sd h x
theorem okL {x : Int64} : gl (sl h 147 (nI 0).toNatClampNeg x) 147 0 = x := by
  rw [cl (by omega)]
  exact gl_same
theorem okLs {x : Int64} {y : Int32} : gl (si (sl h 147 (nI 0).toNatClampNeg x) 130 0 y) 147 0 = x := okL
theorem okF {x : Int64} {y : Int32} {W : Nat → Nat → Bool} (f : Fr W (si (sl h 147 (nI 0).toNatClampNeg x) 130 0 y) h') : gl h' 147 0 = x := (congrArg (fun p => p.1 147 0) f.2).trans okLs
theorem okG {x : Int64} (e : h'.2.1 147 = (sl h 147 (nI 0).toNatClampNeg x).2.1 147) : gl h' 147 0 = x := (congrFun e 0).trans okL
theorem FZf (f : Fr WF h h') : Fz WZ VZ h h' := Fz.fr f (fun b k y => by
  have := Nat.eq_of_beq_eq_true y
  unfold WZ; omega)
theorem FZw (f : Fr (WS 67) h h') : Fz WZ VZ h h' := Fz.fr f (fun b k e => by
  unfold WZ
  have : ¬ (b < 67 ∨ 67 + 6 < b) := fun y => by
    rw [WS_f y] at e
    cases e
  omega)
theorem FZq {c : Nat} (hs : h.1 132 = s) (U : Qs s c h h') : Fz WZ VZ h h' := by
  obtain ⟨f, r, -⟩ := U
  refine ⟨fun b k e => ?_, fun b _ => by rw [f.2], fun b _ => by rw [f.2]⟩
  by_cases d : b = 132
  · subst d
    show h'.1 132 k = h.1 132 k
    rw [r, hs]
  · refine f.1 b k ?_
    cases y : WQ b k
    · rfl
    · exfalso
      unfold WQ at y
      simp only [Bool.or_eq_true, Bool.and_eq_true] at y
      apply e
      unfold WZ
      rcases y with ⟨y, -⟩ | y | ⟨y, y2⟩
      · exact absurd (Nat.eq_of_beq_eq_true y) d
      · have := Nat.eq_of_beq_eq_true y
        omega
      · have := Nat.eq_of_beq_eq_true y
        rcases y2 with y2 | y2 | y2 | y2
        all_goals
          have := Nat.eq_of_beq_eq_true y2
          omega
theorem okQ {x : Int64} {c : Nat} (U : Qs s c (sl h 147 (nI 0).toNatClampNeg x) h') : gl h' 147 0 = x := (congrArg (fun p => p.1 147 0) U.1.2).trans okL
theorem FZm (hs : h.1 132 = s) (f : Fr WM h h') (r : h'.1 132 = s) : Fz WZ VZ h h' := by
  refine ⟨fun b k e => ?_, fun b _ => by rw [f.2], fun b _ => by rw [f.2]⟩
  by_cases d : b = 132
  · subst d
    show h'.1 132 k = h.1 132 k
    rw [r, hs]
  · refine f.1 b k ?_
    cases y : WM b k
    · rfl
    · exfalso
      unfold WM at y
      simp only [Bool.or_eq_true, Bool.and_eq_true] at y
      apply e
      unfold WZ
      rcases y with ⟨y, -⟩ | ⟨y, y2⟩
      · exact absurd (Nat.eq_of_beq_eq_true y) d
      · have := Nat.eq_of_beq_eq_true y
        rcases y2 with y2 | y2 | y2
        all_goals
          have := Nat.eq_of_beq_eq_true y2
          omega
theorem s_meanMeasure2 (R : Rk C E s) (hs : h.1 132 = s) (K : ∀ h', Fr WM (si h 130 0 (nI 0)) h' → h'.1 132 = s → kd (meaV s) h') : MetPM m_X12_meanMeasure [.ref 130] h (rD q kd) := by
  refine t_X12_meanMeasure (s_measures R (hs0 hs) (fun h' f1 hs1 k1 k2 k3 => ?_))
  have K := K h' f1 hs1
  have hc := mCnt_le R
  unfold meaV at K
  cases e : hasP s
  · rw [k2 e]
    rw [if_neg (by rw [e]; decide)] at K
    exact g0 K
  · rw [(k1 e).1, (k1 e).2, ← nI_0, nI_eq (by omega) (by omega)]
    rw [if_pos e] at K
    refine ⟨fun c => ?_, fun c => ?_⟩
    · rw [if_neg c] at K
      exact ⟨mea_ok R c, K⟩
    · rw [if_pos c] at K; exact K
/-- the answers are compared: both have answered -/
theorem tl_ok {x : Int32} (e0 : gi h 130 0 = nI 0) (e1 : gl h 147 0 = x.toInt64) (K : A h) : MetPM m_X12_thrown [.ref 130] h (rI q (fun x6 h5 => ((x6 = nI 0 → ((¬ nI 0 = 0 → A h5) ∧ (nI 0 = 0 → (vp_in (nI 0) 1 ∧ ((lg_cmp (gl h5 147 (nI 0).toNatClampNeg) (x.toInt64) = 0 → A h5) ∧ (¬ lg_cmp (gl h5 147 (nI 0).toNatClampNeg) (x.toInt64) = 0 → B h5)))))) ∧ (¬ x6 = nI 0 → B h5)))) := by
  refine t_X12_thrown (ret1 ?_)
  rw [e0]
  refine ⟨fun _ => ⟨fun y => absurd rfl y, fun _ => ⟨vp_in_nI (by omega) (by omega), fun _ => K, fun y => absurd (lgc_0.mpr ?_) y⟩⟩, fun y => absurd rfl y⟩
  rw [cl (by omega)]
  exact e1
/-- booleans -/
theorem tl_okb {b : Bool} (e0 : gi h 130 0 = nI 0) (e1 : gl h 147 0 = lN (b.toNat)) (K : A h) : MetPM m_X12_thrown [.ref 130] h (rI q (fun x6 h5 => ((x6 = nI 0 → ((¬ nI 0 = 0 → A h5) ∧ (nI 0 = 0 → (vp_in (nI 0) 1 ∧ ((b2i b = 0 → ((lg_cmp (gl h5 147 (nI 0).toNatClampNeg) (lN 0) = 0 → A h5) ∧ (¬ lg_cmp (gl h5 147 (nI 0).toNatClampNeg) (lN 0) = 0 → B h5))) ∧ (¬ b2i b = 0 → ((lg_cmp (gl h5 147 (nI 0).toNatClampNeg) (lN 1) = 0 → A h5) ∧ (¬ lg_cmp (gl h5 147 (nI 0).toNatClampNeg) (lN 1) = 0 → B h5)))))))) ∧ (¬ x6 = nI 0 → B h5)))) := by
  refine t_X12_thrown (ret1 ?_)
  rw [e0]
  refine ⟨fun _ => ⟨fun y => absurd rfl y, fun _ => ⟨vp_in_nI (by omega) (by omega), bq (fun y => ⟨fun _ => K, fun y2 => absurd (lgc_0.mpr ?_) y2⟩) (fun y => ⟨fun _ => K, fun y2 => absurd (lgc_0.mpr ?_) y2⟩)⟩⟩, fun y => absurd rfl y⟩
  · rw [cl (by omega), e1, y]; rfl
  · rw [cl (by omega), e1, y]; rfl
/-- both have refused -/
theorem tl_no {k : Nat} (hk : 1 ≤ k ∧ k ≤ 3) (e0 : gi h 130 0 = nI k) (K : A h) : MetPM m_X12_thrown [.ref 130] h (rI q (fun x6 h5 => ((x6 = nI k → ((¬ nI k = 0 → A h5) ∧ (nI k = 0 → X h5))) ∧ (¬ x6 = nI k → B h5)))) := by
  refine t_X12_thrown (ret1 ?_)
  rw [e0]
  refine ⟨fun _ => ⟨fun _ => K, fun y => ?_⟩, fun y => absurd rfl y⟩
  rw [← nI_0, nI_eq (by omega) (by omega)] at y
  omega
theorem fp_shc : ∀ n, n < 13 → ∀ k, k < 13 → ¬ k = 0 → Op.cmpValue (FP.dcmp (FP.f2d (FP.fdiv (FP.i2f (nI n)) (FP.i2f (nI k)))) (FP.f2d (FP.fdiv (FP.i2f (nI n)) (FP.i2f (nI k))))) .l = 0 := by decide +kernel
theorem fp_fc0 : Op.cmpValue (FP.dcmp (FP.f2d FP.fconst0) (FP.f2d FP.fconst0)) .l = 0 := by decide +kernel
theorem shaV_c (R : Rk C E s) {v : Nat} : Op.cmpValue (FP.dcmp (FP.f2d (shaV s v)) (FP.f2d (shaV s v))) .l = 0 := by
  have hm2 := R.m.2
  have h1 := cnt_le (plnd s) (nn (s 2))
  have h2 := cnt_le (fun m => upW s v m && plnd s m) (nn (s 2))
  unfold shaV
  split
  · exact fp_fc0
  · rename_i c
    exact fp_shc _ (by omega) _ (by omega) c
end
