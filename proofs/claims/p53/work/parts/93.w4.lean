/-! ===== the law's World: why a change may not begin ===== -/
section
variable {h h' h1 : PH} {w k q9 a b v t c o : Nat} {W : WN} {s : RW} {C E : Nat} {Q : Res → PH → Prop} {x : Int32}
theorem com_c (R : Rk C E s) (ho : o < nn (s 2)) : com s o = nI (cN s o) ∧ cN s o < nn (s 0) := by
  have M := R.2.1.2 o ho
  unfold cN
  cases hd : isD s o with
  | true =>
    have e : com s o = mf s o 2 := by unfold com; rw [hd]
    rw [e]
    exact ⟨(M.nx hd).1.1, (M.nx hd).2⟩
  | false =>
    have e : com s o = mf s o 1 := by unfold com; rw [hd]
    rw [e]
    exact ⟨M.ve.1.1, M.ve.2⟩
theorem c_wCom (X : WO h w W s) (R : Rk C E s) (ho : o < W.ms.length) (K : Q (.inl (some (.int (nI (cN s o))))) h) : MetQ mq_X12_coming [.ref (W.ms.getD o 0)] h Q := by
  have hl := X.m.2.1
  have hk : o < nn (s 2) := by omega
  have e1 : gi h (W.ms.getD o 0) 1 = mf s o 1 := X.f ho (by decide)
  have e2 : gi h (W.ms.getD o 0) 2 = mf s o 2 := X.f ho (by decide)
  rw [← (com_c R hk).1] at K
  refine c_mCom (X.km ho) (fun z => ?_) (fun z => ?_)
  · rw [e2] at z
    have e : com s o = mf s o 1 := by unfold com; rw [(up_c R hk).1 z]
    rw [e1, ← e]; exact K
  · rw [e2] at z
    have e : com s o = mf s o 2 := by unfold com; rw [(up_c R hk).2 z]
    rw [e2, ← e]; exact K
theorem c_wWhy2 (X : WO h w W s) (R : Rk C E s) (hk : k < W.ms.length) (hv : v < nn (s 0)) (h8 : nn (s 0) ≤ 8) (h12 : nn (s 2) ≤ 12) {c : Nat} (K0 : anyN (nn (s 2)) (slnt s k v) = false → Q (.inl (some (.int (nI 0)))) h) (K7 : anyN (nn (s 2)) (slnt s k v) = true → Q (.inl (some (.int (nI 7)))) h) :
    ∀ n o, o + n = W.ms.length → (∀ j, j < o → slnt s k v j = false) → Bt mq_X13_why Q 137 c [some (.ref w), some (.int (nI k)), some (.int (nI v)), none, some (.int (nI o))] [] h := by
  obtain ⟨-, -, -, -, -, r6, -⟩ := X.r
  have hl := X.m.2.1
  intro n
  induction n with
  | zero =>
    intro o hc hj
    refine sq_X13_why_137 ⟨X.kw, g3 r6 ⟨X.al.rc, c_lsize X.al (fun _ => ⟨fun _ => K0 (anyN_f.mpr (fun i hi => hj i (by omega))), fun z => ?_⟩)⟩⟩
    exact absurd (nI_le (a := W.ms.length) (b := o) (by omega) (by omega)) z
  | succ n ih =>
    intro o hc hj
    have ho : o < W.ms.length := by omega
    have ho2 : o < nn (s 2) := by omega
    refine sq_X13_why_137 ⟨X.kw, g3 r6 ⟨X.al.rc, c_lsize X.al (fun _ => ⟨fun z => absurd z (nI_ge ho (by omega)), fun _ => ⟨X.rc, c_wPart X hk ho h12 (fun _ => ?_)⟩⟩)⟩⟩
    have next : slnt s k v o = false → Bt mq_X13_why Q 137 c [some (.ref w), some (.int (nI k)), some (.int (nI v)), none, some (.int (nI o + nI 1))] [] h := by
      intro z
      rw [nI_add]
      refine ih (o + 1) (by omega) (fun j hj2 => ?_)
      rcases Nat.lt_or_eq_of_le (Nat.le_of_lt_succ hj2) with y | y
      · exact hj j y
      · rw [y]; exact z
    refine ⟨fun z => next ?_, fun z => ⟨X.kw, g3 r6 ⟨X.al.rc, c_get X.al ho (fun _ => ⟨X.km ho, Or.inl (X.km ho), c_wCom X R ho (fun _ => ⟨X.rc, c_wTalk X hv (com_c R ho2).2 h8 (fun _ => ⟨fun y => next ?_, fun y => K7 ?_⟩)⟩)⟩)⟩⟩⟩
    · unfold slnt; rw [b2i_0.mp z, Bool.false_and]
    · unfold slnt
      have : tlk s v (cN s o) = true := by
        cases q : tlk s v (cN s o)
        · exact absurd (b2i_0.mpr q) y
        · rfl
      rw [this, Bool.not_true, Bool.and_false]
    · refine anyN_iff.mpr ⟨o, ho2, ?_⟩
      unfold slnt
      have p1 : par s k o = true := by
        cases q : par s k o
        · exact absurd (b2i_0.mpr q) z
        · rfl
      rw [p1, b2i_0.mp y]; rfl
theorem c_wWhy1 (X : WO h w W s) (R : Rk C E s) (hk : k < W.ms.length) (hv : v < nn (s 0)) (h8 : nn (s 0) ≤ 8) (h12 : nn (s 2) ≤ 12) {c : Nat} (K6 : farM s k v = true → Q (.inl (some (.int (nI 6)))) h) (K0 : farM s k v = false → anyN (nn (s 2)) (slnt s k v) = false → Q (.inl (some (.int (nI 0)))) h) (K7 : farM s k v = false → anyN (nn (s 2)) (slnt s k v) = true → Q (.inl (some (.int (nI 7)))) h) :
    ∀ n o, o + n = W.ms.length → (∀ j, j < o → (!decide (j = k) && decide (nn (s 6) < apt v (cN s j))) = false) → Bt mq_X13_why Q 76 c [some (.ref w), some (.int (nI k)), some (.int (nI v)), none, some (.int (nI o))] [] h := by
  obtain ⟨-, -, -, -, -, r6, -⟩ := X.r
  have hl := X.m.2.1
  have hsk := R.1.sk
  intro n
  induction n with
  | zero =>
    intro o hc hj
    have hfar : farM s k v = false := anyN_f.mpr (fun i hi => hj i (by omega))
    refine sq_X13_why_76 ⟨X.kw, g3 r6 ⟨X.al.rc, c_lsize X.al (fun _ => ⟨fun _ => c_wWhy2 X R hk hv h8 h12 (K0 hfar) (K7 hfar) W.ms.length 0 (by omega) (fun j hj => by omega), fun z => ?_⟩)⟩⟩
    exact absurd (nI_le (a := W.ms.length) (b := o) (by omega) (by omega)) z
  | succ n ih =>
    intro o hc hj
    have ho : o < W.ms.length := by omega
    have ho2 : o < nn (s 2) := by omega
    have next : (!decide (o = k) && decide (nn (s 6) < apt v (cN s o))) = false → Bt mq_X13_why Q 76 c [some (.ref w), some (.int (nI k)), some (.int (nI v)), none, some (.int (nI o + nI 1))] [] h := by
      intro z
      rw [nI_add]
      refine ih (o + 1) (by omega) (fun j hj2 => ?_)
      rcases Nat.lt_or_eq_of_le (Nat.le_of_lt_succ hj2) with y | y
      · exact hj j y
      · rw [y]; exact z
    refine sq_X13_why_76 ⟨X.kw, g3 r6 ⟨X.al.rc, c_lsize X.al (fun _ => ⟨fun z => absurd z (nI_ge ho (by omega)), fun _ => ⟨fun z => next ?_, fun z => ⟨X.kw, g3 r6 ⟨X.al.rc, c_get X.al ho (fun _ => ⟨X.km ho, Or.inl (X.km ho), c_wCom X R ho (fun _ => ⟨X.kw, ?_⟩)⟩)⟩⟩⟩⟩)⟩⟩
    · rw [decide_eq_true ((nI_eq (a := o) (b := k) (by omega) (by omega)).mp z)]; rfl
    · have e6 : gi h w 1 = s 6 := X.i.2.1.2.1
      have hcn := (com_c R ho2).2
      have hap : apt v (cN s o) < 9 := by unfold apt; split <;> omega
      rw [abs_apt (by omega) (by omega), e6, hsk.1]
      have hne : ¬ o = k := fun y => z (congrArg nI y)
      refine ⟨fun y => next ?_, fun y => K6 ?_⟩
      · have : ¬ nn (s 6) < apt v (cN s o) := fun q => nI_ge q (by omega) y
        rw [decide_eq_false this, Bool.and_false]
      · refine anyN_iff.mpr ⟨o, ho2, ?_⟩
        have : nn (s 6) < apt v (cN s o) := by
          rcases Nat.lt_or_ge (nn (s 6)) (apt v (cN s o)) with q | q
          · exact q
          · exact absurd (nI_le q (by have := hsk.2; omega)) y
        rw [decide_eq_false hne, decide_eq_true this]; rfl
end
section
variable {h h' : PH} {w k v : Nat} {W : WN} {s : RW} {C E : Nat} {Q : Res → PH → Prop}
theorem c_wWhy (X : WO h w W s) (R : Rk C E s) (hk : k < W.ms.length) (hv : v < nn (s 0)) (K : ∀ h', FmQ [] h h' → Lw h h' → Q (.inl (some (.int (nI (whyN s k v))))) h') : MetQ mq_X13_why [.ref w, .int (nI k), .int (nI v)] h Q := by
  obtain ⟨-, -, -, -, -, r6, -⟩ := X.r
  have hl := X.m.2.1
  have hk2 : k < nn (s 2) := by omega
  have h8 : nn (s 0) ≤ 8 := R.1.v.2
  have h12 : nn (s 2) ≤ 12 := R.1.m.2
  have hdn := R.1.dn
  have M := R.2.1.2 k hk2
  have e0 : gi h (W.ms.getD k 0) 0 = mf s k 0 := X.f hk (by decide)
  have e1 : gi h (W.ms.getD k 0) 1 = mf s k 1 := X.f hk (by decide)
  have e2 : gi h (W.ms.getD k 0) 2 = mf s k 2 := X.f hk (by decide)
  have e5 : gi h (W.ms.getD k 0) 5 = mf s k 5 := X.f hk (by decide)
  have km := X.km hk
  have f9 : gi h w 0 = s 5 := X.i.2.1.1
  refine tq_X13_why ⟨X.kw, g3 r6 ⟨X.al.rc, c_get X.al hk (fun _ => ⟨km, km, fun z => ?_, fun z => ?_⟩)⟩⟩
  · rw [e5] at z
    have n5 : ¬ mf s k 5 = nI 1 := fun y => by rw [y] at z; exact absurd z (by decide)
    refine ⟨Or.inl km, c_mUp km (fun z2 _ => ⟨fun _ => ⟨km, fun z3 => ⟨X.kw, X.rc, ?_⟩, fun z3 => ?_⟩, fun y => absurd y (by decide)⟩) (fun z2 _ => ⟨fun y => absurd rfl y, fun _ => ?_⟩)⟩
    · rw [e2] at z2
      rw [e1] at z3
      have nd := (up_c R hk2).1 z2
      have nv : ¬ vN s k = v := fun y => z3 (by rw [M.ve.1.1]; exact congrArg nI y)
      rw [f9]
      refine c_wReads X hv h8 (fun _ => ⟨fun z4 => ⟨km, X.rc, Nat.le_refl _, ?_⟩, fun z4 => ?_⟩)
      · have hr : rds s v (s 5) = true := by
          cases q : rds s v (s 5)
          · exact absurd (b2i_0.mpr q) z4
          · rfl
        rw [e0]
        refine c_wDown X R (fun h1 f1 hlw1 _ => ?_)
        have X1 := X.f0 f1 hlw1.md
        have g2 : gi h1 w 2 = s 7 := X1.i.2.1.2.2.1
        have hcn : cnt (nn (s 2)) (dnIn s (mf s k 0)) ≤ 12 := Nat.le_trans (cnt_le _ _) h12
        refine ⟨X1.kw, ?_⟩
        rw [g2]
        refine ⟨fun z5 => ?_, fun z5 => ?_⟩
        · have h5 : ¬ nn (s 7) ≤ cnt (nn (s 2)) (dnIn s (mf s k 0)) := fun q => by
            rw [hdn.1] at z5
            exact absurd ((nI_ltI (by omega) (by have := hdn.2; omega)).mp z5) (by omega)
          refine c_wWhy1 X1 R hk hv h8 h12 (fun a1 => ?_) (fun a1 a2 => ?_) (fun a1 a2 => ?_) W.ms.length 0 (by omega) (fun j hj => by omega)
          · have := K h1 f1 hlw1
            unfold whyN at this
            rw [if_neg n5, if_neg (by rw [nd]; decide), if_neg nv, if_neg (by rw [hr]; decide), if_neg h5, if_pos a1] at this
            exact this
          · have := K h1 f1 hlw1
            unfold whyN at this
            rw [if_neg n5, if_neg (by rw [nd]; decide), if_neg nv, if_neg (by rw [hr]; decide), if_neg h5, if_neg (by rw [a1]; decide), if_neg (by rw [a2]; decide)] at this
            exact this
          · have := K h1 f1 hlw1
            unfold whyN at this
            rw [if_neg n5, if_neg (by rw [nd]; decide), if_neg nv, if_neg (by rw [hr]; decide), if_neg h5, if_neg (by rw [a1]; decide), if_pos a2] at this
            exact this
        · have h5 : nn (s 7) ≤ cnt (nn (s 2)) (dnIn s (mf s k 0)) := by
            rcases Nat.lt_or_ge (cnt (nn (s 2)) (dnIn s (mf s k 0))) (nn (s 7)) with q | q
            · exact absurd (by rw [hdn.1]; exact nI_lt q (by have := hdn.2; omega)) z5
            · exact q
          have := K h1 f1 hlw1
          unfold whyN at this
          rw [if_neg n5, if_neg (by rw [nd]; decide), if_neg nv, if_neg (by rw [hr]; decide), if_pos h5] at this
          exact this
      · have := K h (FmQ.refl h) (Lw.refl h)
        unfold whyN at this
        rw [if_neg n5, if_neg (by rw [nd]; decide), if_neg nv, if_pos (b2i_0.mp z4)] at this
        exact this
    · rw [e2] at z2
      rw [e1] at z3
      have nd := (up_c R hk2).1 z2
      have hv3 : vN s k = v := by
        rw [M.ve.1.1] at z3
        exact (nI_eq (a := vN s k) (b := v) (by have := M.ve.2; show nn (mf s k 1) < _; have := M.ve.1.2; omega) (by omega)).mp z3
      have := K h (FmQ.refl h) (Lw.refl h)
      unfold whyN at this
      rw [if_neg n5, if_neg (by rw [nd]; decide), if_pos hv3] at this
      exact this
    · rw [e2] at z2
      have := K h (FmQ.refl h) (Lw.refl h)
      unfold whyN at this
      rw [if_neg n5, if_pos ((up_c R hk2).2 z2)] at this
      exact this
  · rw [e5] at z
    have h5 : mf s k 5 = nI 1 := M.he.resolve_left z
    have := K h (FmQ.refl h) (Lw.refl h)
    unfold whyN at this
    rw [if_pos h5] at this
    exact this
end
