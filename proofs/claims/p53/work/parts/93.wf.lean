/-! ===== the law's World: a minute, the changes that end ===== -/
section
variable {h h' h0 : PH} {w k v j : Nat} {W W0 : WN} {s s' t : RW} {C E : Nat} {Q : Res → PH → Prop} {x y z : Int32}
theorem WOi.eq9 (X : WOi h w s) (hh : ∀ j, gi h' w j = gi h w j) (hk : qkd h' w = qkd h w) (e : ∀ i, i < 19 → s' i = s i) : WOi h' w s' := by
  obtain ⟨⟨i1, i2⟩, ⟨j0, j1, j2, j3, j4, j5, j6, j8, j15, j16, j17⟩, ip, iw, ie⟩ := X
  have ep : hasP s' = hasP s := by unfold hasP; rw [e 12 (by decide)]
  refine ⟨⟨hk.trans i1, i2⟩, ⟨?_, ?_, ?_, ?_, ?_, ?_, ?_, ?_, ?_, ?_, ?_⟩, fun z => ?_, fun z => ?_, fun z => ?_⟩
  · rw [hh, e _ (by decide)]; exact j0
  · rw [hh, e _ (by decide)]; exact j1
  · rw [hh, e _ (by decide)]; exact j2
  · rw [hh, e _ (by decide)]; exact j3
  · rw [hh, e _ (by decide)]; exact j4
  · rw [hh, e _ (by decide)]; exact j5
  · rw [hh, e _ (by decide)]; exact j6
  · rw [hh, e _ (by decide)]; exact j8
  · rw [hh, e _ (by decide)]; exact j15
  · rw [hh, e _ (by decide)]; exact j16
  · rw [hh, e _ (by decide)]; exact j17
  · rw [ep] at z
    obtain ⟨z1, z2, z3, z4⟩ := ip z
    exact ⟨by rw [hh, e _ (by decide)]; exact z1, by rw [hh, e _ (by decide)]; exact z2, by rw [hh, e _ (by decide)]; exact z3, by rw [hh, e _ (by decide)]; exact z4⟩
  · rw [e _ (by decide)] at z
    rw [hh, e _ (by decide)]; exact iw z
  · rw [e 12 (by decide), e 18 (by decide)] at z
    rw [hh, e _ (by decide)]; exact ie z
/-- a World shows no events: the row's own don't matter -/
theorem WO.row (X : WO h w W s) (R : RkL s) (e : ∀ i, i < 133 → i ≠ 19 → t i = s i) : WO h w W t := by
  obtain ⟨⟨a1, a2, a3⟩, ⟨b1, b2, b3⟩, ⟨c1, c2, c3⟩, ⟨d1, d2, d3⟩, ⟨e1, e2, e3⟩⟩ := X.a
  obtain ⟨m1, m2, m3, m4⟩ := X.m
  have h8 := R.v.2
  have h5 := R.p.2
  have h12 := R.m.2
  have t0 : t 0 = s 0 := e 0 (by decide) (by decide)
  have t1 : t 1 = s 1 := e 1 (by decide) (by decide)
  have t2 : t 2 = s 2 := e 2 (by decide) (by decide)
  have tm : ∀ a i, a < 12 → i < 7 → mf t a i = mf s a i := fun a i h1 h2 => e _ (by omega) (by omega)
  refine ⟨X.i.eq9 (fun _ => rfl) rfl (fun i hi => e i (by omega) (by omega)), X.r, ⟨⟨a1, a2, fun y hy => ?_⟩, ⟨b1, b2, fun y hy => ?_⟩, ⟨c1, c2, fun y hy => ?_⟩, ⟨d1, d2, fun y hy => ?_⟩, ⟨e1, e2, fun y hy => ?_⟩⟩, ⟨m1, by rw [t2]; exact m2, m3, fun y hy => ⟨(m4 y hy).1, fun i hi => ?_⟩⟩, X.e⟩
  · rw [t0] at hy
    rw [e _ (by omega) (by omega)]; exact a3 y hy
  · rw [t0] at hy
    rw [e _ (by omega) (by omega)]; exact b3 y hy
  · rw [t1] at hy
    rw [e _ (by omega) (by omega)]; exact c3 y hy
  · obtain ⟨z1, z2, z3, z4⟩ := d3 y hy
    refine ⟨z1, z2, z3, fun b hb ha => ?_⟩
    rw [t0] at hb ha
    rw [e _ (by omega) (by omega)]; exact z4 b hb ha
  · obtain ⟨z1, z2, z3, z4⟩ := e3 y hy
    refine ⟨z1, z2, z3, fun b hb ha => ?_⟩
    rw [t2] at hb ha
    rw [tm _ _ (by omega) (by decide)]; exact z4 b hb ha
  · rw [tm _ _ (by omega) (by omega)]; exact (m4 y hy).2 i hi
theorem WO.evs {a b c : Int32} (X : WO h w W s) (R : RkL s) : WO h w W (evS s a b c) := X.row R (fun i h1 h2 => evS_lo h1 h2)
theorem upE_c (M : MOw C s k) : (mf s k 2 < 0 → isD s k = false) ∧ (0 ≤ mf s k 2 → isD s k = true) := by
  refine ⟨fun z => ?_, fun z => ?_⟩
  · cases hd : isD s k
    · rfl
    · exfalso
      obtain ⟨e, l⟩ := (M.nx hd).1
      rw [e] at z
      exact nI_pos (by omega) z
  · unfold isD
    rw [decide_eq_false]
    · rfl
    · intro e
      rw [e] at z
      exact absurd z (by decide)
theorem WO.endU (X : WO h w W s) (R : RkL s) (hk : k < W.ms.length) : WO (si (si (si (si h (W.ms.getD k 0) 1 (mf s k 2)) (W.ms.getD k 0) 2 (-(nI 1))) (W.ms.getD k 0) 3 (-(nI 1))) (W.ms.getD k 0) 4 (nI 0)) w W (endU s k) := by
  have lo : ∀ (s : RW) (j : Nat) (x : Int32) i, i < 49 → ups s (49 + 7 * k + j) x i = s i := fun s j x i hi => if_neg (by omega)
  have h8 := R.v.2
  have h5 := R.p.2
  have X1 := X.mb (x := mf s k 2) h8 h5 hk (j := 1) (by decide)
  have X2 := X1.mb (x := -(nI 1)) (by rw [lo _ _ _ _ (by decide)]; exact h8) (by rw [lo _ _ _ _ (by decide)]; exact h5) hk (j := 2) (by decide)
  have X3 := X2.mb (x := -(nI 1)) (by rw [lo _ _ _ _ (by decide), lo _ _ _ _ (by decide)]; exact h8) (by rw [lo _ _ _ _ (by decide), lo _ _ _ _ (by decide)]; exact h5) hk (j := 3) (by decide)
  exact X3.mb (x := nI 0) (by rw [lo _ _ _ _ (by decide), lo _ _ _ _ (by decide), lo _ _ _ _ (by decide)]; exact h8) (by rw [lo _ _ _ _ (by decide), lo _ _ _ _ (by decide), lo _ _ _ _ (by decide)]; exact h5) hk (j := 4) (by decide)
theorem l_wEnds (R : RkE 0 C E s) (hC : C < 2 ^ 30) (hE : E + 13 < 2 ^ 31) (h6 : nn (s 2) ≤ 6) (hcap : nn (s 19) + 6 ≤ 1200) (hc0 : Kc h0)
    (K : ∀ c h' W', c ≤ 152 * nn (s 2) → WO h' w W' (endA (nn (s 2)) s) → W'.es.length = nn (endA (nn (s 2)) s 19) → nn (endA (nn (s 2)) s 19) ≤ nn (s 19) + nn (s 2) → W'.ms = W0.ms → Lw h0 h' → Bt mq_X13_minute Q 12 c [some (.ref w), some (.int (nI (nn (s 2)))), none, none] [] h') :
    ∀ n cur c h1 W1, cur + n = nn (s 2) → c ≤ 152 * cur → WO h1 w W1 (endA cur s) → W1.es.length = nn (endA cur s 19) → nn (endA cur s 19) ≤ nn (s 19) + cur → W1.ms = W0.ms → Lw h0 h1 → Bt mq_X13_minute Q 12 c [some (.ref w), some (.int (nI cur)), none, none] [] h1 := by
  intro n
  induction n with
  | zero =>
    intro cur c h1 W1 hc hcc X hes hle hms hlw
    have e : cur = nn (s 2) := by omega
    rw [e] at hcc X hes hle ⊢
    exact K c h1 W1 hcc X hes hle hms hlw
  | succ n ih =>
    intro cur c h1 W1 hc hcc X hes hle hms hlw
    have hcur : cur < nn (s 2) := by omega
    have RS : RkE cur C (E + cur) (endA cur s) := R.endA hC (by omega) cur (by omega)
    have e2 : endA cur s 2 = s 2 := (endA_agL cur).n2
    have iff := endC_iff RS hC (by rw [e2]; exact hcur)
    have M := (RS.2.1.2 cur (by rw [e2]; exact hcur)).2
    have hck := RS.2.1.1
    have hlen19 := RS.2.2.2
    have tt : endC (endA cur s) cur = true → endA (cur + 1) s = endS (endA cur s) cur := endA_t
    have tf : endC (endA cur s) cur = false → endA (cur + 1) s = endA cur s := endA_f
    generalize endA cur s = S at *
    have hl := X.m.2.1
    rw [e2] at hl
    have hk : cur < W1.ms.length := by omega
    have hc1 : Kc h1 := hc0.md hlw.md
    have hne : W1.ms ≠ [] := fun e => by rw [e] at hk; cases hk
    have stay : endC S cur = false → ∀ c', c' ≤ 152 * cur + 152 → Bt mq_X13_minute Q 93 c' [some (.ref w), some (.int (nI cur)), none, none] [] h1 := by
      intro z c' hc'
      refine sq_X13_minute_93 ?_
      rw [nI_add]
      have e := tf z
      exact ih (cur + 1) c' h1 W1 (by omega) (by omega) (by rw [e]; exact X) (by rw [e]; exact hes) (by rw [e]; omega) hms hlw
    refine sq_X13_minute_12 ⟨X.kw, g3 X.r.2.2.2.2.2.1 ⟨X.al.rc, c_lsize X.al (fun _ => ⟨fun z => absurd z (nI_ge hk (by omega)), fun _ => ⟨X.kw, g3 X.r.2.2.2.2.2.1 ⟨X.al.rc, c_get X.al hk (fun _ => ⟨X.km hk, Or.inl (X.km hk), c_mUp (X.km hk) (fun z2 _ => ⟨fun _ => ?_, fun y => absurd y (by decide)⟩) (fun z2 _ => ⟨fun y => absurd rfl y, fun _ => ⟨X.km hk, X.kw, fun z3 => ?_, fun z3 => ?_⟩⟩)⟩)⟩⟩⟩)⟩⟩
    · rw [X.f hk (show 2 < 6 by decide)] at z2
      refine stay ?_ c (by omega)
      unfold endC
      rw [(upE_c M).1 z2, Bool.false_and]
    · rw [X.f hk (show 3 < 6 by decide), show gi h1 w 6 = S 11 from X.i.2.1.2.2.2.2.2.2.1] at z3
      have ec : endC S cur = true := iff.mpr z3
      have e := tt ec
      have km := X.km hk
      have hm2 := (X.m.2.2.2 cur hk).1
      rw [X.f hk (show 2 < 6 by decide)]
      have X4 := X.endU RS.1 hk
      have y24e : gi (si (si (si (si h1 (W1.ms.getD cur 0) 1 (mf S cur 2)) (W1.ms.getD cur 0) 2 (-(nI 1))) (W1.ms.getD cur 0) 3 (-(nI 1))) (W1.ms.getD cur 0) 4 (nI 0)) (W1.ms.getD cur 0) 1 = mf S cur 2 := by
        rw [qsi_k (by decide), qsi_k (by decide), qsi_k (by decide), qsi_s]
      have l4 : Lw h1 (si (si (si (si h1 (W1.ms.getD cur 0) 1 (mf S cur 2)) (W1.ms.getD cur 0) 2 (-(nI 1))) (W1.ms.getD cur 0) 3 (-(nI 1))) (W1.ms.getD cur 0) 4 (nI 0)) := (((Oth.si h1 _ 1 _).lw hm2).trans ((Oth.si _ _ 2 _).lw hm2)).trans (((Oth.si _ _ 3 _).lw hm2).trans ((Oth.si _ _ 4 _).lw hm2))
      refine ⟨km, km, km, km, km, km, ?_⟩
      intro y24
      refine ⟨X4.rc, by omega, c_wNote X4 (hc1.md l4.md) (by omega) hne (fun h' v q X' f' hlw' _ => sq_X13_minute_93 ?_)⟩
      rw [nI_add]
      have RL : RkL (endU S cur) := RkL.congr ((agL_ly (by omega) (by omega)).trans ((agL_ly (by omega) (by omega)).trans ((agL_ly (by omega) (by omega)).trans (agL_ly (by omega) (by omega))))) RS.1
      have e19 := isN_19 (t := endS S cur) hlen19 (by omega) end_19
      refine ih (cur + 1) (c + 152) h' (W1.ev v (W1.es ++ [q])) (by omega) (by omega) ?_ ?_ ?_ hms ((hlw.trans l4).trans hlw')
      · rw [e]; exact X'.evs RL
      · rw [e, e19.2]
        show (W1.es ++ [q]).length = _
        rw [List.length_append, hes]; rfl
      · rw [e, e19.2]; omega
    · rw [X.f hk (show 3 < 6 by decide), show gi h1 w 6 = S 11 from X.i.2.1.2.2.2.2.2.2.1] at z3
      refine stay ?_ c (by omega)
      cases q : endC S cur
      · rfl
      · exact absurd (iff.mp q) z3
end
