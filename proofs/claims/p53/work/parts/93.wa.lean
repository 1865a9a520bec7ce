/-! ===== the law's World: a member changes ===== -/
section
variable {h h' : PH} {w k v g l j : Nat} {W : WN} {s s' : RW} {C E : Nat} {Q : Res → PH → Prop} {x y z : Int32} {es : List Nat}
theorem WOi.eq (X : WOi h w s) (hh : ∀ j, gi h' w j = gi h w j) (hk : qkd h' w = qkd h w) (e : ∀ i, i < 20 → s' i = s i) : WOi h' w s' := by
  obtain ⟨⟨i1, i2⟩, ⟨j0, j1, j2, j3, j4, j5, j6, j8, j15, j16, j17⟩, ip, iw, ie⟩ := X
  have ep : hasP s' = hasP s := by unfold hasP; rw [e 12 (by decide)]
  refine ⟨⟨hk.trans i1, i2⟩, ⟨?_, ?_, ?_, ?_, ?_, ?_, ?_, ?_, ?_, ?_, ?_⟩, fun z => ?_, fun z => ?_, fun z => ?_⟩
  · rw [hh, e _ (by decide)]; exact j0
  · rw [hh, e _ (by decide)]; exact j1
  · rw [hh, e _ (by decide)]; exact j2
  · rw [hh, e _ (by decide)]; exact j3
  · rw [hh, e _ (by decide)]; exact j4
  · rw [hh, e _ (by decide)]; exact j5
  · rw [hh, e _ (by decide)]; exact j6
  · rw [hh, e _ (by decide)]; exact j8
  · rw [hh, e _ (by decide)]; exact j15
  · rw [hh, e _ (by decide)]; exact j16
  · rw [hh, e _ (by decide)]; exact j17
  · rw [ep] at z
    obtain ⟨z1, z2, z3, z4⟩ := ip z
    exact ⟨by rw [hh, e _ (by decide)]; exact z1, by rw [hh, e _ (by decide)]; exact z2, by rw [hh, e _ (by decide)]; exact z3, by rw [hh, e _ (by decide)]; exact z4⟩
  · rw [e _ (by decide)] at z
    rw [hh, e _ (by decide)]; exact iw z
  · rw [e 12 (by decide), e 18 (by decide)] at z
    rw [hh, e _ (by decide)]; exact ie z
theorem WO.mb (X : WO h w W s) (h8 : nn (s 0) ≤ 8) (h5 : nn (s 1) ≤ 5) (hk : k < W.ms.length) (hj : j < 6) : WO (si h (W.ms.getD k 0) j x) w W (ups s (49 + 7 * k + j) x) := by
  have km := X.km hk
  have hm2 := (X.m.2.2.2 k hk).1
  have ne : ∀ {n g : Nat}, qkd h n = g → g ≠ 1 → n ≠ W.ms.getD k 0 := fun e1 e2 e3 => by rw [e3, km] at e1; exact e2 e1.symm
  have lo : ∀ i, i < 49 → ups s (49 + 7 * k + j) x i = s i := fun i hi => if_neg (by omega)
  have A : ∀ {n g : Nat} {i : Nat}, qkd h n = g → g ≠ 1 → gi (si h (W.ms.getD k 0) j x) n i = gi h n i := fun e1 e2 => qsi_a (ne e1 e2)
  obtain ⟨⟨a1, a2, a3⟩, ⟨b1, b2, b3⟩, ⟨c1, c2, c3⟩, ⟨d1, d2, d3⟩, ⟨e1, e2, e3⟩⟩ := X.a
  obtain ⟨m1, m2, m3, m4⟩ := X.m
  obtain ⟨n1, n2⟩ := X.e
  have al : ∀ {l v : Nat} {es : List Nat} {g : Nat}, AlQ h l v es g → AlQ (si h (W.ms.getD k 0) j x) l v es g := fun B => ⟨B.kl, B.va, (A B.kl (by decide)).trans B.sz, B.le, B.el, B.2.2.2.2.2⟩
  have mf6 : ∀ a, mf (ups s (49 + 7 * k + j) x) a 6 = mf s a 6 := fun a => if_neg (by omega)
  refine ⟨X.i.eq (fun i => A X.kw (by decide)) rfl (fun i hi => lo i (by omega)), X.r, ⟨⟨a1, a2, fun y hy => ?_⟩, ⟨b1, b2, fun y hy => ?_⟩, ⟨c1, c2, fun y hy => ?_⟩, ⟨d1, d2, fun y hy => ?_⟩, ⟨e1, e2, fun y hy => ?_⟩⟩, ⟨al m1, by rw [lo _ (by decide)]; exact m2, m3, fun y hy => ⟨(m4 y hy).1, fun i hi => ?_⟩⟩, ⟨al n1, n2⟩⟩
  · rw [lo _ (by decide)] at hy
    rw [A a1 (by decide), lo _ (by omega)]; exact a3 y hy
  · rw [lo _ (by decide)] at hy
    rw [A b1 (by decide), lo _ (by omega)]; exact b3 y hy
  · rw [lo _ (by decide)] at hy
    rw [A c1 (by decide), lo _ (by omega)]; exact c3 y hy
  · obtain ⟨z1, z2, z3, z4⟩ := d3 y hy
    refine ⟨z1, z2, z3, fun b hb ha => ?_⟩
    rw [lo _ (by decide)] at hb ha
    rw [A z2 (by decide), lo _ (by omega)]; exact z4 b hb ha
  · obtain ⟨z1, z2, z3, z4⟩ := e3 y hy
    refine ⟨z1, z2, z3, fun b hb ha => ?_⟩
    rw [lo _ (by decide)] at hb ha
    rw [A z2 (by decide), mf6]; exact z4 b hb ha
  · by_cases q : y = k
    · subst q
      by_cases q2 : i = j
      · subst q2
        rw [qsi_s]
        exact (if_pos rfl).symm
      · rw [qsi_k q2]
        exact ((m4 y hy).2 i hi).trans (if_neg (by omega)).symm
    · have hne : W.ms.getD y 0 ≠ W.ms.getD k 0 := by
        intro e
        rw [List.getD_eq_getElem?_getD, List.getD_eq_getElem?_getD, List.getElem?_eq_getElem hy, List.getElem?_eq_getElem hk] at e
        exact q ((List.getElem_inj m3).mp e)
      rw [qsi_a hne]
      exact ((m4 y hy).2 i hi).trans (if_neg (by omega)).symm
end
