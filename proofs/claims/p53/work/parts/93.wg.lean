/-! ===== the law's World: a minute, the stop by measures, the next wave ===== -/
section
variable {h h' h0 : PH} {w k v j : Nat} {W W0 : WN} {s s' t : RW} {C E : Nat} {Q : Res → PH → Prop} {x y z : Int32}
theorem n1_23 {P : Prop} : ¬ (nI 1 = nI 2 ∨ (nI 1 = nI 3 ∧ P)) := by rintro (z | ⟨z, -⟩) <;> exact absurd z (by decide)
theorem n4_23 {P : Prop} : ¬ (nI 4 = nI 2 ∨ (nI 4 = nI 3 ∧ P)) := by rintro (z | ⟨z, -⟩) <;> exact absurd z (by decide)
theorem WOi.pl (X : WOi h w s) (hk : qkd h' w = qkd h w) (g : ∀ j, j < 8 ∨ 15 ≤ j → gi h' w j = gi h w j) (e : ∀ i, i < 12 → t i = s i) (e8 : gi h' w 8 = t 12)
    (p : hasP t = true → gi h' w 9 = t 13 ∧ gi h' w 10 = t 14 ∧ gi h' w 11 = t 15 ∧ gi h' w 14 = t 17) (q : t 12 = nI 3 → gi h' w 13 = t 18) (r : t 12 = nI 2 ∨ (t 12 = nI 3 ∧ t 18 = nI 2) → gi h' w 12 = t 16) : WOi h' w t := by
  obtain ⟨⟨i1, i2⟩, ⟨j0, j1, j2, j3, j4, j5, j6, j8, j15, j16, j17⟩, -, -, -⟩ := X
  refine ⟨⟨hk.trans i1, i2⟩, ⟨?_, ?_, ?_, ?_, ?_, ?_, ?_, e8, ?_, ?_, ?_⟩, p, q, r⟩
  · rw [g _ (by decide), e _ (by decide)]; exact j0
  · rw [g _ (by decide), e _ (by decide)]; exact j1
  · rw [g _ (by decide), e _ (by decide)]; exact j2
  · rw [g _ (by decide), e _ (by decide)]; exact j3
  · rw [g _ (by decide), e _ (by decide)]; exact j4
  · rw [g _ (by decide), e _ (by decide)]; exact j5
  · rw [g _ (by decide), e _ (by decide)]; exact j6
  · rw [g _ (by decide), e _ (by decide)]; exact j15
  · rw [g _ (by decide), e _ (by decide)]; exact j16
  · rw [g _ (by decide), e _ (by decide)]; exact j17
theorem l_wStops (X : WO h w W s) (R : Rk C E s) (hE : E + 1 < 2 ^ 31) (hes : W.es.length = nn (s 19)) (hcap : nn (s 19) + 1 ≤ 1200) (hne : W.ms ≠ []) (hc : Kc h) {c : Nat} (hcc : c ≤ 912)
    (K : ∀ c h' W', c ≤ 1066 → WO h' w W' (if going s = true ∧ over s = true then stopS s else s) → W'.es.length = nn ((if going s = true ∧ over s = true then stopS s else s) 19) → nn ((if going s = true ∧ over s = true then stopS s else s) 19) ≤ nn (s 19) + 1 → W'.ms = W.ms → Lw h h' → Bt mq_X13_minute Q 129 c [some (.ref w), none, none, none] [] h') :
    Bt mq_X13_minute Q 12 c [some (.ref w), some (.int (nI (nn (s 2)))), none, none] [] h := by
  have hl := X.m.2.1
  have hle := X.al.le
  have n0 : (nI 0).toNatClampNeg = 0 := nI_clamp (by decide)
  have n1 : (nI 1).toNatClampNeg = 1 := nI_clamp (by decide)
  refine sq_X13_minute_12 ⟨X.kw, g3 X.r.2.2.2.2.2.1 ⟨X.al.rc, c_lsize X.al (fun _ => ⟨fun _ => ⟨X.rc, by omega, c_wMeas X R (fun h1 q f1 l1 kq lq hv _ => ?_)⟩, fun z => ?_⟩)⟩⟩
  · have X1 := X.f0 f1 l1.md
    refine ⟨X1.rc, c_wGoing X1 (fun _ => ⟨fun z => ?_, fun z => ?_⟩)⟩
    · have e : ¬ (going s = true ∧ over s = true) := fun y => by rw [b2i_0.mp z] at y; cases y.1
      rw [if_neg e] at K
      exact K (c + 2) h1 W (by omega) X1 hes (by omega) rfl l1
    · have hg : going s = true := by
        cases e : going s
        · exact absurd (b2i_0.mpr e) z
        · rfl
      obtain ⟨v0, v1⟩ := hv (hasP_going hg)
      have vi : ∀ i, i < 2 → vp_in (nI i) (qln h1 q) := fun i hi => by rw [lq]; exact vp_in_nI hi (by decide)
      rw [n0, n1]
      refine ⟨Or.inl kq, vi 1 (by decide), X1.kw, Or.inl kq, vi 0 (by decide), ?_⟩
      rw [v0, v1, show gi h1 w 5 = s 10 from X1.i.2.1.2.2.2.2.2.1]
      refine ⟨fun z2 => ?_, fun z2 => ⟨X1.rc, by omega, c_wStop X1 hg (hc.md l1.md) (by omega) hne (fun h' v q X' f' hlw' _ => ?_)⟩⟩
      · have e : ¬ (going s = true ∧ over s = true) := fun y => by
          have := y.2
          unfold over at this
          rw [decide_eq_true z2] at this
          cases this
        rw [if_neg e] at K
        exact K (c + 2) h1 W (by omega) X1 hes (by omega) rfl l1
      · have e : going s = true ∧ over s = true := ⟨hg, by unfold over; rw [decide_eq_false z2]; rfl⟩
        rw [if_pos e] at K
        have RL : RkL (ups (ups s 18 (s 12)) 12 (nI 3)) := RkL.congr ((agL_up (by omega)).trans (agL_up (by omega))) R.1
        have e19 : stopS s 19 = s 19 + nI 1 := by
          unfold stopS
          rw [evS_19, ups_n (by omega), ups_n (by omega)]
        have e19 := isN_19 (t := stopS s) R.2.2.2 hE e19
        refine K (c + 2 + 152) h' _ (by omega) (X'.evs RL) ?_ (by rw [e19.2]; omega) rfl (l1.trans hlw')
        rw [e19.2]
        show (W.es ++ [q]).length = _
        rw [List.length_append, hes]; rfl
  · exact absurd (nI_le (a := W.ms.length) (b := nn (s 2)) (by omega) (by omega)) z
theorem l_wNext (X : WO h w W s) (R : Rk C E s) (hC : C < 2 ^ 30) (hE : E + 1 < 2 ^ 31) (hes : W.es.length = nn (s 19)) (hcap : nn (s 19) + 1 ≤ 1200) (hne : W.ms ≠ []) (hc : Kc h) {c : Nat} (hcc : c ≤ 1066)
    (K : ∀ c h' W', c ≤ 1218 → WO h' w W' (if s 12 = nI 2 ∧ ¬ s 11 < s 16 then nextS s else s) → W'.es.length = nn ((if s 12 = nI 2 ∧ ¬ s 11 < s 16 then nextS s else s) 19) → nn ((if s 12 = nI 2 ∧ ¬ s 11 < s 16 then nextS s else s) 19) ≤ nn (s 19) + 1 → W'.ms = W.ms → Lw h h' → Bt mq_X13_minute Q 227 c [some (.ref w), none, none, none] [] h') :
    Bt mq_X13_minute Q 129 c [some (.ref w), none, none, none] [] h := by
  have hw2 := X.i.1.2
  have j8 : gi h w 8 = s 12 := X.i.2.1.2.2.2.2.2.2.2.1
  have j6 : gi h w 6 = s 11 := X.i.2.1.2.2.2.2.2.2.1
  have j17 : gi h w 17 = s 3 := X.i.2.1.2.2.2.2.2.2.2.2.2.2
  refine sq_X13_minute_129 ⟨X.kw, ?_⟩
  rw [j8, j6]
  have no : ¬ (s 12 = nI 2 ∧ ¬ s 11 < s 16) → Bt mq_X13_minute Q 227 c [some (.ref w), none, none, none] [] h := fun e => by
    rw [if_neg e] at K
    exact K c h W (by omega) X hes (by omega) rfl (Lw.refl h)
  refine ⟨fun z => no (fun y => z y.1), fun z => ⟨X.kw, X.kw, ?_⟩⟩
  have j12 : gi h w 12 = s 16 := X.i.2.2.2.2 (Or.inl z)
  rw [j12]
  refine ⟨fun z2 => no (fun y => y.2 z2), fun z2 => ⟨X.kw, X.kw, ⟨rfl, rfl⟩, X.kw, X.kw, ?_⟩⟩
  have hp := hasP_t z (by decide) (by decide)
  obtain ⟨p9, p10, p11, p14⟩ := X.i.2.2.1 hp
  have tu := R.2.2.1.tu hp
  have w3 := R.1.w
  have se := (R.2.2.1.se hp).1
  have ta := (R.2.2.1.ta hp).1
  rw [if_pos ⟨z, z2⟩] at K
  have e11 : gi (si h w 8 (nI 1)) w 11 = s 15 := (qsi_k (by decide)).trans p11
  have lo : ∀ i, i < 12 → nextU s i = s i := fun i hi => by unfold nextU; rw [ups_n (by omega), ups_n (by omega)]
  have lo2 : ∀ i, 18 < i → nextU s i = s i := fun i hi => by unfold nextU; rw [ups_n (by omega), ups_n (by omega)]
  have u12 : nextU s 12 = nI 1 := ups_s
  have u15 : nextU s 15 = s 15 + nI 1 := by unfold nextU; rw [ups_n (by omega), ups_s]
  have u13 : nextU s 13 = s 13 := by unfold nextU; rw [ups_n (by omega), ups_n (by omega)]
  have u14 : nextU s 14 = s 14 := by unfold nextU; rw [ups_n (by omega), ups_n (by omega)]
  have u17 : nextU s 17 = s 17 := by unfold nextU; rw [ups_n (by omega), ups_n (by omega)]
  rw [e11]
  have g2 : ∀ j, j ≠ 8 → j ≠ 11 → gi (si (si h w 8 (nI 1)) w 11 (s 15 + nI 1)) w j = gi h w j := fun j a b => (qsi_k b).trans (qsi_k a)
  have g28 : gi (si (si h w 8 (nI 1)) w 11 (s 15 + nI 1)) w 8 = nI 1 := (qsi_k (by decide)).trans qsi_s
  have l2 : Lw h (si (si h w 8 (nI 1)) w 11 (s 15 + nI 1)) := ((Oth.si h w 8 _).lw hw2).trans ((Oth.si _ w 11 _).lw hw2)
  have f2 : FmQ [w] h (si (si h w 8 (nI 1)) w 11 (s 15 + nI 1)) := (FmQ.si (a := w)).trans (FmQ.si (a := w)) (fun n hn _ => hn)
  rw [show gi (si (si h w 8 (nI 1)) w 11 (s 15 + nI 1)) w 17 = s 3 from (g2 17 (by decide) (by decide)).trans j17]
  have sum15 : s 15 + nI 1 = nI (nn (s 15) + 1) := by rw [tu.1.1, nn_nI (by have := tu.1.2; omega), nI_add]
  refine ⟨fun z3 => ?_, fun z3 => ⟨X.kw, X.kw, ?_⟩⟩
  · have hlt : nn (s 15) + 1 < nn (s 3) := by
      rcases Nat.lt_or_ge (nn (s 15) + 1) (nn (s 3)) with q | q
      · exact q
      · exfalso
        apply z3
        rw [sum15, w3.1]
        exact congrArg nI (by omega)
    have en : nextS s = nextU s := by unfold nextS; rw [if_pos hlt]
    rw [en] at K
    refine K c _ W (by omega) (X.sc f2 l2.md (fun _ => rfl) (X.i.pl rfl (fun j hj => g2 j (by omega) (by omega)) lo (g28.trans u12.symm) (fun _ => ⟨?_, ?_, ?_, ?_⟩) (fun y => ?_) (fun y => ?_)) (fun j hj => ?_)) (by rw [lo2 19 (by decide)]; exact hes) (by rw [lo2 19 (by decide)]; omega) rfl l2
    · rw [g2 9 (by decide) (by decide), u13]; exact p9
    · rw [g2 10 (by decide) (by decide), u14]; exact p10
    · rw [u15]; exact qsi_s
    · rw [g2 14 (by decide) (by decide), u17]; exact p14
    · rw [u12] at y; exact absurd y (by decide)
    · rw [u12] at y; exact absurd y n1_23
    · rcases (by omega : j < 12 ∨ 18 < j) with q | q
      · exact lo j q
      · exact lo2 j q
  · have hge : ¬ nn (s 15) + 1 < nn (s 3) := fun q => by
      rw [sum15, w3.1, nI_eq (by have := w3.2; omega) (by have := w3.2; omega)] at z3
      omega
    intro y11
    refine ⟨X.kw, ?_⟩
    intro y12
    have ey11 : y11 = s 14 := by
      show gi (si (si (si h w 8 (nI 1)) w 11 (s 15 + nI 1)) w 11 (nI 0)) w 10 = _
      rw [qsi_k (by decide), g2 10 (by decide) (by decide), p10]
    have ey12 : y12 = s 13 := by
      show gi (si (si (si h w 8 (nI 1)) w 11 (s 15 + nI 1)) w 11 (nI 0)) w 9 = _
      rw [qsi_k (by decide), g2 9 (by decide) (by decide), p9]
    have g3' : ∀ j, j ≠ 8 → j ≠ 11 → gi (si (si (si h w 8 (nI 1)) w 11 (s 15 + nI 1)) w 11 (nI 0)) w j = gi h w j := fun j a b => (qsi_k b).trans (g2 j a b)
    have g38 : gi (si (si (si h w 8 (nI 1)) w 11 (s 15 + nI 1)) w 11 (nI 0)) w 8 = nI 1 := (qsi_k (by decide)).trans g28
    have g311 : gi (si (si (si h w 8 (nI 1)) w 11 (s 15 + nI 1)) w 11 (nI 0)) w 11 = nI 0 := qsi_s
    have l3 : Lw h (si (si (si h w 8 (nI 1)) w 11 (s 15 + nI 1)) w 11 (nI 0)) := l2.trans ((Oth.si _ w 11 _).lw hw2)
    have f3 : FmQ [w] h (si (si (si h w 8 (nI 1)) w 11 (s 15 + nI 1)) w 11 (nI 0)) := f2.trans (FmQ.si (a := w)) (fun n hn _ => hn)
    have r3 : ∀ j, gr (si (si (si h w 8 (nI 1)) w 11 (s 15 + nI 1)) w 11 (nI 0)) w j = gr h w j := fun _ => rfl
    have k3 : qkd (si (si (si h w 8 (nI 1)) w 11 (s 15 + nI 1)) w 11 (nI 0)) w = 2 := X.kw
    clear_value y11 y12
    subst ey11 ey12
    generalize si (si (si h w 8 (nI 1)) w 11 (s 15 + nI 1)) w 11 (nI 0) = g at g3' g38 g311 l3 f3 r3 k3 ⊢
    refine ⟨fun z4 => ⟨k3, ?_⟩, fun z4 => ⟨k3, ?_⟩⟩
    · intro y13
      refine ⟨k3, ?_⟩
      intro y14
      have ey13 : y13 = s 14 := (g3' 10 (by decide) (by decide)).trans p10
      have ey14 : y14 = s 17 := (g3' 14 (by decide) (by decide)).trans p14
      clear_value y13 y14
      subst ey13 ey14
      have en : ∀ d, (if s 17 = nI 1 then nI 1 else -(nI 1)) = d → nextS s = ups (ups (nextU s) 15 (nI 0)) 14 (s 14 + d) := fun d hd => by unfold nextS; rw [if_neg hge, if_neg z4, hd]
      have fin : ∀ d, (if s 17 = nI 1 then nI 1 else -(nI 1)) = d → Bt mq_X13_minute Q 227 c [some (.ref w), none, none, none] [] (si g w 10 (s 14 + d)) := by
        intro d hd
        rw [en d hd] at K
        have q : ∀ i, i ≠ 14 → i ≠ 15 → (ups (ups (nextU s) 15 (nI 0)) 14 (s 14 + d)) i = nextU s i := fun i a b => (ups_n a).trans (ups_n b)
        refine K c _ W (by omega) (X.sc (f3.trans (FmQ.si (a := w)) (fun n hn _ => hn)) (l3.trans ((Oth.si _ w 10 _).lw hw2)).md (fun j => r3 j) (X.i.pl (k3.trans X.kw.symm) (fun j hj => (qsi_k (by omega)).trans (g3' j (by omega) (by omega))) (fun i hi => (q i (by omega) (by omega)).trans (lo i hi)) (((qsi_k (by decide)).trans g38).trans ((q 12 (by decide) (by decide)).trans u12).symm) (fun _ => ⟨?_, ?_, ?_, ?_⟩) (fun y => ?_) (fun y => ?_)) (fun j hj => ?_)) (by rw [q 19 (by decide) (by decide), lo2 19 (by decide)]; exact hes) (by rw [q 19 (by decide) (by decide), lo2 19 (by decide)]; omega) rfl (l3.trans ((Oth.si _ w 10 _).lw hw2))
        · rw [qsi_k (by decide), g3' 9 (by decide) (by decide), q 13 (by decide) (by decide), u13]; exact p9
        · rw [qsi_s, ups_s]
        · rw [qsi_k (by decide), g311, ups_n (by decide), ups_s]
        · rw [qsi_k (by decide), g3' 14 (by decide) (by decide), q 17 (by decide) (by decide), u17]; exact p14
        · rw [q 12 (by decide) (by decide), u12] at y; exact absurd y (by decide)
        · rw [q 12 (by decide) (by decide), u12] at y; exact absurd y n1_23
        · rw [q j (by omega) (by omega)]
          rcases (by omega : j < 12 ∨ 18 < j) with q | q
          · exact lo j q
          · exact lo2 j q
      refine ⟨fun z5 => ⟨k3, ?_⟩, fun z5 => ⟨k3, ?_⟩⟩
      · intro h15
        exact fin _ (if_neg (fun q => by rw [z5] at q; exact absurd q (by decide)))
      · intro h16
        have e17 : s 17 = nI 1 := by
          rcases R.2.2.1.dr hp with q | q
          · exact q.1
          · exact absurd q.1 z5
        exact fin _ (if_pos e17)
    · intro h17
      have en : nextS s = doneS (ups (nextU s) 15 (nI 0)) := by unfold nextS; rw [if_neg hge, if_pos z4]
      rw [en] at K
      have q : ∀ i, i ≠ 12 → i ≠ 15 → (ups (ups (nextU s) 15 (nI 0)) 12 (nI 4)) i = nextU s i := fun i a b => (ups_n a).trans (ups_n b)
      have q12 : (ups (ups (nextU s) 15 (nI 0)) 12 (nI 4)) 12 = nI 4 := ups_s
      have hpf : hasP (ups (ups (nextU s) 15 (nI 0)) 12 (nI 4)) = false := by unfold hasP; rw [q12]; decide
      have l4 : Lw h h17 := l3.trans ((Oth.si _ w 8 _).lw hw2)
      have X4 : WO h17 w W (ups (ups (nextU s) 15 (nI 0)) 12 (nI 4)) := X.sc (f3.trans (FmQ.si (a := w)) (fun n hn _ => hn)) l4.md (fun j => r3 j) (X.i.pl (k3.trans X.kw.symm) (fun j hj => (qsi_k (by omega)).trans (g3' j (by omega) (by omega))) (fun i hi => (q i (by omega) (by omega)).trans (lo i hi)) (qsi_s.trans q12.symm) (fun y => by rw [hpf] at y; cases y) (fun y => by rw [q12] at y; exact absurd y (by decide)) (fun y => by rw [q12] at y; exact absurd y n4_23)) (fun j hj => by
        rw [q j (by omega) (by omega)]
        rcases (by omega : j < 12 ∨ 18 < j) with q | q
        · exact lo j q
        · exact lo2 j q)
      have RL : RkL (ups (ups (nextU s) 15 (nI 0)) 12 (nI 4)) := RkL.congr (fun j hj => by
        rw [q j (by omega) (by omega)]
        rcases (by omega : j < 12 ∨ 18 < j) with q | q
        · exact lo j q
        · exact lo2 j q) R.1
      have e19 : doneS (ups (nextU s) 15 (nI 0)) 19 = s 19 + nI 1 := by
        unfold doneS
        rw [evS_19, q 19 (by decide) (by decide), lo2 19 (by decide)]
      have e19 := isN_19 (t := doneS (ups (nextU s) 15 (nI 0))) R.2.2.2 hE e19
      refine ⟨X4.kw, X4.rc, by omega, c_wNote X4 (hc.md l4.md) (by omega) hne (fun h' v q X' f' hlw' _ => ?_)⟩
      refine K (c + 152) h' _ (by omega) (X'.evs RL) ?_ (by rw [e19.2]; omega) rfl (l4.trans hlw')
      rw [e19.2]
      show (W.es ++ [q]).length = _
      rw [List.length_append, hes]; rfl
end
