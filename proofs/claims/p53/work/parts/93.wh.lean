/-! ===== the law's World: a minute, the changes that begin, the wave that soaks ===== -/
section
variable {h h' h0 : PH} {w k v j : Nat} {W W0 : WN} {s s' t : RW} {C E : Nat} {Q : Res → PH → Prop} {x y z : Int32}
theorem whyN_0 (e : whyN s k v = 0) : mf s k 5 ≠ nI 1 ∧ isD s k = false := by
  unfold whyN at e
  split at e
  · cases e
  · rename_i q
    split at e
    · cases e
    · rename_i q2
      refine ⟨q, ?_⟩
      cases z : isD s k
      · rfl
      · exact absurd z q2
theorem wv_no (R : Rk C E s) (hp : hasP s = true) {m : Nat} (h : ofW s m (s 15) = true) : (free s m = decide (mf s m 5 = 0)) := by
  unfold free
  rw [ofW_plnd R hp h, Bool.true_and]
theorem l_wRoll (R : Rk C E s) (hp : hasP s = true) (hC : C < 2 ^ 30) (hE : E + 14 < 2 ^ 31) (h6 : nn (s 2) ≤ 6) (hcap : nn (s 19) + 6 ≤ 1200) (hc0 : Kc h0)
    (K : ∀ c h' W', c ≤ 1218 + 153 * nn (s 2) → WO h' w W' (rolA (nn (s 2)) s) → W'.es.length = nn (rolA (nn (s 2)) s 19) → nn (rolA (nn (s 2)) s 19) ≤ nn (s 19) + nn (s 2) → W'.ms = W0.ms → Lw h0 h' → Bt mq_X13_minute Q 302 c [some (.ref w), none, some (.int (nI 1)), some (.int (nI 0))] [] h') :
    ∀ n cur c h1 W1, cur + n = nn (s 2) → c ≤ 1218 + 153 * cur → WO h1 w W1 (rolA cur s) → W1.es.length = nn (rolA cur s 19) → nn (rolA cur s 19) ≤ nn (s 19) + cur → W1.ms = W0.ms → Lw h0 h1 → Bt mq_X13_minute Q 240 c [some (.ref w), none, some (.int (nI 1)), some (.int (nI cur))] [] h1 := by
  intro n
  induction n with
  | zero =>
    intro cur c h1 W1 hc hcc X hes hle hms hlw
    have e : cur = nn (s 2) := by omega
    have hl := X.m.2.1
    have e2 : rolA cur s 2 = s 2 := (rolA_agL cur).n2
    rw [e2] at hl
    refine sq_X13_minute_240 ⟨X.kw, g3 X.r.2.2.2.2.2.1 ⟨X.al.rc, c_lsize X.al (fun _ => ⟨fun _ => ?_, fun z => ?_⟩)⟩⟩
    · rw [e] at hcc X hes hle
      exact K c h1 W1 hcc X hes hle hms hlw
    · exact absurd (nI_le (a := W1.ms.length) (b := cur) (by omega) (by omega)) z
  | succ n ih =>
    intro cur c h1 W1 hc hcc X hes hle hms hlw
    have hcur : cur < nn (s 2) := by omega
    have RS : Rk C (E + cur) (rolA cur s) := R.rolA hC (by omega) hp cur (by omega)
    have e2 : rolA cur s 2 = s 2 := (rolA_agL cur).n2
    have e12 : rolA cur s 12 = s 12 := rolA_lo cur 12 (by decide) (by decide)
    have e14 : rolA cur s 14 = s 14 := rolA_lo cur 14 (by decide) (by decide)
    have hpS : hasP (rolA cur s) = true := (hasP_of e12).trans hp
    have tt : rolC (rolA cur s) cur = true → rolA (cur + 1) s = begS (rolA cur s) cur (s 14) := fun z => (rolA_t z).1
    have tf : rolC (rolA cur s) cur = false → rolA (cur + 1) s = rolA cur s := fun z => (rolA_f z).1
    generalize rolA cur s = S at *
    have hl := X.m.2.1
    rw [e2] at hl
    have hk : cur < W1.ms.length := by omega
    have hkS : cur < nn (S 2) := by rw [e2]; exact hcur
    have hc1 : Kc h1 := hc0.md hlw.md
    have hne : W1.ms ≠ [] := fun e => by rw [e] at hk; cases hk
    have stay : rolC S cur = false → ∀ c' h2, c' ≤ 1218 + 153 * cur + 153 → FmQ [] h1 h2 → Lw h1 h2 → Bt mq_X13_minute Q 294 c' [some (.ref w), none, some (.int (nI 1)), some (.int (nI cur))] [] h2 := by
      intro z c' h2 hc' f2 l2
      refine sq_X13_minute_294 ?_
      rw [nI_add]
      have e := tf z
      exact ih (cur + 1) c' h2 W1 (by omega) (by omega) (by rw [e]; exact X.f0 f2 l2.md) (by rw [e]; exact hes) (by rw [e]; omega) hms (hlw.trans l2)
    obtain ⟨p9, p10, p11, p14⟩ := X.i.2.2.1 hpS
    have se := (RS.2.2.1.se hpS)
    refine sq_X13_minute_240 ⟨X.kw, g3 X.r.2.2.2.2.2.1 ⟨X.al.rc, c_lsize X.al (fun _ => ⟨fun z => absurd z (nI_ge hk (by omega)), fun _ => ⟨X.rc, c_wWave X RS.1 hk (fun _ => ⟨X.kw, ?_⟩)⟩⟩)⟩⟩
    rw [p11]
    refine ⟨fun z => stay ?_ c h1 (by omega) (FmQ.refl h1) (Lw.refl h1), fun z => ⟨X.kw, X.rc, by omega, ?_⟩⟩
    · unfold rolC ofW
      rw [decide_eq_false z, Bool.false_and]
    · have how : ofW S cur (S 15) = true := by unfold ofW; rw [decide_eq_true z]
      rw [p10, se.1.1]
      refine c_wWhy X RS hk se.2 (fun h2 f2 l2 _ => ?_)
      have X2 := X.f0 f2 l2.md
      have hwl : whyN S cur (nn (S 14)) ≤ 7 := whyN_le
      refine ⟨fun z2 => stay ?_ (c + 1) h2 (by omega) f2 l2, fun z2 => ⟨X2.rc, c_wReady X2 RS hpS hk (fun _ => ⟨fun z3 => stay ?_ (c + 1) h2 (by omega) f2 l2, fun z3 => ⟨X2.kw, X2.rc, by omega, ?_⟩⟩)⟩⟩
      · have : ¬ whyN S cur (nn (S 14)) = 0 := fun q => z2 (by rw [q]; rfl)
        unfold rolC
        rw [decide_eq_false this, Bool.and_false, Bool.and_false, Bool.and_false, Bool.and_false]
      · have hr : rdy S cur = true := by
          cases q : rdy S cur
          · exact absurd (b2i_0.mpr q) z3
          · rfl
        unfold rolC
        rw [hr]
        simp
      · have hw0 : whyN S cur (nn (S 14)) = 0 := (nI_eq (a := whyN S cur (nn (S 14))) (b := 0) (by omega) (by decide)).mp z2
        obtain ⟨q5, qd⟩ := whyN_0 hw0
        have hr := b2i_0.mp z3
        have hf : free S cur = true := by
          rw [wv_no RS hpS how, he_b RS hkS, decide_eq_false q5]; rfl
        have hrc : rolC S cur = true := by
          unfold rolC
          rw [how, hf, qd, hr, decide_eq_true hw0]; rfl
        have e := tt hrc
        obtain ⟨-, p10', -, -⟩ := X2.i.2.2.1 hpS
        rw [p10']
        refine c_wBegin X2 RS.v.2 RS.p.2 hk (hc1.md l2.md) (by omega) (fun h' v9 q X' f' hlw' _ => sq_X13_minute_294 ?_)
        rw [nI_add]
        have RL : RkL (ups (ups S (49 + 7 * cur + 2) (S 14)) (49 + 7 * cur + 3) (S 11 + S 8)) := RkL.congr ((agL_ly (m := cur) (w := 2) (by omega) (by omega)).trans (agL_ly (m := cur) (w := 3) (by omega) (by omega))) RS.1
        have e19 := isN_19 (t := begS S cur (s 14)) RS.2.2.2 (by omega) beg_19
        refine ih (cur + 1) (c + 1 + 152) h' (W1.ev v9 (W1.es ++ [q])) (by omega) (by omega) ?_ ?_ ?_ hms ((hlw.trans l2).trans hlw')
        · rw [e, ← e14]; exact X'.evs RL
        · rw [e, e19.2]
          show (W1.es ++ [q]).length = _
          rw [List.length_append, hes]; rfl
        · rw [e, e19.2]; omega
theorem l_wSoak (X : WO h w W s) (R : Rk C E s) (hp : hasP s = true) (hE : E + 1 < 2 ^ 31) (hes : W.es.length = nn (s 19)) (hcap : nn (s 19) + 1 ≤ 1200) (hne : W.ms ≠ []) (hc : Kc h) {c : Nat} (hcc : c ≤ 2136)
    (K : ∀ h' W', WO h' w W' (if cmpl s = true then soakS s else s) → W'.es.length = nn ((if cmpl s = true then soakS s else s) 19) → W'.ms = W.ms → Lw h h' → Q (.inl none) h') :
    ∀ n cur b, cur + n = nn (s 2) → b = allN cur (fun m => !ofW s m (s 15) || (!free s m || rdy s m)) → Bt mq_X13_minute Q 302 c [some (.ref w), none, some (.int (b2i b)), some (.int (nI cur))] [] h := by
  have hl := X.m.2.1
  have hle := X.al.le
  have hw2 := X.i.1.2
  obtain ⟨p9, p10, p11, p14⟩ := X.i.2.2.1 hp
  intro n
  induction n with
  | zero =>
    intro cur b hc1 hb
    have e : cur = nn (s 2) := by omega
    rw [e] at hb ⊢
    have hb : b = cmpl s := hb
    refine sq_X13_minute_302 ⟨X.kw, g3 X.r.2.2.2.2.2.1 ⟨X.al.rc, c_lsize X.al (fun _ => ⟨fun _ => ⟨fun z => ?_, fun z => ?_⟩, fun z => ?_⟩)⟩⟩
    · have hcm : cmpl s = true := by
        rw [← hb]
        cases q : b
        · exact absurd (b2i_0.mpr q) z
        · rfl
      rw [if_pos hcm] at K
      refine ⟨X.kw, X.kw, X.kw, X.kw, ?_⟩
      intro h14
      have j6 : gi (si h w 8 (nI 2)) w 6 = s 11 := (qsi_k (by decide)).trans X.i.2.1.2.2.2.2.2.2.1
      have j4 : gi (si h w 8 (nI 2)) w 4 = s 9 := (qsi_k (by decide)).trans X.i.2.1.2.2.2.2.1
      have e14 : h14 = si (si h w 8 (nI 2)) w 12 (s 11 + s 9) := by
        show si (si h w 8 (nI 2)) w 12 (gi (si h w 8 (nI 2)) w 6 + gi (si h w 8 (nI 2)) w 4) = _
        rw [j6, j4]
      clear_value h14
      subst e14
      have l4 : Lw h (si (si h w 8 (nI 2)) w 12 (s 11 + s 9)) := ((Oth.si h w 8 _).lw hw2).trans ((Oth.si _ w 12 _).lw hw2)
      have q : ∀ i, i ≠ 12 → i ≠ 16 → (ups (ups s 12 (nI 2)) 16 (s 11 + s 9)) i = s i := fun i a b => (ups_n b).trans (ups_n a)
      have q12 : (ups (ups s 12 (nI 2)) 16 (s 11 + s 9)) 12 = nI 2 := (ups_n (by decide)).trans ups_s
      have g2 : ∀ j, j ≠ 8 → j ≠ 12 → gi (si (si h w 8 (nI 2)) w 12 (s 11 + s 9)) w j = gi h w j := fun j a b => (qsi_k b).trans (qsi_k a)
      have X4 : WO (si (si h w 8 (nI 2)) w 12 (s 11 + s 9)) w W (ups (ups s 12 (nI 2)) 16 (s 11 + s 9)) := X.sc ((FmQ.si (a := w)).trans (FmQ.si (a := w)) (fun n hn _ => hn)) l4.md (fun _ => rfl) (X.i.pl rfl (fun j hj => g2 j (by omega) (by omega)) (fun i hi => q i (by omega) (by omega)) (((qsi_k (by decide)).trans qsi_s).trans q12.symm) (fun _ => ⟨?_, ?_, ?_, ?_⟩) (fun y => by rw [q12] at y; exact absurd y (by decide)) (fun _ => qsi_s.trans ups_s.symm)) (fun j hj => q j (by omega) (by omega))
      · have RL : RkL (ups (ups s 12 (nI 2)) 16 (s 11 + s 9)) := RkL.congr ((agL_up (by omega)).trans (agL_up (by omega))) R.1
        have e19 : soakS s 19 = s 19 + nI 1 := by
          unfold soakS
          rw [evS_19, q 19 (by decide) (by decide)]
        have e19 := isN_19 (t := soakS s) R.2.2.2 hE e19
        refine ⟨X4.kw, X4.rc, by omega, c_wNote X4 (hc.md l4.md) (by omega) hne (fun h' v q X' f' hlw' _ => K h' _ (X'.evs RL) ?_ rfl (l4.trans hlw'))⟩
        rw [e19.2]
        show (W.es ++ [q]).length = _
        rw [List.length_append, hes]; rfl
      · rw [g2 9 (by decide) (by decide), q 13 (by decide) (by decide)]; exact p9
      · rw [g2 10 (by decide) (by decide), q 14 (by decide) (by decide)]; exact p10
      · rw [g2 11 (by decide) (by decide), q 15 (by decide) (by decide)]; exact p11
      · rw [g2 14 (by decide) (by decide), q 17 (by decide) (by decide)]; exact p14
    · have hcm : ¬ cmpl s = true := by
        rw [← hb, b2i_0.mp z]; decide
      rw [if_neg hcm] at K
      exact K h W X hes rfl (Lw.refl h)
    · exact absurd (nI_le (a := W.ms.length) (b := nn (s 2)) (by omega) (by omega)) z
  | succ n ih =>
    intro cur b hc1 hb
    have hk : cur < W.ms.length := by omega
    have hk2 : cur < nn (s 2) := by omega
    have no : b = false ∨ (!ofW s cur (s 15) || (!free s cur || rdy s cur)) = false → Bt mq_X13_minute Q 362 c [some (.ref w), none, none, some (.int (nI cur))] [] h := by
      intro z
      refine sq_X13_minute_362 ?_
      rw [nI_add]
      refine ih (cur + 1) false (by omega) ?_
      rw [allN, ← hb]
      rcases z with z | z
      · rw [z, Bool.false_and]
      · rw [z, Bool.and_false]
    have yes : b = true → (!ofW s cur (s 15) || (!free s cur || rdy s cur)) = true → Bt mq_X13_minute Q 358 c [some (.ref w), none, none, some (.int (nI cur))] [] h := by
      intro z z2
      refine sq_X13_minute_358 ?_
      rw [nI_add]
      refine ih (cur + 1) true (by omega) ?_
      rw [allN, ← hb, z, z2]; rfl
    refine sq_X13_minute_302 ⟨X.kw, g3 X.r.2.2.2.2.2.1 ⟨X.al.rc, c_lsize X.al (fun _ => ⟨fun z => absurd z (nI_ge hk (by omega)), fun _ => ⟨fun z => no (Or.inl (b2i_0.mp z)), fun z => ⟨X.rc, c_wWave X R.1 hk (fun _ => ⟨X.kw, ?_⟩)⟩⟩⟩)⟩⟩
    have hbt : b = true := by
      cases q : b
      · exact absurd (b2i_0.mpr q) z
      · rfl
    rw [p11]
    refine ⟨fun z2 => yes hbt ?_, fun z2 => ⟨X.kw, g3 X.r.2.2.2.2.2.1 ⟨X.al.rc, c_get X.al hk (fun _ => ⟨X.km hk, X.km hk, ?_⟩)⟩⟩⟩
    · unfold ofW; rw [decide_eq_false z2]; rfl
    · have how : ofW s cur (s 15) = true := by unfold ofW; rw [decide_eq_true z2]
      have hfr := wv_no R hp how
      rw [X.f hk (show 5 < 6 by decide)]
      refine ⟨fun z3 => yes hbt ?_, fun z3 => ⟨X.rc, c_wReady X R hp hk (fun _ => ⟨fun z4 => no (Or.inr ?_), fun z4 => yes hbt ?_⟩)⟩⟩
      · rw [hfr, decide_eq_false z3]; simp
      · rw [hfr, decide_eq_true z3, how, b2i_0.mp z4]; rfl
      · have hr : rdy s cur = true := by
          cases q : rdy s cur
          · exact absurd (b2i_0.mpr q) z4
          · rfl
        rw [hr]; simp
end
section
variable {h h' h0 : PH} {w k v j : Nat} {W W0 : WN} {s s' t : RW} {C E : Nat} {Q : Res → PH → Prop} {x y z : Int32}
theorem Rk.own (R : Rk C E s) : Rk C (nn (s 19)) s := ⟨R.1, R.2.1, R.2.2.1, R.2.2.2.1, Nat.le_refl _⟩
theorem c_wMinute (X : WO h w W s) (R : Rk C E s) (hC : C < 2 ^ 29) (h6 : nn (s 2) ≤ 6) (hes : W.es.length = nn (s 19)) (hcap : nn (s 19) + 15 ≤ 1200) (hne : W.ms ≠ []) (hc : Kc h)
    (K : ∀ h' W', WO h' w W' (minS s) → W'.es.length = nn (minS s 19) → nn (minS s 19) ≤ nn (s 19) + 15 → W'.ms = W.ms → Lw h h' → Q (.inl none) h') : MetQ mq_X13_minute [.ref w] h Q := by
  have R0 := R.own
  have hw2 := X.i.1.2
  have RT := R0.tick (show C < 2 ^ 30 by omega)
  have lo : ∀ i, i ≠ 11 → (ups s 11 (s 11 + nI 1)) i = s i := fun i hi => ups_n hi
  have l1 : Lw h (si h w 6 (s 11 + nI 1)) := (Oth.si h w 6 _).lw hw2
  have j6 : gi h w 6 = s 11 := X.i.2.1.2.2.2.2.2.2.1
  have ht : hasP (ups s 11 (s 11 + nI 1)) = hasP s := hasP_of (lo 12 (by decide))
  have X1 : WO (si h w 6 (s 11 + nI 1)) w W (ups s 11 (s 11 + nI 1)) := by
    obtain ⟨⟨i1, i2⟩, ⟨j0, j1, j2, j3, j4, j5, j6, j8, j15, j16, j17⟩, ip, iw, ie⟩ := X.i
    refine X.sc (FmQ.si (a := w)) l1.md (fun _ => rfl) ⟨⟨i1, i2⟩, ⟨(qsi_k (by decide)).trans j0, (qsi_k (by decide)).trans j1, (qsi_k (by decide)).trans j2, (qsi_k (by decide)).trans j3, (qsi_k (by decide)).trans j4, (qsi_k (by decide)).trans j5, qsi_s, (qsi_k (by decide)).trans j8, (qsi_k (by decide)).trans j15, (qsi_k (by decide)).trans j16, (qsi_k (by decide)).trans j17⟩, fun z => ?_, fun z => (qsi_k (by decide)).trans (iw z), fun z => (qsi_k (by decide)).trans (ie z)⟩ (fun j hj => lo j (by omega))
    obtain ⟨z1, z2, z3, z4⟩ := ip (ht ▸ z)
    exact ⟨(qsi_k (by decide)).trans z1, (qsi_k (by decide)).trans z2, (qsi_k (by decide)).trans z3, (qsi_k (by decide)).trans z4⟩
  have e2 : (ups s 11 (s 11 + nI 1)) 2 = s 2 := lo 2 (by decide)
  have e19 : (ups s 11 (s 11 + nI 1)) 19 = s 19 := lo 19 (by decide)
  have R1 : Rk (C + 1) (nn (s 19) + 12) (min1 s) := R0.min1 hC (by omega)
  have m2 : min1 s 2 = s 2 := ((endA_agL _).n2).trans e2
  refine tq_X13_minute ⟨X.kw, X.kw, ?_⟩
  rw [j6]
  refine l_wEnds (W0 := W) RT (by omega) (by omega) (by rw [e2]; exact h6) (by rw [e19]; omega) (hc.md l1.md) (fun c h2 W2 hcc X2 hes2 hle2 hms2 l2 => ?_) (nn (s 2)) 0 0 _ W (by rw [e2]; omega) (by omega) X1 (by show W.es.length = nn ((ups s 11 (s 11 + nI 1)) 19); rw [e19]; exact hes) (by show nn ((ups s 11 (s 11 + nI 1)) 19) ≤ _; omega) rfl (Lw.refl _)
  rw [e2] at X2 hcc hle2 hes2 ⊢
  rw [e19] at hle2
  have X2 : WO h2 w W2 (min1 s) := X2
  have hes2 : W2.es.length = nn (min1 s 19) := hes2
  have hle2 : nn (min1 s 19) ≤ nn (s 19) + nn (s 2) := hle2
  have hc2 : Kc h2 := (hc.md l1.md).md l2.md
  have R1 := R1.own
  rw [show nn (s 2) = nn (min1 s 2) by rw [m2]]
  refine l_wStops X2 R1 (by omega) hes2 (by omega) (by rw [hms2]; exact hne) hc2 (c := c) (by omega) (fun c h3 W3 hcc X3 hes3 hle3 hms3 l3 => ?_)
  have X3 : WO h3 w W3 (min2 s) := X3
  have hes3 : W3.es.length = nn (min2 s 19) := hes3
  have hle3 : nn (min2 s 19) ≤ nn (min1 s 19) + 1 := hle3
  have R2 : Rk (C + 1) (nn (s 19) + 13) (min2 s) := R0.min2 hC (by omega)
  have R2 := R2.own
  have hc3 : Kc h3 := hc2.md l3.md
  refine l_wNext X3 R2 (by omega) (by omega) hes3 (by omega) (by rw [hms3, hms2]; exact hne) hc3 (c := c) hcc (fun c h4 W4 hcc X4 hes4 hle4 hms4 l4 => ?_)
  have X4 : WO h4 w W4 (min3 s) := X4
  have hes4 : W4.es.length = nn (min3 s 19) := hes4
  have hle4 : nn (min3 s 19) ≤ nn (min2 s 19) + 1 := hle4
  have R3 : Rk (C + 1) (nn (s 19) + 14) (min3 s) := R0.min3 hC (by omega)
  have R3 := R3.own
  have hc4 : Kc h4 := hc3.md l4.md
  have l04 := ((l1.trans l2).trans l3).trans l4
  have hms : W4.ms = W.ms := hms4.trans (hms3.trans hms2)
  have n2 : nn (min3 s 2) = nn (s 2) := by
    have := X4.m.2.1
    rw [hms, X.m.2.1] at this
    exact this.symm
  refine sq_X13_minute_227 ⟨X4.kw, ?_⟩
  rw [show gi h4 w 8 = min3 s 12 from X4.i.2.1.2.2.2.2.2.2.2.1]
  refine ⟨fun z => ?_, fun z => ?_⟩
  · have em : minS s = rolS (min3 s) := by unfold minS; rw [if_pos z]
    have hp := hasP_t z (by decide) (by decide)
    rw [em] at K
    refine l_wRoll (W0 := W4) R3 hp (by omega) (by omega) (by omega) (by omega) hc4 (fun c h5 W5 hcc X5 hes5 hle5 hms5 l5 => ?_) (nn (min3 s 2)) 0 c h4 W4 (by omega) (by omega) X4 hes4 (Nat.le_refl _) rfl (Lw.refl h4)
    have R4 := (R3.rolA (show C + 1 < 2 ^ 30 by omega) (by omega) hp (nn (min3 s 2)) (Nat.le_refl _)).own
    have hpS : hasP (rolA (nn (min3 s 2)) (min3 s)) = true := (hasP_of (rolA_lo _ 12 (by decide) (by decide))).trans hp
    have n5 : nn (rolA (nn (min3 s 2)) (min3 s) 2) = nn (min3 s 2) := congrArg nn (rolA_agL _).n2
    refine l_wSoak X5 R4 hpS (by omega) hes5 (by omega) (by rw [hms5, hms]; exact hne) (hc4.md l5.md) (c := c) (by omega) (fun h6 W6 X6 hes6 hms6 l6 => ?_) (nn (min3 s 2)) 0 true (by rw [n5]; omega) rfl
    refine K h6 W6 X6 hes6 ?_ ((hms6.trans hms5).trans hms) ((l04.trans l5).trans l6)
    have : nn (rolS (min3 s) 19) ≤ nn (rolA (nn (min3 s 2)) (min3 s) 19) + 1 := by
      unfold rolS
      split
      · have e19 : soakS (rolA (nn (min3 s 2)) (min3 s)) 19 = (rolA (nn (min3 s 2)) (min3 s)) 19 + nI 1 := by
          unfold soakS
          rw [evS_19, ups_n (by decide), ups_n (by decide)]
        exact Nat.le_of_eq (isN_19 R4.2.2.2 (by omega) e19).2
      · omega
    omega
  · have em : minS s = min3 s := by unfold minS; rw [if_neg z]
    rw [em] at K
    exact K h4 W4 X4 hes4 (by omega) hms l04
end
