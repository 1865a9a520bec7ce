/-! ===== the law's World while it grows: its links ===== -/
section
variable {h h' h0 h1 h2 : PH} {w k v j t b tv at1 a d n i L A m c lo ic kt p : Nat} {W : WN} {s s' s0 sw u : RW} {Q : Res → PH → Prop} {x y z : Int32} {bs cs : List Nat} {S T : List Nat} {nm nm0 : Nat → Int64} {td : Nat → Bool}
theorem WOi.s7 (X : WOi h w s) (e : ∀ i, i ≠ 4 → u i = s i) : WOi (si h w 7 y) w u := by
  obtain ⟨⟨i1, i2⟩, ⟨j0, j1, j2, j3, j4, j5, j6, j8, j15, j16, j17⟩, ip, iw, ie⟩ := X
  have g : ∀ {i l : Nat}, i ≠ 7 → l ≠ 4 → gi h w i = s l → gi (si h w 7 y) w i = u l := fun a b c => (qsi_k a).trans (c.trans (e _ b).symm)
  have ep : hasP u = hasP s := hasP_of (e 12 (by decide))
  refine ⟨⟨i1, i2⟩, ⟨g (by decide) (by decide) j0, g (by decide) (by decide) j1, g (by decide) (by decide) j2, g (by decide) (by decide) j3, g (by decide) (by decide) j4, g (by decide) (by decide) j5, g (by decide) (by decide) j6, g (by decide) (by decide) j8, g (by decide) (by decide) j15, g (by decide) (by decide) j16, g (by decide) (by decide) j17⟩, fun z => ?_, fun z => ?_, fun z => ?_⟩
  · rw [ep] at z
    obtain ⟨z1, z2, z3, z4⟩ := ip z
    exact ⟨g (by decide) (by decide) z1, g (by decide) (by decide) z2, g (by decide) (by decide) z3, g (by decide) (by decide) z4⟩
  · rw [e 12 (by decide)] at z
    exact g (by decide) (by decide) (iw z)
  · rw [e 12 (by decide), e 18 (by decide)] at z
    exact g (by decide) (by decide) (ie z)
theorem up_v (P : PR s) (hk : k < nn (s 2)) : cN s k = vN s k ∧ isD s k = false := by
  have d := isD_m1 (P.m k hk).2.1
  refine ⟨?_, d⟩
  unfold cN com
  rw [d]; rfl
theorem Good.lnk (G : Good s) (P : PR s) (P' : PR (lnkS s a d)) (hab : a ≠ d) (ha : a < nn (s 2)) (hd : d < nn (s 2)) (ht : tlk s (vN s a) (vN s d) = true) : Good (lnkS s a d) := by
  obtain ⟨g1, g2, g3, g4⟩ := G
  have R := P.rk
  have hm := R.m.2
  have hv8 := R.v.2
  have e2 : lnkS s a d 2 = s 2 := lnk_lo (by decide) (by decide)
  have ec : ∀ k, k < nn (s 2) → cN (lnkS s a d) k = cN s k := fun k hk => cN_of (lnk_o (by decide) (by decide)) (lnk_o (by decide) (by decide))
  have et : ∀ x y, tlk (lnkS s a d) x y = tlk s x y ∨ 8 ≤ x := fun x y => by
    rcases Nat.lt_or_ge x 8 with q | q
    · left; unfold tlk; rw [lnk_lo (by omega) (by omega)]
    · exact Or.inr q
  unfold Good
  rw [e2]
  refine ⟨fun j k hj hk => ?_, fun k hk => ?_, fun j k hj hk hp => ?_, fun p => ?_⟩
  · rw [ec j hj, ec k hk, lnk_lo (by decide) (by decide)]; exact g1 j k hj hk
  · have := com_lt R k hk
    rw [ec k hk, lnk_lo (show 5 < 49 by decide) (by decide)]
    have := g2 k hk
    unfold rds at this ⊢
    rw [lnk_lo (by omega) (by omega), lnk_lo (by omega) (by omega)]; exact this
  · have h1 := com_lt R j hj
    rw [ec j hj, ec k hk]
    have e := (et (cN s j) (cN s k)).resolve_right (by omega)
    rw [e]
    rw [lnk_par hab (by omega) (by omega) (by omega), Bool.or_eq_true] at hp
    rcases hp with hp | hp
    · exact g3 j k hj hk hp
    · rw [(up_v P hj).1, (up_v P hk).1]
      simp only [Bool.and_eq_true, Bool.or_eq_true, decide_eq_true_eq] at hp
      rcases hp.2 with ⟨q1, q2⟩ | ⟨q1, q2⟩
      · rw [q1, q2]; exact ht
      · rw [q1, q2, R.ts _ _ (R.ve d hd).2 (R.ve a ha).2]; exact ht
  · have : cnt (nn (s 2)) (dnIn (lnkS s a d) p) = 0 := by
      have h0 : cnt (nn (s 2)) (dnIn (lnkS s a d) p) = cnt (nn (s 2)) (fun _ => false) := cnt_eq fun i hi => by
        unfold dnIn
        rw [(up_v P' (k := i) (by rw [e2]; exact hi)).2, Bool.and_false]
      rw [h0, cnt_ge (n := 0) (Nat.zero_le _) (fun _ _ _ => rfl)]; rfl
    rw [this]; exact Nat.zero_le _
theorem g_link (G : GU s0 nm0 w t b h s L A kt) (hL : L ≤ 520) (hA : A ≤ 780) (h4 : nn (s 4) < 20) (K0 : ∀ h', GU s0 nm0 w t b h' s L (A + 2) kt → Q (.inl none) h') (K1 : ∀ h' a d, GU s0 nm0 w t b h' (lnkS s a d) (L + 11) (A + 2) kt → PR (lnkS s a d) → nn (lnkS s a d 4) = nn (s 4) + 1 → Q (.inl none) h') : MetQ mq_X13_link [.ref w, .ref t] h Q := by
  obtain ⟨td, ⟨W, nm, bs, q9, at1, X, ⟨hes, J, F⟩, ⟨T, hbs⟩, ⟨N, hat⟩, hc, hR, hN, P, hG⟩, htd⟩ := G
  have hl := X.m.2.1
  have R := P.rk
  have hm12 := R.m.2
  have hv8 := R.v.2
  refine tq_X13_link ⟨X.kw, g3 X.r.2.2.2.2.2.1 ⟨X.al.rc, c_lsize X.al (fun _ => ⟨fun z => ⟨X.kw, g3 X.r.2.2.2.2.2.1 ⟨X.al.rc, c_lsize X.al (fun _ => ⟨X.rc, ?_⟩)⟩⟩, fun _ => K0 h ⟨td, ⟨W, nm, bs, q9, at1, X, ⟨hes, J, F⟩, ⟨T, hbs⟩, ⟨N, by omega⟩, hc, hR, hN, P, hG⟩, htd⟩⟩)⟩⟩
  have hlen : 2 ≤ W.ms.length := by
    rcases Nat.lt_or_ge W.ms.length 2 with q | q
    · exact absurd z (nI_ge q (by decide))
    · exact q
  refine c_next1 N X.kw X.i.1.2 (by omega) (by omega) (by omega) (fun a h1 ha g1 f1 _ => ?_)
  have X1 := X.gf g1
  refine ⟨X1.kw, g3 X1.r.2.2.2.2.2.1 ⟨X1.al.rc, c_lsize X1.al (fun _ => ⟨X1.rc, ?_⟩)⟩⟩
  refine c_next1 (N.gf g1) X1.kw X.i.1.2 (by omega) (by omega) (by omega) (fun d h2 hd g2 f2 _ => ?_)
  have X2 := X1.gf g2
  have T2 := (T.nx X.kw f1).nx X1.kw f2
  have F2 := (F.gf X g1).gf X1 g2
  have N2 := (N.gf g1).gf g2
  have hc2 := (hc.md g1.md).md g2.md
  have ha2 : a < nn (s 2) := by omega
  have hd2 : d < nn (s 2) := by omega
  have non : GU s0 nm0 w t b h2 s L (A + 2) kt := ⟨td, ⟨W, nm, bs, q9, at1 + 1 + 1, X2, ⟨hes, J, F2⟩, ⟨T2, hbs⟩, ⟨N2, by omega⟩, hc2, hR, hN, P, hG⟩, htd⟩
  have no : Bt mq_X13_link Q 127 0 [none, none, none, none] [] h2 := sq_X13_link_127 (K0 h2 non)
  refine ⟨X2.kw, g3 X2.r.2.2.2.2.2.1 ⟨X2.al.rc, c_get X2.al ha (fun _ => ⟨X2.km ha, X2.km ha, X2.kw, g3 X2.r.2.2.2.2.2.1 ⟨X2.al.rc, c_get X2.al hd (fun _ => ⟨X2.km hd, X2.km hd, ?_⟩)⟩⟩)⟩⟩
  rw [X2.f ha (show 0 < 6 by decide), X2.f hd (show 0 < 6 by decide)]
  refine ⟨fun _ => no, fun hne => ?_⟩
  have had : a ≠ d := fun e => hne (by rw [e])
  obtain ⟨⟨a1, a2, a3⟩, ⟨b1, b2, b3⟩, ⟨c1, c2, c3⟩, ⟨d1, d2, d3⟩, ⟨e1, e2, e3⟩⟩ := id X2.a
  obtain ⟨za1, za2, za3, za4⟩ := e3 a (by omega)
  obtain ⟨zd1, zd2, zd3, zd4⟩ := e3 d (by omega)
  have ea : (nI a).toNatClampNeg = a := nI_clamp (by omega)
  have ed : (nI d).toNatClampNeg = d := nI_clamp (by omega)
  have r5 := X2.r.2.2.2.2.1
  refine ⟨X2.kw, g3 r5 ⟨e1, by rw [e2]; exact vp_in_nI (by omega) (by decide), ?_⟩⟩
  rw [ea, ed]
  refine g3 za1 ⟨za2, by rw [za3]; exact vp_in_nI (by omega) (by decide), ?_⟩
  rw [za4 d hd2 ha2]
  refine ⟨fun _ => no, fun hnl => ?_⟩
  have hpar : par s a d = false := by
    unfold par
    rw [decide_eq_false hne, b2i_0.mp hnl]; simp
  have Pa := P.m a ha2
  have Pd := P.m d hd2
  refine ⟨X2.kw, g3 X2.r.2.2.2.2.2.1 ⟨X2.al.rc, c_get X2.al ha (fun _ => ⟨X2.km ha, X2.km ha, X2.kw, g3 X2.r.2.2.2.2.2.1 ⟨X2.al.rc, c_get X2.al hd (fun _ => ⟨X2.km hd, X2.km hd, X2.rc, ?_⟩)⟩⟩)⟩⟩
  rw [X2.f ha (show 1 < 6 by decide), X2.f hd (show 1 < 6 by decide), Pa.1.1.1, Pd.1.1.1]
  refine c_wTalk X2 Pa.1.2 Pd.1.2 hv8 (fun _ => ⟨fun htk => ?_, fun _ => no⟩)
  have ht : tlk s (vN s a) (vN s d) = true := by
    show tlk s (nn (mf s a 1)) (nn (mf s d 1)) = true
    cases q : tlk s (nn (mf s a 1)) (nn (mf s d 1))
    · exact absurd (b2i_0.mpr q) htk
    · rfl
  have hneq : W.lr a ≠ W.lr d := fun e => had (J.2.1 a d (by omega) (by omega) e)
  have l3 : Lw h2 (si (si h2 (W.lr a) d (nI 1)) (W.lr d) a (nI 1)) := ((Oth.si h2 _ d _).lw (J.2.2.2.2.2.2 a (by omega))).trans ((Oth.si _ _ a _).lw (J.2.2.2.2.2.2 d (by omega)))
  have f3 : FmQ [W.lr a, W.lr d] h2 (si (si h2 (W.lr a) d (nI 1)) (W.lr d) a (nI 1)) := ((FmQ.si (a := W.lr a)).mono (fun n hn _ => by rw [List.mem_singleton.mp hn]; exact List.mem_cons_self)).trans (FmQ.si (a := W.lr d)) (fun n hn _ => by rw [List.mem_singleton.mp hn]; exact List.mem_cons_of_mem _ List.mem_cons_self)
  have hS : ∀ n ∈ [W.lr a, W.lr d], qkd h2 n = 16 ∨ qkd h2 n = 22 := fun n hn => by
    rcases List.mem_cons.mp hn with q | q
    · rw [q]; exact Or.inr za2
    · rw [List.mem_singleton.mp q]; exact Or.inr zd2
  have o16 : ∀ n j, qkd h2 n = 16 → gi (si (si h2 (W.lr a) d (nI 1)) (W.lr d) a (nI 1)) n j = gi h2 n j := fun n j hn => by
    rw [qsi_a (fun e => by rw [e, zd2] at hn; cases hn), qsi_a (fun e => by rw [e, za2] at hn; cases hn)]
  have u20 : ∀ i, i < 49 → ups (lnkS s a d) 4 (s 4) i = s i := fun i hi => by
    by_cases q : i = 4
    · rw [q, ups_s]
    · rw [ups_n q, lnk_lo hi q]
  have um : ∀ k j, mf (ups (lnkS s a d) 4 (s 4)) k j = mf (lnkS s a d) k j := fun k j => ups_n (by omega)
  have F3 : FA (si (si h2 (W.lr a) d (nI 1)) (W.lr d) a (nI 1)) W (ups (lnkS s a d) 4 (s 4)) := by
    obtain ⟨F4, F5, F6, F7, F8⟩ := F2
    refine ⟨fun y hy => ?_, fun y hy => ?_, fun y hy => ?_, fun y hy c hc => ?_, fun y hy c hc => ?_⟩
    · rw [o16 _ _ a1, u20 _ (by omega)]; exact F4 y hy
    · rw [o16 _ _ b1, u20 _ (by omega)]; exact F5 y hy
    · rw [o16 _ _ c1, u20 _ (by omega)]; exact F6 y hy
    · rw [qsi_a (J.2.2.1 y d hy (by omega)), qsi_a (J.2.2.1 y a hy (by omega)), u20 _ (by omega)]; exact F7 y hy c hc
    · have y4 := F8 y hy c hc
      rw [um, lnk_b had (by omega) (by omega) (by omega)]
      by_cases q : y = d
      · subst q
        by_cases q2 : c = a
        · subst q2
          rw [qsi_s, decide_eq_false (show ¬ y = c from fun e => had e.symm), decide_eq_true (show y = y from rfl), decide_eq_true (show c = c from rfl)]
          simp only [Bool.and_self, Bool.or_true]; rfl
        · rw [qsi_k q2, qsi_a (fun e => hneq e.symm), y4, decide_eq_false (show ¬ y = a from fun e => had e.symm), decide_eq_false q2]
          simp only [Bool.false_and, Bool.and_false, Bool.or_false]
      · rw [qsi_a (fun e => q (J.2.1 y d hy (by omega) e))]
        by_cases q2 : y = a
        · subst q2
          by_cases q3 : c = d
          · subst q3
            rw [qsi_s, decide_eq_true (show y = y from rfl), decide_eq_true (show c = c from rfl)]
            simp only [Bool.and_self, Bool.true_or, Bool.or_true]; rfl
          · rw [qsi_k q3, y4, decide_eq_false q3, decide_eq_false q]
            simp only [Bool.false_and, Bool.and_false, Bool.or_false]
        · rw [qsi_a (fun e => q2 (J.2.1 y a hy (by omega) e)), y4, decide_eq_false q2, decide_eq_false q]
          simp only [Bool.false_and, Bool.or_false]
  have X3 : WO (si (si h2 (W.lr a) d (nI 1)) (W.lr d) a (nI 1)) w W (ups (lnkS s a d) 4 (s 4)) := X2.arr hv8 P.x.1.2 hm12 hc2 f3 l3 hS (fun i hi => u20 i (by omega)) (fun k j hj => by rw [um, lnk_o (by omega) (by omega)]) F3
  have T3 := T2.ar f3 hS
  have N3 := N2.fm X2.kw f3 l3 (nS_w X2.kw hS)
  have hc3 := hc2.md l3.md
  have hbw : b ≠ w := by have := N.2.2.2.2; have := X.i.1.2; omega
  refine ⟨X2.kw, g3 r5 ⟨e1, by rw [e2]; exact vp_in_nI (by omega) (by decide), ?_⟩⟩
  refine g3 za1 ⟨za2, by rw [za3]; exact vp_in_nI (by omega) (by decide), Or.inr rfl, X2.kw, g3 (b := W.u 8) r5 ⟨e1, by show vp_in (nI d) (qln h2 (W.u 8)); rw [e2]; exact vp_in_nI (by omega) (by decide), g3 (b := W.lr d) zd1 ⟨zd2, by show vp_in (nI a) (qln h2 (W.lr d)); rw [zd3]; exact vp_in_nI (by omega) (by decide), Or.inr rfl, X3.kw, ?_⟩⟩⟩
  intro y44
  have l4 : Lw (si (si h2 (W.lr a) d (nI 1)) (W.lr d) a (nI 1)) (si (si (si h2 (W.lr a) d (nI 1)) (W.lr d) a (nI 1)) w 7 y44) := (Oth.si _ w 7 _).lw X.i.1.2
  have X4 : WO (si (si (si h2 (W.lr a) d (nI 1)) (W.lr d) a (nI 1)) w 7 y44) w W (lnkS s a d) := X3.sc (FmQ.si (a := w)) l4.md (fun _ => rfl) (X3.i.s7 (fun i hi => (ups_n hi).symm)) (fun i hi => (ups_n (by omega)).symm)
  have T4 := T3.si (j := 7) (x := y44) X3.kw
  have F4 : FA (si (si (si h2 (W.lr a) d (nI 1)) (W.lr d) a (nI 1)) w 7 y44) W (lnkS s a d) := (F3.siw X3).eq (fun q hq _ => (ups_n (by omega)).symm)
  have N4 := N3.si (j := 7) (x := y44) (by decide) hbw
  have hc4 := hc3.md l4.md
  refine ⟨X3.kw, T4.rc, by decide, ?_⟩
  generalize si (si (si h2 (W.lr a) d (nI 1)) (W.lr d) a (nI 1)) w 7 y44 = h4' at X4 T4 N4 hc4 F4 ⊢
  refine c_gC 14 (by decide) T4 X4.kw hc4 (by simp only [List.length_append, List.length_cons, List.length_nil, sl0, sl1, sl2, sl3, sl4, sl5, sl6, sl7, sl8, sl9, sl10, sl11, sl12, sl13, sl14, sl15, sl16, sl17, sl18, sl19]; omega) (fun h5 T5 g5 _ => ⟨by decide, c_gN 12 (by decide) rfl T5 (X4.gf g5).kw (hc4.md g5.md) (by omega) (by simp only [List.length_append, List.length_cons, List.length_nil, sl0, sl1, sl2, sl3, sl4, sl5, sl6, sl7, sl8, sl9, sl10, sl11, sl12, sl13, sl14, sl15, sl16, sl17, sl18, sl19]; omega) (by decide) (fun h6 T6 g6 => ⟨T6.rc, by decide, ?_⟩)⟩)
  have g56 := g5.trans g6
  refine c_gC 6 (by decide) T6 (X4.gf g56).kw (hc4.md g56.md) (by simp only [List.length_append, List.length_cons, List.length_nil, sl0, sl1, sl2, sl3, sl4, sl5, sl6, sl7, sl8, sl9, sl10, sl11, sl12, sl13, sl14, sl15, sl16, sl17, sl18, sl19]; omega) (fun h7 T7 g7 _ => ⟨by decide, c_gN 12 (by decide) rfl T7 (X4.gf (g56.trans g7)).kw (hc4.md (g56.trans g7).md) (by omega) (by simp only [List.length_append, List.length_cons, List.length_nil, sl0, sl1, sl2, sl3, sl4, sl5, sl6, sl7, sl8, sl9, sl10, sl11, sl12, sl13, sl14, sl15, sl16, sl17, sl18, sl19]; omega) (by decide) (fun h8 T8 g8 => ⟨T8.rc, by decide, ?_⟩)⟩)
  have g58 := (g56.trans g7).trans g8
  refine c_gC 2 (by decide) T8 (X4.gf g58).kw (hc4.md g58.md) (by simp only [List.length_append, List.length_cons, List.length_nil, sl0, sl1, sl2, sl3, sl4, sl5, sl6, sl7, sl8, sl9, sl10, sl11, sl12, sl13, sl14, sl15, sl16, sl17, sl18, sl19]; omega) (fun h9 T9 g9 _ => ?_)
  have g59 := g58.trans g9
  have P' := P.lnk had ha2 hd2 h4
  have e44 : nn (lnkS s a d 4) = nn (s 4) + 1 := by
    have e4 := P.x.2.2.2.1.sc (by omega)
    show nn (ups _ 4 (s 4 + nI 1) 4) = _
    rw [ups_s]
    exact e4.2
  refine K1 h9 a d ⟨td, ⟨W, nm, bs ++ (kwL 4 ++ [32, 109, 97 + a, 32, 109, 97 + d, 59]), q9 + 1, at1 + 1 + 1 + (0 + 0 + 0 + 0 + 0), X4.gf g59, ⟨hes, J, F4.gf X4 g59⟩, ⟨?_, ?_⟩, ⟨N4.gf g59, by omega⟩, hc4.md g59.md, hR.app (kw_pos (by decide)).1 (kw_pos (by decide)).2 (p_lnk hN hm12 h4 ha2 hd2 hne hpar ht), hN.same (lnk_lo (by decide) (by decide)) (lnk_lo (by decide) (by decide)) (lnk_lo (by decide) (by decide)), P', hG.lnk P P' had ha2 hd2 ht⟩, htd⟩ P' e44
  · have := T9
    simp only [List.append_assoc] at this
    exact this
  · rw [List.length_append]
    show bs.length + 11 ≤ _
    omega
end
