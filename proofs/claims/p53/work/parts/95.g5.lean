/-! ===== the law's World while it grows: its waves ===== -/
section
variable {h h' h0 h1 h2 : PH} {w k v j t b tv at1 a n i L A m c lo ic kt p : Nat} {W : WN} {s s' s0 sw u : RW} {Q : Res → PH → Prop} {x y z : Int32} {bs cs : List Nat} {S T : List Nat} {nm nm0 : Nat → Int64} {td : Nat → Bool}
theorem g_481 (G : GU s0 nm0 w t b h s L A 9) (hL : L ≤ 530) (hA : A ≤ 780) (hc9 : c ≤ 38600) (K : ∀ h' s', GrF s0 nm0 w h' s' → s' 0 = s 0 → s' 2 = s 2 → s' 5 = s 5 → Q (.inl (some (.ref w))) h') : Bt mq_X13_grown Q 481 c [none, some (.ref w), some (.ref t), none, none] [] h :=
  sq_X13_grown_481 (g_set (V := fun x => x) (lo := 0) (m := 12) (i := 10) (j := 4) (ic := 18) (c := c) G (by decide) rfl (by decide) (by decide) (by decide) (fun r _ => by rw [Nat.zero_add]) (by decide) (by decide) (by decide) (by decide) (by omega) (by omega) (by omega) (e_set (by decide)) (fun x h1 h2 => ⟨by show 0 ≤ x; omega, by show x ≤ 99; omega, fun P G => by
    have P' := P.set (w := 9) (x := nI x) (by right; right; right; right; left; exact ⟨rfl, isN_nI (by omega) (by decide)⟩)
    exact ⟨P', up_set P G P' (by decide)⟩⟩)
    (fun h1 G1 => g_515 G1 (by omega) (by omega) (by omega) (fun h' s' g e0 e2 e5 => K h' s' g e0 e2 e5)) (fun h1 x _ _ G1 => g_515 G1 (by omega) (by omega) (by omega) (fun h' s' g e0 e2 e5 => K h' s' g (e0.trans (ups_n (by decide))) (e2.trans (ups_n (by decide))) (e5.trans (ups_n (by decide))))))
theorem g_445 (G : GU s0 nm0 w t b h s L A 8) (hL : L ≤ 510) (hA : A ≤ 770) (hc9 : c ≤ 38200) (K : ∀ h' s', GrF s0 nm0 w h' s' → s' 0 = s 0 → s' 2 = s 2 → s' 5 = s 5 → Q (.inl (some (.ref w))) h') : Bt mq_X13_grown Q 445 c [none, some (.ref w), some (.ref t), none, none] [] h :=
  sq_X13_grown_445 (g_set (V := fun x => nI 1 + x) (lo := 1) (m := 9) (i := 9) (j := 3) (ic := 17) (c := c) G (by decide) rfl (by decide) (by decide) (by decide) (fun r _ => nI_add 1 r) (by decide) (by decide) (by decide) (by decide) (by omega) (by omega) (by omega) (e_set (by decide)) (fun x h1 h2 => ⟨by show 1 ≤ x; omega, by show x ≤ 99; omega, fun P G => by
    have P' := P.set (w := 8) (x := nI x) (by right; right; right; left; exact ⟨rfl, isN_nI (by omega) (by decide), by rw [nn_nI (by omega)]; omega⟩)
    exact ⟨P', up_set P G P' (by decide)⟩⟩)
    (fun h1 G1 => g_481 G1 (by omega) (by omega) (by omega) (fun h' s' g e0 e2 e5 => K h' s' g e0 e2 e5)) (fun h1 x _ _ G1 => g_481 G1 (by omega) (by omega) (by omega) (fun h' s' g e0 e2 e5 => K h' s' g (e0.trans (ups_n (by decide))) (e2.trans (ups_n (by decide))) (e5.trans (ups_n (by decide))))))

theorem wp_lo (hi : i ≠ 3) (hi2 : i ≠ 44 + a) : wpS (wvS s) a k i = s i := (ups_n hi2).trans (ups_n hi)
theorem g_inWave (G : GU s0 nm0 w t b h s L A kt) (hL : L ≤ 520) (hA : A ≤ 780) (hp : p < nn (s 1)) (hw1 : s (44 + p) = -1) (hw3 : nn (s 3) < 5) (K0 : ∀ h', GU s0 nm0 w t b h' s L (A + 1) kt → Q (.inl none) h') (K1 : ∀ h', GU s0 nm0 w t b h' (wpS (wvS s) p (nn (s 3))) (L + 8) (A + 1) kt → Q (.inl none) h') : MetQ mq_X13_inWave [.ref w, .ref t, .int (nI p)] h Q := by
  obtain ⟨td, ⟨W, nm, bs, q9, at1, X, ⟨hes, J, F⟩, ⟨T, hbs⟩, ⟨N, hat⟩, hc, hR, hN, P, hG⟩, htd⟩ := G
  have hp5 := P.x.1.2
  have ep : (nI p).toNatClampNeg = p := nI_clamp (by omega)
  refine tq_X13_inWave ⟨X.rc, c_next1 N X.kw X.i.1.2 (by omega) (by decide) (by decide) (fun r1 h1 hr1 g1 f1 _ => ⟨fun _ => ?_, fun _ => K0 h1 ⟨td, ⟨W, nm, bs, q9, at1 + 1, X.gf g1, ⟨hes, J, F.gf X g1⟩, ⟨T.nx X.kw f1, hbs⟩, ⟨N.gf g1, by omega⟩, hc.md g1.md, hR, hN, P, hG⟩, htd⟩⟩)⟩
  have T1 := T.nx X.kw f1
  have X1 := X.gf g1
  have N1 := N.gf g1
  have hc1 := hc.md g1.md
  obtain ⟨⟨a1, a2, a3⟩, ⟨b1, b2, b3⟩, ⟨c1, c2, c3⟩, ⟨d1, d2, d3⟩, ⟨e1, e2, e3⟩⟩ := id X1.a
  have r3 := X1.r.2.2.1
  have j17 : gi h1 w 17 = nI (nn (s 3)) := X1.i.2.1.2.2.2.2.2.2.2.2.2.2.trans P.x.2.2.1.1
  have l2 : Lw h1 (si h1 (W.u 6) p (nI (nn (s 3)))) := (Oth.si h1 _ p _).lw J.2.2.2.2.1.2.2
  have f2 : FmQ [W.u 6] h1 (si h1 (W.u 6) p (nI (nn (s 3)))) := FmQ.si
  have hS : ∀ n ∈ [W.u 6], qkd h1 n = 16 ∨ qkd h1 n = 22 := fun n hn => by rw [List.mem_singleton.mp hn]; exact Or.inl c1
  have F2 : FA (si h1 (W.u 6) p (nI (nn (s 3)))) W (ups s (44 + p) (nI (nn (s 3)))) := by
    obtain ⟨F4, F5, F6, F7, F8⟩ := F.gf X g1
    refine ⟨fun y hy => ?_, fun y hy => ?_, fun y hy => ?_, fun y hy c hc => ?_, fun y hy c hc => ?_⟩
    · rw [qsi_a J.2.2.2.1.2.1, ups_n (by omega)]; exact F4 y hy
    · rw [qsi_a J.2.2.2.1.2.2, ups_n (by omega)]; exact F5 y hy
    · by_cases q : y = p
      · subst q; rw [qsi_s, ups_s]
      · rw [qsi_k q, ups_n (by omega)]; exact F6 y hy
    · obtain ⟨y1, y2, y3, y4⟩ := d3 y hy
      rw [qsi_a (fun e => by rw [e, c1] at y2; cases y2), ups_n (by omega)]; exact F7 y hy c hc
    · obtain ⟨y1, y2, y3, y4⟩ := e3 y hy
      rw [qsi_a (fun e => by rw [e, c1] at y2; cases y2), show mf (ups s (44 + p) (nI (nn (s 3)))) y 6 = mf s y 6 from ups_n (by omega)]; exact F8 y hy c hc
  have X2 : WO (si h1 (W.u 6) p (nI (nn (s 3)))) w W (ups s (44 + p) (nI (nn (s 3)))) := X1.arr P.v.1.2 P.x.1.2 P.x.2.1.2 hc1 f2 l2 hS (fun i hi => ups_n (by omega)) (fun k j hj => ups_n (by omega)) F2
  have T2 := T1.ar f2 hS
  have N2 := N1.fm X1.kw f2 l2 (nS_w X1.kw hS)
  have hc2 := hc1.md l2.md
  refine ⟨X1.kw, g3 r3 ⟨X1.kw, c1, by rw [c2]; exact vp_in_nI (by omega) (by decide), ?_⟩⟩
  rw [j17, ep]
  refine ⟨T2.rc, by decide, c_gC 15 (by decide) T2 X2.kw hc2 (by simp only [List.length_append, List.length_cons, List.length_nil, sl0, sl1, sl2, sl3, sl4, sl5, sl6, sl7, sl8, sl9, sl10, sl11, sl12, sl13, sl14, sl15, sl16, sl17, sl18, sl19]; omega) (fun h3 T3 g3' _ => ⟨by decide, c_gN 10 (by decide) rfl T3 (X2.gf g3').kw (hc2.md g3'.md) (by omega) (by simp only [List.length_append, List.length_cons, List.length_nil, sl0, sl1, sl2, sl3, sl4, sl5, sl6, sl7, sl8, sl9, sl10, sl11, sl12, sl13, sl14, sl15, sl16, sl17, sl18, sl19]; omega) (by decide) (fun h4 T4 g4 => ⟨T4.rc, by decide, ?_⟩)⟩)⟩
  have g24 := g3'.trans g4
  refine c_gC 2 (by decide) T4 (X2.gf g24).kw (hc2.md g24.md) (by simp only [List.length_append, List.length_cons, List.length_nil, sl0, sl1, sl2, sl3, sl4, sl5, sl6, sl7, sl8, sl9, sl10, sl11, sl12, sl13, sl14, sl15, sl16, sl17, sl18, sl19]; omega) (fun h5 T5 g5 _ => ?_)
  have g25 := g24.trans g5
  have X5 := X2.gf g25
  have e17 : gi h5 w 17 = nI (nn (s 3)) := by
    have := X5.i.2.1.2.2.2.2.2.2.2.2.2.2
    rw [this, ups_n (by omega)]; exact P.x.2.2.1.1
  have hbw : b ≠ w := by have := N.2.2.2.2; have := X.i.1.2; omega
  have l6 : Lw h5 (si h5 w 17 (gi h5 w 17 + nI 1)) := (Oth.si h5 w 17 _).lw X.i.1.2
  have X6 := X5.fld (x := nI (nn (s 3)) + nI 1) (j := 17) (k := 3) (by omega)
  have er : ups (ups s (44 + p) (nI (nn (s 3)))) 3 (nI (nn (s 3)) + nI 1) = wpS (wvS s) p (nn (s 3)) := by
    funext i
    unfold wpS wvS ups
    by_cases q : i = 3
    · rw [if_pos q, if_neg (by omega), if_pos q, ← P.x.2.2.1.1]
    · rw [if_neg q]
      by_cases q2 : i = 44 + p
      · rw [if_pos q2, if_pos q2]
      · rw [if_neg q2, if_neg q2, if_neg q]
  rw [er] at X6
  have Pw := P.wv hw3
  have e1' : wvS s 1 = s 1 := ups_n (by decide)
  have P' := Pw.1.wp (p := p) (w := nn (s 3)) (by rw [e1']; exact hp) (by rw [Pw.2.1]; omega)
  refine ⟨X5.kw, X5.kw, ?_⟩
  rw [e17]
  rw [e17] at l6
  refine K1 _ ⟨td, ⟨W, nm, bs ++ (kwL 5 ++ [32, 112, 97 + p, 59]), q9 + 1, at1 + 1 + (0 + 0 + 0), X6, ⟨hes, J, ((F2.gf X2 g25).siw X5).eq (fun q hq _ => by rw [← er, ups_n (by omega)])⟩, ⟨?_, ?_⟩, ⟨(N2.gf g25).si (by decide) hbw, by omega⟩, (hc2.md g25.md).md l6.md, hR.app (kw_pos (by decide)).1 (kw_pos (by decide)).2 (p_wav hN hp5 hw3 hp hw1), hN.same (wp_lo (by omega) (by omega)) (wp_lo (by omega) (by omega)) (wp_lo (by omega) (by omega)), P', hG.upw P P' (fun i hi => wp_lo (by omega) (by omega))⟩, htd⟩
  · have := T5
    simp only [List.append_assoc] at this
    exact TX.si this X5.kw
  · rw [List.length_append]
    show bs.length + 8 ≤ _
    omega
theorem g_390 (hP3 : nn (s 1) ≤ 3) {c0 L0 A0 : Nat} (hL : L0 ≤ 460) (hA : A0 ≤ 700) (hc9 : c0 ≤ 35500) (K : ∀ h' s', GrF s0 nm0 w h' s' → s' 0 = s 0 → s' 2 = s 2 → s' 5 = s 5 → Q (.inl (some (.ref w))) h') :
    ∀ n p c u h, p + n = nn (s 1) → c ≤ c0 + 610 * p → GU s0 nm0 w t b h u (L0 + 8 * p) (A0 + p) 7 → u 0 = s 0 → u 1 = s 1 → u 2 = s 2 → u 5 = s 5 → nn (u 3) ≤ p → (∀ q, p ≤ q → q < nn (s 1) → u (44 + q) = -1) → Bt mq_X13_grown Q 390 c [none, some (.ref w), some (.ref t), some (.int (nI p)), none] [] h := by
  intro n
  induction n with
  | zero =>
    intro p c u h hp hcc G e0 e1 e2 e5 h3 h44
    obtain ⟨td, ⟨W, nm, bs, q9, at1, X, -, -, -, -, -, -, P, -⟩, -⟩ := id G
    have j16 : gi h w 16 = nI (nn (s 1)) := by
      rw [show gi h w 16 = u 1 from X.i.2.1.2.2.2.2.2.2.2.2.2.1, P.x.1.1, e1]
    refine sq_X13_grown_390 ⟨X.kw, ?_⟩
    rw [j16]
    refine ⟨fun _ => ?_, fun z => absurd (nI_le (a := nn (s 1)) (b := p) (by omega) (by omega)) z⟩
    exact g_set (V := fun x => nI 1 + x) (lo := 1) (m := 3) (i := 8) (j := 2) (ic := 16) (c := c) G (by decide) rfl (by decide) (by decide) (by decide) (fun r _ => nI_add 1 r) (by decide) (by decide) (by decide) (by decide) (by omega) (by omega) (by omega) (e_set (by decide)) (fun x h1 h2 => ⟨by show 1 ≤ x; omega, by show x ≤ 12; omega, fun P G => by
      have P' := P.set (w := 7) (x := nI x) (by right; right; left; exact ⟨rfl, isN_nI (by omega) (by decide)⟩)
      exact ⟨P', up_set P G P' (by decide)⟩⟩)
      (fun h1 G1 => g_445 G1 (by omega) (by omega) (by omega) (fun h' s' g q0 q2 q5 => K h' s' g (q0.trans e0) (q2.trans e2) (q5.trans e5))) (fun h1 x _ _ G1 => g_445 G1 (by omega) (by omega) (by omega) (fun h' s' g q0 q2 q5 => K h' s' g ((q0.trans (ups_n (by decide))).trans e0) ((q2.trans (ups_n (by decide))).trans e2) ((q5.trans (ups_n (by decide))).trans e5)))
  | succ n ih =>
    intro p c u h hp hcc G e0 e1 e2 e5 h3 h44
    obtain ⟨td, ⟨W, nm, bs, q9, at1, X, -, -, -, -, -, -, P, -⟩, -⟩ := id G
    have j16 : gi h w 16 = nI (nn (s 1)) := by
      rw [show gi h w 16 = u 1 from X.i.2.1.2.2.2.2.2.2.2.2.2.1, P.x.1.1, e1]
    refine sq_X13_grown_390 ⟨X.kw, ?_⟩
    rw [j16]
    refine ⟨fun z => absurd z (nI_ge (by omega) (by omega)), fun _ => ⟨X.rc, by omega, g_inWave G (by omega) (by omega) (by rw [e1]; omega) (h44 p (Nat.le_refl _) (by omega)) (by omega) (fun h1 G1 _ => ?_) (fun h1 G1 _ => ?_)⟩⟩
    · rw [nI_add]
      refine ih (p + 1) (c + 610) u h1 (by omega) (by omega) ?_ e0 e1 e2 e5 (by omega) (fun q h1 h2 => h44 q (by omega) h2)
      obtain ⟨td, ⟨W, nm, bs, q9, at1, x1, x2, ⟨x3, x4⟩, x5, x6⟩, x7⟩ := G1
      exact ⟨td, ⟨W, nm, bs, q9, at1, x1, x2, ⟨x3, by omega⟩, x5, x6⟩, x7⟩
    · rw [nI_add]
      refine ih (p + 1) (c + 610) (wpS (wvS u) p (nn (u 3))) h1 (by omega) (by omega) ?_ ((wp_lo (by omega) (by omega)).trans e0) ((wp_lo (by omega) (by omega)).trans e1) ((wp_lo (by omega) (by omega)).trans e2) ((wp_lo (by omega) (by omega)).trans e5) ?_ (fun q h1 h2 => ?_)
      · obtain ⟨td, ⟨W, nm, bs, q9, at1, x1, x2, ⟨x3, x4⟩, x5, x6⟩, x7⟩ := G1
        exact ⟨td, ⟨W, nm, bs, q9, at1, x1, x2, ⟨x3, by omega⟩, x5, x6⟩, x7⟩
      · have := (P.wv (by omega)).2.1
        rw [show wpS (wvS u) p (nn (u 3)) 3 = wvS u 3 from ups_n (by omega), this]; omega
      · rw [wp_lo (by omega) (by omega)]; exact h44 q (by omega) h2
end
