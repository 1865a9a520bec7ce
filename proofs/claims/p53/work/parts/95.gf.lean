/-! ===== the law's World while it grows: all of it ===== -/
section
variable {h h' h0 h1 h2 hB : PH} {w k v j t b tv at1 a d n i L A m c lo ic kt p q t0 V hi r b0 : Nat} {W : WN} {s s' s0 sw u : RW} {Q : Res → PH → Prop} {x y z : Int32} {bs cs : List Nat} {S T : List Nat} {nm nm0 : Nat → Int64} {td : Nat → Bool} {hb : Bool}
theorem g_fmt {V : Int32 → Int32} {N0 N1 : PH → Prop} (G : GU s0 nm0 w t b h s L A kt) (hic : ic < 20) (hq : sQb.getD ic [] = kwL i ++ [32]) (hm : 0 < m) (hm1 : m < 100) (hlo : lo + m ≤ 100) (hV : ∀ r, r < m → V (nI r) = nI (lo + r)) (hi6 : 6 ≤ i) (hi : i < 12) (hk : kt ≤ i - 1)
    (hjk : j = 0 ∧ i - 1 = 5) (hA : A ≤ 800) (hL : L ≤ 560) (hc9 : c ≤ 39600) (he : ∀ td : Nat → Bool, td (i - 1) = false → eFst s td i = 0)
    (hx : ∀ x, lo ≤ x → x < lo + m → sLo (i - 1) ≤ x ∧ x ≤ sHi (i - 1) ∧ (PR s → Good s → PR (ups s (i - 1) (nI x)) ∧ Good (ups s (i - 1) (nI x))))
    (K0 : ∀ h', GU s0 nm0 w t b h' s L (A + 1) i → N0 h') (K1 : ∀ h' x, lo ≤ x → x < lo + m → GU s0 nm0 w t b h' (ups s (i - 1) (nI x)) (L + 11) (A + 2) i → N1 h') :
    rcvQ h w 2 ∧ MetQ mq_X13_next [.ref w, .int (nI 3)] h (rI (fun _ _ => False) (fun x12 h11 => Lw h h11 → ((¬ x12 = 0 → N0 h11) ∧ (x12 = 0 → (rcvQ h11 t 4 ∧ ((c + 101) ≤ 40000 ∧ MetQ mq_J4_append_15ec4 [.ref t, .ref (1200 + ic)] h11 (rR (fun b14 h13 => Lw h11 h13 → (rcvQ h13 w 2 ∧ MetQ mq_X13_next [.ref w, .int (nI m)] h13 (rI (fun _ _ => False) (fun x16 h15 => Lw h13 h15 → (((1 : Nat) = 1 ∧ (1 : Nat) = 1) ∧ (qkd h15 w = 2 ∧ (rcvQ (si h15 w j (V x16)) b14 4 ∧ (((c + 101) + 101) ≤ 40000 ∧ MetQ mq_J4_append_bf812 [.ref b14, .int (V x16)] (si h15 w j (V x16)) (rR (fun b18 h17 => Lw (si h15 w j (V x16)) h17 → (rcvQ h17 b18 4 ∧ ((((c + 101) + 101) + 101) ≤ 40000 ∧ MetQ mq_J4_append_15ec4 [.ref b18, .ref 1202] h17 (rR (fun b20 h19 => Lw h17 h19 → N1 h19))))))))))))))))))))) := by
  obtain ⟨td, ⟨W, nm, bs, q9, at1, X, ⟨hes, J, F⟩, ⟨T, hbs⟩, ⟨N, hat⟩, hc, hR, hN, P, hG⟩, htd⟩ := G
  have hlq : (sQb.getD ic []).length ≤ 9 := (by decide : ∀ ic, ic < 20 → (sQb.getD ic []).length ≤ 9) ic hic
  have hbw : b ≠ w := by have := N.2.2.2.2; have := X.i.1.2; omega
  refine ⟨X.rc, c_next1 N X.kw X.i.1.2 (by omega) (by decide) (by decide) (fun r1 h1 hr1 g1 f1 _ => ⟨fun _ => K0 h1 ⟨td, ⟨W, nm, bs, q9, at1 + 1, X.gf g1, ⟨hes, J, F.gf X g1⟩, ⟨T.nx X.kw f1, hbs⟩, ⟨N.gf g1, by omega⟩, hc.md g1.md, hR, hN, P, hG⟩, fun j hj => htd j (by omega)⟩, fun _ => ?_⟩)⟩
  have T1 := T.nx X.kw f1
  have X1 := X.gf g1
  have N1' := N.gf g1
  have hc1 := hc.md g1.md
  refine ⟨T1.rc, by omega, c_gC ic hic T1 X1.kw hc1 (by omega) (fun h2 T2 g2 _ => ⟨(X1.gf g2).rc, c_next1 (N1'.gf g2) (X1.gf g2).kw X.i.1.2 (by omega) hm (by omega) (fun r h3 hr g3' f3 _ => ⟨⟨rfl, rfl⟩, ?_⟩)⟩)⟩
  have X2 := X1.gf g2
  have X3 := X2.gf g3'
  have N3 := (N1'.gf g2).gf g3'
  have T3 := T2.nx X2.kw f3
  have hc3 := (hc1.md g2.md).md g3'.md
  rw [hV r hr]
  have X4 := X3.fld (x := nI (lo + r)) (j := j) (k := i - 1) (Or.inl hjk)
  have T4 := T3.si (j := j) (x := nI (lo + r)) X3.kw
  have N4 := N3.si (j := j) (x := nI (lo + r)) (by omega) hbw
  have l4 : Lw h3 (si h3 w j (nI (lo + r))) := (Oth.si h3 w j _).lw X.i.1.2
  have hc4 := hc3.md l4.md
  have hd := dec_len (n := lo + r)
  have hd2 : (dec (lo + r)).length ≤ 2 := by rw [hd]; split <;> omega
  refine ⟨X3.kw, T4.rc, by omega, c_gI T4 X4.kw hc4 (by omega) (by rw [List.length_append]; omega) (fun h5 T5 g5 _ => ⟨T5.rc, by omega, c_gC 2 (by decide) T5 (X4.gf g5).kw (hc4.md g5.md) (by rw [List.length_append, List.length_append, sl2]; omega) (fun h6 T6 g6 _ => ?_)⟩)⟩
  have g46 := g5.trans g6
  obtain ⟨x1, x2, x3⟩ := hx (lo + r) (by omega) (by omega)
  obtain ⟨P', G'⟩ := x3 P hG
  refine K1 h6 (lo + r) (by omega) (by omega) ⟨updB td (i - 1), ⟨W, nm, bs ++ (kwL i ++ ([32] ++ (dec (lo + r) ++ [59]))), q9 + 1, at1 + 1 + 0 + 1 + (0 + 0), X4.gf g46, ⟨hes, J, ((((F.gf X g1).gf X1 g2).gf X2 g3').siw X3 |>.eq (fun q hq _ => ups_n (by omega))).gf X4 g46⟩, ⟨?_, ?_⟩, ⟨N4.gf g46, by omega⟩, hc4.md g46.md, hR.app (kw_pos hi).1 (kw_pos hi).2 (p_set hi6 hi (he td (htd _ hk)) (by omega) x1 x2), hN.same (ups_n (by omega)) (ups_n (by omega)) (ups_n (by omega)), P', G'⟩, fun j hj => ?_⟩
  · have := T6
    rw [hq] at this
    simp only [List.append_assoc] at this ⊢
    exact this
  · have : (kwL i).length + 1 = (sQb.getD ic []).length := by rw [hq, List.length_append]; rfl
    rw [List.length_append, List.length_append, List.length_append, List.length_append]
    show bs.length + ((kwL i).length + (1 + ((dec (lo + r)).length + 1))) ≤ _
    have h8 : (sQb.getD ic []).length ≤ 8 := by
      have : (kwL i).length = kln i := kwL_len
      have := (by decide : ∀ i, i < 12 → 6 ≤ i → kln i ≤ 6) i hi hi6
      omega
    omega
  · show (td j || decide (j = i - 1)) = false
    rw [htd j (by omega), decide_eq_false (by omega)]; rfl
theorem WO.s26 {rv : Option Nat} (X : WO h w W s) : WO (sr h w 26 rv) w W s := by
  obtain ⟨⟨a1, a2, a3⟩, ⟨b1, b2, b3⟩, ⟨c1, c2, c3⟩, ⟨d1, d2, d3⟩, ⟨e1, e2, e3⟩⟩ := X.a
  obtain ⟨m1, m2, m3, m4⟩ := X.m
  obtain ⟨n1, n2⟩ := X.e
  obtain ⟨r1, r2, r3, r4, r5, r6, r7⟩ := X.r
  have hw := X.kw
  have ne : ∀ {n g : Nat}, qkd h n = g → g ≠ 2 → n ≠ w := fun e1 e2 e3 => by rw [e3, hw] at e1; exact e2 e1.symm
  have al : ∀ {l v : Nat} {es : List Nat} {g : Nat}, AlQ h l v es g → AlQ (sr h w 26 rv) l v es g := fun B => ⟨B.kl, (qsr_a (ne B.kl (by decide))).trans B.va, B.sz, B.le, B.el, by
    rcases B.2.2.2.2.2 with z | ⟨z1, z2, z3, z4, z5⟩
    · exact Or.inl z
    · exact Or.inr ⟨z1, z2, z3, fun i hi => (qsr_a (ne z1 (by decide))).trans (z4 i hi), fun i hi => (qsr_a (ne z1 (by decide))).trans (z5 i hi)⟩⟩
  exact ⟨X.i, ⟨(qsr_k (by decide)).trans r1, (qsr_k (by decide)).trans r2, (qsr_k (by decide)).trans r3, (qsr_k (by decide)).trans r4, (qsr_k (by decide)).trans r5, (qsr_k (by decide)).trans r6, (qsr_k (by decide)).trans r7⟩, ⟨⟨a1, a2, a3⟩, ⟨b1, b2, b3⟩, ⟨c1, c2, c3⟩, ⟨d1, d2, fun y hy => ⟨(qsr_a (ne d1 (by decide))).trans (d3 y hy).1, (d3 y hy).2⟩⟩, ⟨e1, e2, fun y hy => ⟨(qsr_a (ne e1 (by decide))).trans (e3 y hy).1, (e3 y hy).2⟩⟩⟩, ⟨al m1, m2, m3, m4⟩, ⟨al n1, n2⟩⟩
theorem g_91 (K : KG s0 nm0 w Q) (G : GU s0 nm0 w t b h u L A 7) (R : RwC u) (e0 : nn (u 0) = 0) (hc : c ≤ 3000) (hL : L ≤ 60) (hA : A ≤ 500) : Bt mq_X13_grown Q 91 c [none, some (.ref w), some (.ref t), none, none] [] h := by
  obtain ⟨td, ⟨W, nm, bs, q9, at1, X, ⟨hes, J, F⟩, ⟨T, hbs⟩, ⟨N, hat⟩, hc0, hR, hN, P, hG⟩, htd⟩ := G
  refine sq_X13_grown_91 ⟨X.rc, c_next1 N X.kw X.i.1.2 (by omega) (by decide) (by decide) (fun r h1 hr g1 f1 _ => ⟨(X.gf g1).kw, ?_⟩)⟩
  rw [nI_add 2 r]
  have X1 := X.gf g1
  have l2 : Lw h1 (si h1 w 15 (nI (2 + r))) := (Oth.si h1 w 15 _).lw X.i.1.2
  have hbw : b ≠ w := by have := N.2.2.2.2; have := X.i.1.2; omega
  have v8 : nn (ups u 0 (nI (2 + r)) 0) ≤ 8 := by rw [ups_s, nn_nI (by omega)]; omega
  have v5 : nn (ups u 0 (nI (2 + r)) 1) ≤ 5 := by rw [ups_n (by decide), R.1]; decide
  obtain ⟨X2, F2⟩ := X1.n01 (x := nI (2 + r)) (j := 15) (k := 0) (F.gf X g1) R.2.1 (Or.inl ⟨rfl, rfl⟩) v8 v5
  exact g_104 (V := 2 + r) ⟨by omega, by omega⟩ K (2 + r) 0 c u _ L (A + 1) (by omega) (by omega) (by omega) (by omega) ⟨td, ⟨W, nm, bs, q9, at1 + 1, X2, ⟨hes, J, F2⟩, ⟨(T.nx X.kw f1).si X1.kw, hbs⟩, ⟨(N.gf g1).si (by decide) hbw, by omega⟩, (hc0.md g1.md).md l2.md, hR, hN, P, hG⟩, htd⟩ e0 R
theorem RwC.set (R : RwC u) (hk : 5 ≤ k ∧ k ≤ 10) (h5 : k = 5 → 1 ≤ nn x) : RwC (ups u k x) := by
  obtain ⟨r1, r2, r3, r4, r5, r6, r7⟩ := R
  unfold RwC
  rw [ups_n (by omega), ups_n (by omega), ups_n (by omega), ups_n (by omega)]
  exact ⟨r1, r2, r3, r4, fun q hq => by rw [ups_n (by omega)]; exact r5 q hq, fun a b ha hb => by rw [ups_n (by omega)]; exact r6 a b ha hb, by
    by_cases c : k = 5
    · subst c; rw [ups_s]; exact h5 rfl
    · rw [ups_n (fun e => c e.symm)]; exact r7⟩
theorem e_set2 (h2 : nn (s 2) = 0) (hi6 : 6 ≤ i) (hi8 : i < 8) (td : Nat → Bool) (h1 : td (i - 1) = false) : eFst s td i = 0 := by
  unfold eFst
  rw [if_neg (by omega), if_neg (by omega), if_neg (by omega), if_neg (by omega), if_neg (by omega), if_neg (by omega), h1, if_neg (by decide), if_pos hi8, if_pos h2]
theorem g_56 (K : KG s0 nm0 w Q) (G : GU s0 nm0 w t b h u L A 6) (R : RwC u) (e0 : nn (u 0) = 0) (hc : c ≤ 2000) (hL : L ≤ 40) (hA : A ≤ 400) : Bt mq_X13_grown Q 56 c [none, some (.ref w), some (.ref t), none, none] [] h :=
  sq_X13_grown_56 (g_set (V := fun x => nI 1 + x) (lo := 1) (m := 3) (i := 7) (j := 1) (ic := 3) (c := c) G (by decide) rfl (by decide) (by decide) (by decide) (fun r _ => nI_add 1 r) (by decide) (by decide) (by decide) (by decide) (by omega) (by omega) (by omega) (fun td h => e_set2 R.2.1 (by decide) (by decide) td h) (fun x h1 h2 => ⟨by show 0 ≤ x; omega, by show x ≤ 7; omega, fun P G => by
    have P' := P.set (w := 6) (x := nI x) (by right; left; exact ⟨rfl, isN_nI (by omega) (by decide)⟩)
    exact ⟨P', Good.zero (by rw [ups_n (by decide)]; exact R.2.1)⟩⟩)
    (fun h1 G1 => g_91 K G1 R e0 (by omega) (by omega) (by omega)) (fun h1 x _ _ G1 => g_91 K G1 (R.set (by decide) (fun e => absurd e (by decide))) (by rw [ups_n (by decide)]; exact e0) (by omega) (by omega) (by omega)))
theorem c_grown (hc : Kc h) (kb : qkd h b0 = 48) (lb : qln h b0 ≤ 260) (b2 : b0 < 2000) (K : ∀ w, 2000 ≤ w → KG (clrS s) nm0 w Q) : MetQ mq_X13_grown [.ref b0] h Q := by
  have hb : 1000 ≤ b0 := by
    rcases Nat.lt_or_ge b0 1000 with q | q
    · exfalso
      unfold qkd at kb
      rw [Nat.blt_eq.mpr q] at kb
      cases kb
    · exact q
  refine tq_X13_grown ⟨by decide, fun w w2 wz => ⟨by decide, c_wNew (s := s) (qkd_nw (by omega)) w2 (fun i => qnw_i) (fun h2 W X hes J F i27 f2 l2 _ => ⟨X.kw, by decide, fun t t2 tz => ⟨by decide, ?_⟩⟩)⟩⟩
  have l0 : Lw h (nw h w 2 0) := (Oth.nw h w 2 0).lw w2
  have l3 : Lw h2 (sr h2 w 26 (some b0)) := (Oth.sr h2 w 26 _).lw w2
  have X3 : WO (sr h2 w 26 (some b0)) w W (clrS s) := X.s26
  have F3 : FA (sr h2 w 26 (some b0)) W (clrS s) := F
  have R3 : gr (sr h2 w 26 (some b0)) w 26 = some b0 := qsr_s
  have I3 : gi (sr h2 w 26 (some b0)) w 27 = nI 0 := i27
  have m3 := ((l0.trans l2).trans l3).md
  have kb3 : qkd (sr h2 w 26 (some b0)) b0 = 48 := by rw [m3.kd b2]; exact kb
  have lb3 : qln (sr h2 w 26 (some b0)) b0 ≤ 260 := by rw [m3.ln hb b2]; exact lb
  have c3 : Kc (sr h2 w 26 (some b0)) := hc.md m3
  have N3 : NX (sr h2 w 26 (some b0)) w b0 0 := ⟨R3, I3, kb3, lb3, b2⟩
  generalize sr h2 w 26 (some b0) = h3 at X3 F3 N3 c3 tz ⊢
  refine c_sbNew (qkd_nw (by omega)) qnw_i t2 (fun v h4 B f4 l4 _ v2 _ => ?_)
  have f4' : FmQ [] h3 h4 := fm_sn tz (FmQ.nw tz) f4
  have l4' : Lw h3 h4 := ((Oth.nw h3 t 4 0).lw t2).trans l4
  have g4 := GF.of0 X3.kw f4' l4'
  have z : ∀ j, (j < 5 ∨ (10 < j ∧ j < 44) ∨ (49 ≤ j ∧ j < 253)) → clrS s j = 0 := fun j hj => clr_0 hj
  have n0 : ∀ j, j < 5 → nn (clrS s j) = 0 := fun j hj => by rw [z j (by omega)]; exact nn_0
  have R : RwC (clrS s) := ⟨n0 1 (by decide), n0 2 (by decide), n0 3 (by decide), n0 4 (by decide), fun q hq => by unfold clrS; rw [if_pos (by omega), if_pos (by omega), m1_eq], fun a b ha hb => by rw [z _ (by omega), b_0], by rw [(clr_1 (s := s)).1, nn_nI (by decide)]; decide⟩
  have G : GU (clrS s) nm0 w t b0 h4 (clrS s) 0 0 5 := ⟨fun _ => false, ⟨W, nm0, [], 0, 0, X3.gf g4, ⟨hes, J, F3.gf X3 g4⟩, ⟨⟨t2, v, B, v2⟩, Nat.le_refl _⟩, ⟨N3.gf g4, Nat.le_refl _⟩, c3.md g4.md, Rdd.nil, ⟨fun i hi => ?_, fun i hi => ?_, fun i hi => ?_⟩, PR.clr, Good.zero (n0 2 (by decide))⟩, fun _ _ => rfl⟩
  · exact g_fmt (V := fun x => nI 1 + x) (lo := 1) (m := 2) (i := 6) (j := 0) (ic := 1) (c := 36) G (by decide) rfl (by decide) (by decide) (by decide) (fun r _ => nI_add 1 r) (by decide) (by decide) (by decide) (by decide) (by decide) (by decide) (by decide) (fun td h => e_set2 R.2.1 (by decide) (by decide) td h) (fun x h1 h2 => ⟨by show 1 ≤ x; omega, by show x ≤ 9; omega, fun P G => by
      have P' := P.set (w := 5) (x := nI x) (by left; exact ⟨rfl, isN_nI (by omega) (by decide)⟩)
      exact ⟨P', Good.zero (by rw [ups_n (by decide)]; exact R.2.1)⟩⟩)
      (fun h1 G1 => g_56 (K w w2) G1 R (n0 0 (by decide)) (by decide) (by decide) (by decide)) (fun h1 x l1 l2 G1 => g_56 (K w w2) G1 (R.set (by decide) (fun _ => by rw [nn_nI (by omega)]; omega)) (by rw [ups_n (by decide)]; exact n0 0 (by decide)) (by decide) (by decide) (by decide))
  · rw [n0 0 (by decide)] at hi; exact absurd hi (Nat.not_lt_zero i)
  · rw [n0 1 (by decide)] at hi; exact absurd hi (Nat.not_lt_zero i)
  · rw [n0 2 (by decide)] at hi; exact absurd hi (Nat.not_lt_zero i)
end
