/-! ===== the law's World while it grows: settings, waves ===== -/
section
variable {h h' h0 h1 h2 : PH} {w k v j t b tv at1 a n i L A m c lo ic kt : Nat} {W : WN} {s s' s0 sw u : RW} {Q : Res → PH → Prop} {x y z : Int32} {bs cs : List Nat} {S T : List Nat} {nm nm0 : Nat → Int64} {td : Nat → Bool}
theorem WOi.fld (X : WOi h w s) (hjk : (j = 0 ∧ k = 5) ∨ (j = 1 ∧ k = 6) ∨ (j = 2 ∧ k = 7) ∨ (j = 3 ∧ k = 8) ∨ (j = 4 ∧ k = 9) ∨ (j = 5 ∧ k = 10) ∨ (j = 15 ∧ k = 0) ∨ (j = 16 ∧ k = 1) ∨ (j = 17 ∧ k = 3)) : WOi (si h w j x) w (ups s k x) := by
  obtain ⟨⟨i1, i2⟩, ⟨j0, j1, j2, j3, j4, j5, j6, j8, j15, j16, j17⟩, ip, iw, ie⟩ := X
  have e12 : ups s k x 12 = s 12 := ups_n (by omega)
  have e18 : ups s k x 18 = s 18 := ups_n (by omega)
  have ep : hasP (ups s k x) = hasP s := hasP_of e12
  have g : ∀ {i l : Nat}, i ≠ j → l ≠ k → gi h w i = s l → gi (si h w j x) w i = ups s k x l := fun a b c => (qsi_k a).trans (c.trans (ups_n b).symm)
  have g2 : gi (si h w j x) w j = ups s k x k := qsi_s.trans ups_s.symm
  refine ⟨⟨i1, i2⟩, ?_, fun z => ?_, fun z => ?_, fun z => ?_⟩
  · rcases hjk with ⟨rfl, rfl⟩ | ⟨rfl, rfl⟩ | ⟨rfl, rfl⟩ | ⟨rfl, rfl⟩ | ⟨rfl, rfl⟩ | ⟨rfl, rfl⟩ | ⟨rfl, rfl⟩ | ⟨rfl, rfl⟩ | ⟨rfl, rfl⟩
    · exact ⟨g2, g (by decide) (by decide) j1, g (by decide) (by decide) j2, g (by decide) (by decide) j3, g (by decide) (by decide) j4, g (by decide) (by decide) j5, g (by decide) (by decide) j6, g (by decide) (by decide) j8, g (by decide) (by decide) j15, g (by decide) (by decide) j16, g (by decide) (by decide) j17⟩
    · exact ⟨g (by decide) (by decide) j0, g2, g (by decide) (by decide) j2, g (by decide) (by decide) j3, g (by decide) (by decide) j4, g (by decide) (by decide) j5, g (by decide) (by decide) j6, g (by decide) (by decide) j8, g (by decide) (by decide) j15, g (by decide) (by decide) j16, g (by decide) (by decide) j17⟩
    · exact ⟨g (by decide) (by decide) j0, g (by decide) (by decide) j1, g2, g (by decide) (by decide) j3, g (by decide) (by decide) j4, g (by decide) (by decide) j5, g (by decide) (by decide) j6, g (by decide) (by decide) j8, g (by decide) (by decide) j15, g (by decide) (by decide) j16, g (by decide) (by decide) j17⟩
    · exact ⟨g (by decide) (by decide) j0, g (by decide) (by decide) j1, g (by decide) (by decide) j2, g2, g (by decide) (by decide) j4, g (by decide) (by decide) j5, g (by decide) (by decide) j6, g (by decide) (by decide) j8, g (by decide) (by decide) j15, g (by decide) (by decide) j16, g (by decide) (by decide) j17⟩
    · exact ⟨g (by decide) (by decide) j0, g (by decide) (by decide) j1, g (by decide) (by decide) j2, g (by decide) (by decide) j3, g2, g (by decide) (by decide) j5, g (by decide) (by decide) j6, g (by decide) (by decide) j8, g (by decide) (by decide) j15, g (by decide) (by decide) j16, g (by decide) (by decide) j17⟩
    · exact ⟨g (by decide) (by decide) j0, g (by decide) (by decide) j1, g (by decide) (by decide) j2, g (by decide) (by decide) j3, g (by decide) (by decide) j4, g2, g (by decide) (by decide) j6, g (by decide) (by decide) j8, g (by decide) (by decide) j15, g (by decide) (by decide) j16, g (by decide) (by decide) j17⟩
    · exact ⟨g (by decide) (by decide) j0, g (by decide) (by decide) j1, g (by decide) (by decide) j2, g (by decide) (by decide) j3, g (by decide) (by decide) j4, g (by decide) (by decide) j5, g (by decide) (by decide) j6, g (by decide) (by decide) j8, g2, g (by decide) (by decide) j16, g (by decide) (by decide) j17⟩
    · exact ⟨g (by decide) (by decide) j0, g (by decide) (by decide) j1, g (by decide) (by decide) j2, g (by decide) (by decide) j3, g (by decide) (by decide) j4, g (by decide) (by decide) j5, g (by decide) (by decide) j6, g (by decide) (by decide) j8, g (by decide) (by decide) j15, g2, g (by decide) (by decide) j17⟩
    · exact ⟨g (by decide) (by decide) j0, g (by decide) (by decide) j1, g (by decide) (by decide) j2, g (by decide) (by decide) j3, g (by decide) (by decide) j4, g (by decide) (by decide) j5, g (by decide) (by decide) j6, g (by decide) (by decide) j8, g (by decide) (by decide) j15, g (by decide) (by decide) j16, g2⟩
  · rw [ep] at z
    obtain ⟨z1, z2, z3, z4⟩ := ip z
    exact ⟨g (by omega) (by omega) z1, g (by omega) (by omega) z2, g (by omega) (by omega) z3, g (by omega) (by omega) z4⟩
  · rw [e12] at z
    exact g (by omega) (by omega) (iw z)
  · rw [e12, e18] at z
    exact g (by omega) (by omega) (ie z)
theorem WO.fld (X : WO h w W s) (hjk : (j = 0 ∧ k = 5) ∨ (j = 1 ∧ k = 6) ∨ (j = 2 ∧ k = 7) ∨ (j = 3 ∧ k = 8) ∨ (j = 4 ∧ k = 9) ∨ (j = 5 ∧ k = 10) ∨ (j = 17 ∧ k = 3)) : WO (si h w j x) w W (ups s k x) :=
  X.sc (FmQ.si (a := w)) ((Oth.si h w j x).lw X.i.1.2).md (fun _ => rfl) (X.i.fld (by omega)) (fun i hi => ups_n (by omega))
theorem NX.si (N : NX h w b at1) (hj : j ≠ 27) (hbw : b ≠ w) : NX (si h w j x) w b at1 := ⟨N.1, (qsi_k (fun e => hj e.symm)).trans N.2.1, N.2.2.1, N.2.2.2.1, N.2.2.2.2⟩
theorem TX.si (T : TX h t bs) (hw : qkd h w = 2) : TX (si h w j x) t bs := T.fm (FmQ.si (a := w)) (fun a ha _ => by rw [List.mem_singleton.mp ha, hw]; omega)
theorem TX.nx (T : TX h t bs) (hw : qkd h w = 2) (f : FmQ [w] h h') : TX h' t bs := T.fm f (fun a ha _ => by rw [List.mem_singleton.mp ha, hw]; omega)
/-- as far as grown; the settings from kt on are not told -/
def GU (s0 : RW) (nm0 : Nat → Int64) (w t b : Nat) (h : PH) (s : RW) (L A kt : Nat) : Prop := ∃ td, GS s0 nm0 w t b h s s td L A ∧ ∀ j, kt ≤ j → td j = false
theorem g_set {V : Int32 → Int32} {N0 N1 : PH → Prop} (G : GU s0 nm0 w t b h s L A kt) (hic : ic < 20) (hq : sQb.getD ic [] = kwL i ++ [32]) (hm : 0 < m) (hm1 : m < 100) (hlo : lo + m ≤ 100) (hV : ∀ r, r < m → V (nI r) = nI (lo + r)) (hi6 : 6 ≤ i) (hi : i < 12) (hk : kt ≤ i - 1)
    (hjk : (j = 0 ∧ i - 1 = 5) ∨ (j = 1 ∧ i - 1 = 6) ∨ (j = 2 ∧ i - 1 = 7) ∨ (j = 3 ∧ i - 1 = 8) ∨ (j = 4 ∧ i - 1 = 9) ∨ (j = 5 ∧ i - 1 = 10)) (hA : A ≤ 800) (hL : L ≤ 560) (hc9 : c ≤ 39600) (he : ∀ td : Nat → Bool, td (i - 1) = false → eFst s td i = 0)
    (hx : ∀ x, lo ≤ x → x < lo + m → sLo (i - 1) ≤ x ∧ x ≤ sHi (i - 1) ∧ (PR s → Good s → PR (ups s (i - 1) (nI x)) ∧ Good (ups s (i - 1) (nI x))))
    (K0 : ∀ h', GU s0 nm0 w t b h' s L (A + 1) i → N0 h') (K1 : ∀ h' x, lo ≤ x → x < lo + m → GU s0 nm0 w t b h' (ups s (i - 1) (nI x)) (L + 11) (A + 2) i → N1 h') :
    rcvQ h w 2 ∧ MetQ mq_X13_next [.ref w, .int (nI 2)] h (rI (fun _ _ => False) (fun x12 h11 => Lw h h11 → ((¬ x12 = 0 → N0 h11) ∧ (x12 = 0 → (rcvQ h11 t 4 ∧ ((c + 101) ≤ 40000 ∧ MetQ mq_J4_append_15ec4 [.ref t, .ref (1200 + ic)] h11 (rR (fun b14 h13 => Lw h11 h13 → (rcvQ h13 w 2 ∧ MetQ mq_X13_next [.ref w, .int (nI m)] h13 (rI (fun _ _ => False) (fun x16 h15 => Lw h13 h15 → (((1 : Nat) = 1 ∧ (1 : Nat) = 1) ∧ (qkd h15 w = 2 ∧ (rcvQ (si h15 w j (V x16)) b14 4 ∧ (((c + 101) + 101) ≤ 40000 ∧ MetQ mq_J4_append_bf812 [.ref b14, .int (V x16)] (si h15 w j (V x16)) (rR (fun b18 h17 => Lw (si h15 w j (V x16)) h17 → (rcvQ h17 b18 4 ∧ ((((c + 101) + 101) + 101) ≤ 40000 ∧ MetQ mq_J4_append_15ec4 [.ref b18, .ref 1202] h17 (rR (fun b20 h19 => Lw h17 h19 → N1 h19))))))))))))))))))))) := by
  obtain ⟨td, ⟨W, nm, bs, q9, at1, X, ⟨hes, J, F⟩, ⟨T, hbs⟩, ⟨N, hat⟩, hc, hR, hN, P, hG⟩, htd⟩ := G
  have hlq : (sQb.getD ic []).length ≤ 9 := (by decide : ∀ ic, ic < 20 → (sQb.getD ic []).length ≤ 9) ic hic
  have hbw : b ≠ w := by have := N.2.2.2.2; have := X.i.1.2; omega
  refine ⟨X.rc, c_next1 N X.kw X.i.1.2 (by omega) (by decide) (by decide) (fun r1 h1 hr1 g1 f1 _ => ⟨fun _ => K0 h1 ⟨td, ⟨W, nm, bs, q9, at1 + 1, X.gf g1, ⟨hes, J, F.gf X g1⟩, ⟨T.nx X.kw f1, hbs⟩, ⟨N.gf g1, by omega⟩, hc.md g1.md, hR, hN, P, hG⟩, fun j hj => htd j (by omega)⟩, fun _ => ?_⟩)⟩
  have T1 := T.nx X.kw f1
  have X1 := X.gf g1
  have N1' := N.gf g1
  have hc1 := hc.md g1.md
  refine ⟨T1.rc, by omega, c_gC ic hic T1 X1.kw hc1 (by omega) (fun h2 T2 g2 _ => ⟨(X1.gf g2).rc, c_next1 (N1'.gf g2) (X1.gf g2).kw X.i.1.2 (by omega) hm (by omega) (fun r h3 hr g3' f3 _ => ⟨⟨rfl, rfl⟩, ?_⟩)⟩)⟩
  have X2 := X1.gf g2
  have X3 := X2.gf g3'
  have N3 := (N1'.gf g2).gf g3'
  have T3 := T2.nx X2.kw f3
  have hc3 := (hc1.md g2.md).md g3'.md
  rw [hV r hr]
  have X4 := X3.fld (x := nI (lo + r)) (j := j) (k := i - 1) (by omega)
  have T4 := T3.si (j := j) (x := nI (lo + r)) X3.kw
  have N4 := N3.si (j := j) (x := nI (lo + r)) (by omega) hbw
  have l4 : Lw h3 (si h3 w j (nI (lo + r))) := (Oth.si h3 w j _).lw X.i.1.2
  have hc4 := hc3.md l4.md
  have hd := dec_len (n := lo + r)
  have hd2 : (dec (lo + r)).length ≤ 2 := by rw [hd]; split <;> omega
  refine ⟨X3.kw, T4.rc, by omega, c_gI T4 X4.kw hc4 (by omega) (by rw [List.length_append]; omega) (fun h5 T5 g5 _ => ⟨T5.rc, by omega, c_gC 2 (by decide) T5 (X4.gf g5).kw (hc4.md g5.md) (by rw [List.length_append, List.length_append, sl2]; omega) (fun h6 T6 g6 _ => ?_)⟩)⟩
  have g46 := g5.trans g6
  obtain ⟨x1, x2, x3⟩ := hx (lo + r) (by omega) (by omega)
  obtain ⟨P', G'⟩ := x3 P hG
  refine K1 h6 (lo + r) (by omega) (by omega) ⟨updB td (i - 1), ⟨W, nm, bs ++ (kwL i ++ ([32] ++ (dec (lo + r) ++ [59]))), q9 + 1, at1 + 1 + 0 + 1 + (0 + 0), X4.gf g46, ⟨hes, J, ((((F.gf X g1).gf X1 g2).gf X2 g3').siw X3 |>.eq (fun q hq _ => ups_n (by omega))).gf X4 g46⟩, ⟨?_, ?_⟩, ⟨N4.gf g46, by omega⟩, hc4.md g46.md, hR.app (kw_pos hi).1 (kw_pos hi).2 (p_set hi6 hi (he td (htd _ hk)) (by omega) x1 x2), hN.same (ups_n (by omega)) (ups_n (by omega)) (ups_n (by omega)), P', G'⟩, fun j hj => ?_⟩
  · have := T6
    rw [hq] at this
    simp only [List.append_assoc] at this ⊢
    exact this
  · have : (kwL i).length + 1 = (sQb.getD ic []).length := by rw [hq, List.length_append]; rfl
    rw [List.length_append, List.length_append, List.length_append, List.length_append]
    show bs.length + ((kwL i).length + (1 + ((dec (lo + r)).length + 1))) ≤ _
    have h8 : (sQb.getD ic []).length ≤ 8 := by
      have : (kwL i).length = kln i := kwL_len
      have := (by decide : ∀ i, i < 12 → 6 ≤ i → kln i ≤ 6) i hi hi6
      omega
    omega
  · show (td j || decide (j = i - 1)) = false
    rw [htd j (by omega), decide_eq_false (by omega)]; rfl
/-- nobody is down yet -/
theorem Good.upw (G : Good s) (P : PR s) (P' : PR u) (e : ∀ i, (i = 0 ∨ i = 1 ∨ i = 2 ∨ i = 5 ∨ i = 6 ∨ (20 ≤ i ∧ i < 44) ∨ 49 ≤ i) → u i = s i) : Good u := by
  obtain ⟨g1, g2, g3, g4⟩ := G
  have R := P.rk
  have hm := R.m.2
  have ec : ∀ k, k < nn (s 2) → cN u k = cN s k := fun k hk => cN_of (e _ (by omega)) (e _ (by omega))
  have ed : ∀ k, k < nn (u 2) → isD u k = false := fun k hk => isD_m1 (P'.m k hk).2.1
  unfold Good
  rw [e 2 (by omega)] at ed ⊢
  refine ⟨fun j k hj hk => ?_, fun k hk => ?_, fun j k hj hk hp => ?_, fun p => ?_⟩
  · rw [ec j hj, ec k hk, e 6 (by omega)]; exact g1 j k hj hk
  · have := com_lt R k hk
    rw [ec k hk, e 5 (by omega)]
    have := g2 k hk
    unfold rds at this ⊢
    rw [e _ (by omega), e _ (by omega)]; exact this
  · have h1 := com_lt R j hj
    have := g3 j k hj hk (by
      unfold par mf at hp ⊢
      rw [e _ (by omega), e _ (by omega), e _ (by omega)] at hp
      exact hp)
    rw [ec j hj, ec k hk]
    unfold tlk at this ⊢
    rw [e _ (by omega)]; exact this
  · have : cnt (nn (s 2)) (dnIn u p) = 0 := by
      have h0 : cnt (nn (s 2)) (dnIn u p) = cnt (nn (s 2)) (fun _ => false) := cnt_eq fun i hi => by
        unfold dnIn
        rw [ed i hi, Bool.and_false]
      rw [h0, cnt_ge (n := 0) (Nat.zero_le _) (fun _ _ _ => rfl)]; rfl
    rw [this]; exact Nat.zero_le _
end
