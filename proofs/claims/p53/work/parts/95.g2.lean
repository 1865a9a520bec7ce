/-! ===== the law's World while it grows: arrays, talks, places ===== -/
section
variable {h h' h0 h1 h2 : PH} {w k v j t b tv at1 a n i L A m c : Nat} {W : WN} {s s' s0 sw u : RW} {Q : Res → PH → Prop} {x y z : Int32} {bs cs : List Nat} {S T : List Nat} {nm nm0 : Nat → Int64} {td : Nat → Bool}
theorem sl0 : (sQb.getD 0 []).length = 0 := rfl
theorem sl1 : (sQb.getD 1 []).length = 7 := rfl
theorem sl2 : (sQb.getD 2 []).length = 1 := rfl
theorem sl3 : (sQb.getD 3 []).length = 5 := rfl
theorem sl4 : (sQb.getD 4 []).length = 8 := rfl
theorem sl5 : (sQb.getD 5 []).length = 1 := rfl
theorem sl6 : (sQb.getD 6 []).length = 1 := rfl
theorem sl7 : (sQb.getD 7 []).length = 3 := rfl
theorem sl8 : (sQb.getD 8 []).length = 6 := rfl
theorem sl9 : (sQb.getD 9 []).length = 6 := rfl
theorem sl10 : (sQb.getD 10 []).length = 1 := rfl
theorem sl11 : (sQb.getD 11 []).length = 7 := rfl
theorem sl12 : (sQb.getD 12 []).length = 1 := rfl
theorem sl13 : (sQb.getD 13 []).length = 6 := rfl
theorem sl14 : (sQb.getD 14 []).length = 5 := rfl
theorem sl15 : (sQb.getD 15 []).length = 5 := rfl
theorem sl16 : (sQb.getD 16 []).length = 5 := rfl
theorem sl17 : (sQb.getD 17 []).length = 6 := rfl
theorem sl18 : (sQb.getD 18 []).length = 5 := rfl
theorem sl19 : (sQb.getD 19 []).length = 6 := rfl
/-- its arrays, in full -/
def FA (h : PH) (W : WN) (s : RW) : Prop := (∀ v, v < 8 → gi h (W.u 4) v = s (20 + v)) ∧ (∀ v, v < 8 → gi h (W.u 5) v = s (28 + v)) ∧ (∀ p, p < 5 → gi h (W.u 6) p = s (44 + p)) ∧ (∀ a, a < 8 → ∀ b, b < 8 → gi h (W.tr a) b = b2i (bt (s (36 + a)) b)) ∧ (∀ a, a < 12 → ∀ b, b < 12 → gi h (W.lr a) b = b2i (bt (mf s a 6) b))
theorem FA.gf {n : Nat} (F : FA h W s) (X : WO h w W sw) (f : GF w n h h') : FA h' W s := by
  obtain ⟨f1, f2, f3, f4, f5⟩ := F
  obtain ⟨⟨a1, a2, a3⟩, ⟨b1, b2, b3⟩, ⟨c1, c2, c3⟩, ⟨d1, d2, d3⟩, ⟨e1, e2, e3⟩⟩ := X.a
  have hw := X.kw
  exact ⟨fun v hv => ((f.o a1 (by decide) hw).1 v).trans (f1 v hv), fun v hv => ((f.o b1 (by decide) hw).1 v).trans (f2 v hv), fun v hv => ((f.o c1 (by decide) hw).1 v).trans (f3 v hv), fun a ha b hb => ((f.o (d3 a ha).2.1 (by decide) hw).1 b).trans (f4 a ha b hb), fun a ha b hb => ((f.o (e3 a ha).2.1 (by decide) hw).1 b).trans (f5 a ha b hb)⟩
theorem FA.eq (F : FA h W s) (e : ∀ i, 20 ≤ i → i < 133 → u i = s i) : FA h W u := by
  obtain ⟨f1, f2, f3, f4, f5⟩ := F
  refine ⟨fun v hv => ?_, fun v hv => ?_, fun v hv => ?_, fun a ha b hb => ?_, fun a ha b hb => ?_⟩
  · rw [e _ (by omega) (by omega)]; exact f1 v hv
  · rw [e _ (by omega) (by omega)]; exact f2 v hv
  · rw [e _ (by omega) (by omega)]; exact f3 v hv
  · rw [e _ (by omega) (by omega)]; exact f4 a ha b hb
  · rw [show mf u a 6 = mf s a 6 from e _ (by omega) (by omega)]; exact f5 a ha b hb
theorem FA.siw (F : FA h W s) (X : WO h w W sw) {j : Nat} {x : Int32} : FA (si h w j x) W s := by
  obtain ⟨f1, f2, f3, f4, f5⟩ := F
  obtain ⟨⟨a1, a2, a3⟩, ⟨b1, b2, b3⟩, ⟨c1, c2, c3⟩, ⟨d1, d2, d3⟩, ⟨e1, e2, e3⟩⟩ := X.a
  have ne : ∀ {n g : Nat}, qkd h n = g → g ≠ 2 → n ≠ w := fun e1 e2 e3 => by rw [e3, X.kw] at e1; exact e2 e1.symm
  exact ⟨fun v hv => (qsi_a (ne a1 (by decide))).trans (f1 v hv), fun v hv => (qsi_a (ne b1 (by decide))).trans (f2 v hv), fun v hv => (qsi_a (ne c1 (by decide))).trans (f3 v hv), fun a ha b hb => (qsi_a (ne (d3 a ha).2.1 (by decide))).trans (f4 a ha b hb), fun a ha b hb => (qsi_a (ne (e3 a ha).2.1 (by decide))).trans (f5 a ha b hb)⟩
/-- arrays change -/
theorem WO.arr (X : WO h w W s) (R8 : nn (s 0) ≤ 8) (R5 : nn (s 1) ≤ 5) (R12 : nn (s 2) ≤ 12) (hc : Kc h) (f : FmQ S h h') (l : Lw h h') (hS : ∀ n ∈ S, qkd h n = 16 ∨ qkd h n = 22) (e : ∀ i, i < 20 → u i = s i) (em : ∀ k j, j < 6 → mf u k j = mf s k j) (F : FA h' W u) : WO h' w W u := by
  obtain ⟨A4, A5, A6, A7, A8⟩ := F
  have nz : ∀ {n g : Nat}, qkd h n = g → g ≠ 0 → ¬ qkd h n = 0 := fun e1 e2 => by rw [e1]; exact e2
  have nS : ∀ {n g : Nat}, qkd h n = g → g ≠ 16 → g ≠ 22 → n ∉ S := fun e1 e2 e3 hn => by
    rcases hS _ hn with q | q
    · rw [e1] at q; exact e2 q
    · rw [e1] at q; exact e3 q
  obtain ⟨r1, r2, r3, r4, r5, r6, r7⟩ := X.r
  obtain ⟨⟨a1, a2, a3⟩, ⟨b1, b2, b3⟩, ⟨c1, c2, c3⟩, ⟨d1, d2, d3⟩, ⟨e1, e2, e3⟩⟩ := X.a
  obtain ⟨m1, m2, m3, m4⟩ := X.m
  obtain ⟨n1, n2⟩ := X.e
  have hw := X.kw
  have Rr : ∀ j, gr h' w j = gr h w j := fun j => f.r (nz hw (by decide)) (nS hw (by decide) (by decide))
  have va : ∀ {l v : Nat} {es : List Nat} {g : Nat}, AlQ h l v es g → v ∉ S := fun A hv => by
    rcases A.2.2.2.2.2 with ⟨q, -⟩ | ⟨q, -⟩
    · rcases hS _ hv with q2 | q2 <;> (rw [q, hc.1.1] at q2; cases q2)
    · rcases hS _ hv with q2 | q2 <;> (rw [q] at q2; cases q2)
  refine ⟨X.i.eq9 (fun j => f.i (nz hw (by decide)) (nS hw (by decide) (by decide))) (f.kd (nz hw (by decide))) (fun i hi => e i (by omega)), ⟨by rw [Rr]; exact r1, by rw [Rr]; exact r2, by rw [Rr]; exact r3, by rw [Rr]; exact r4, by rw [Rr]; exact r5, by rw [Rr]; exact r6, by rw [Rr]; exact r7⟩, ⟨⟨(f.kd (nz a1 (by decide))).trans a1, (f.ln (nz a1 (by decide))).trans a2, fun y hy => A4 y (by rw [e 0 (by decide)] at hy; omega)⟩, ⟨(f.kd (nz b1 (by decide))).trans b1, (f.ln (nz b1 (by decide))).trans b2, fun y hy => A5 y (by rw [e 0 (by decide)] at hy; omega)⟩, ⟨(f.kd (nz c1 (by decide))).trans c1, (f.ln (nz c1 (by decide))).trans c2, fun y hy => A6 y (by rw [e 1 (by decide)] at hy; omega)⟩, ⟨(f.kd (nz d1 (by decide))).trans d1, (f.ln (nz d1 (by decide))).trans d2, fun y hy => ?_⟩, ⟨(f.kd (nz e1 (by decide))).trans e1, (f.ln (nz e1 (by decide))).trans e2, fun y hy => ?_⟩⟩, ⟨m1.fm (by decide) f l.md (nS m1.kl (by decide) (by decide)) (va m1), by rw [e 2 (by decide)]; exact m2, m3, fun y hy => ⟨(m4 y hy).1, fun j hj => ?_⟩⟩, ⟨n1.fm (by decide) f l.md (nS n1.kl (by decide) (by decide)) (va n1), n2⟩⟩
  · obtain ⟨z1, z2, z3, z4⟩ := d3 y hy
    refine ⟨(f.r (nz d1 (by decide)) (nS d1 (by decide) (by decide))).trans z1, (f.kd (nz z2 (by decide))).trans z2, (f.ln (nz z2 (by decide))).trans z3, fun b hb ha => ?_⟩
    rw [e 0 (by decide)] at hb ha
    exact A7 y hy b (by omega)
  · obtain ⟨z1, z2, z3, z4⟩ := e3 y hy
    refine ⟨(f.r (nz e1 (by decide)) (nS e1 (by decide) (by decide))).trans z1, (f.kd (nz z2 (by decide))).trans z2, (f.ln (nz z2 (by decide))).trans z3, fun b hb ha => ?_⟩
    rw [e 2 (by decide)] at hb ha
    exact A8 y hy b (by omega)
  · rw [em _ _ hj]
    have km := X.km hy
    exact (f.i (nz km (by decide)) (nS km (by decide) (by decide))).trans ((m4 y hy).2 j hj)
/-- its arrays are not one another -/
def WInj (W : WN) : Prop := (∀ a b, a < 8 → b < 8 → W.tr a = W.tr b → a = b) ∧ (∀ a b, a < 12 → b < 12 → W.lr a = W.lr b → a = b) ∧ (∀ a b, a < 8 → b < 12 → W.tr a ≠ W.lr b) ∧ (W.u 4 ≠ W.u 5 ∧ W.u 4 ≠ W.u 6 ∧ W.u 5 ≠ W.u 6) ∧ (2000 ≤ W.u 4 ∧ 2000 ≤ W.u 5 ∧ 2000 ≤ W.u 6) ∧ (∀ a, a < 8 → 2000 ≤ W.tr a) ∧ ∀ a, a < 12 → 2000 ≤ W.lr a
/-- the World and the text, as far as they have grown: the World's row, the text's -/
def GS (s0 : RW) (nm0 : Nat → Int64) (w t b : Nat) (h : PH) (sw s : RW) (td : Nat → Bool) (L A : Nat) : Prop :=
  ∃ W nm bs m at1, WO h w W sw ∧ (W.es = [] ∧ WInj W ∧ FA h W sw) ∧ (TX h t bs ∧ bs.length ≤ L) ∧ (NX h w b at1 ∧ at1 ≤ A) ∧ Kc h ∧ Rdd s0 nm0 bs s nm td m ∧ NmI nm s ∧ PR s ∧ Good s
theorem TX.ar (T : TX h t bs) (f : FmQ S h h') (hS : ∀ n ∈ S, qkd h n = 16 ∨ qkd h n = 22) : TX h' t bs := T.fm f (fun a ha _ => by have := hS a ha; omega)
theorem NX.fm (N : NX h w b at1) (hw : qkd h w = 2) (f : FmQ S h h') (l : Lw h h') (hn : w ∉ S) : NX h' w b at1 := by
  obtain ⟨a1, a2, a3, a4, a5⟩ := N
  have hz : ¬ qkd h w = 0 := by rw [hw]; decide
  have hb : 1000 ≤ b := by
    rcases Nat.lt_or_ge b 1000 with q | q
    · exfalso
      unfold qkd at a3
      rw [Nat.blt_eq.mpr q] at a3
      cases a3
    · exact q
  exact ⟨(f.r hz hn).trans a1, (f.i hz hn).trans a2, by rw [l.md.kd a5]; exact a3, by rw [l.md.ln hb a5]; exact a4, a5⟩
theorem nS_w (hw : qkd h w = 2) (hS : ∀ n ∈ S, qkd h n = 16 ∨ qkd h n = 22) : w ∉ S := fun e => by have := hS w e; omega
theorem Good.zero (e : nn (s 2) = 0) : Good s := by
  unfold Good
  rw [e]
  exact ⟨fun j k hj => absurd hj (Nat.not_lt_zero j), fun k hk => absurd hk (Nat.not_lt_zero k), fun j k hj => absurd hj (Nat.not_lt_zero j), fun p => Nat.zero_le _⟩
theorem b2i_or {x : Int32} {p : Bool} (e : x = b2i p) (q : Bool) : (if q = true then nI 1 else x) = b2i (p || q) := by
  cases q
  · rw [if_neg (by decide), Bool.or_false]; exact e
  · rw [if_pos rfl, Bool.or_true]; rfl
theorem kw_pos (hi : i < 12) : 0 < (kwL i ++ cs).length ∧ 33 ≤ (kwL i ++ cs).getD 0 0 := by
  obtain ⟨k1, k2, k3⟩ := kw_ok i (by omega)
  have h3 := leC_t (k3 0 (by omega) (by omega))
  refine ⟨by rw [List.length_append, kwL_len]; omega, ?_⟩
  rw [gD_l (by rw [kwL_len]; omega)]
  show 33 ≤ klt i 0
  rw [Nat.zero_add] at h3
  omega
theorem c_gTalk (G : GS s0 nm0 w t b h s s td L A) (h8 : nn (s 0) ≤ 8) (hm : nn (s 2) = 0) (ha : a < nn (s 0)) (hv : v < nn (s 0)) (hav : a < v) (ht : tlk s a v = false) (hL : L ≤ 560) (K : ∀ h', GS s0 nm0 w t b h' (talS s a v) (talS s a v) td (L + 12) A → Q (.inl none) h') : MetQ mq_X13_talk [.ref w, .ref t, .int (nI a), .int (nI v)] h Q := by
  obtain ⟨W, nm, bs, m, at1, X, ⟨hes, J, F⟩, ⟨T, hbs⟩, ⟨N, hat⟩, hc, hR, hN, P, hG⟩ := G
  obtain ⟨-, -, -, ⟨d1, d2, d3⟩, -⟩ := id X.a
  obtain ⟨za1, za2, za3, za4⟩ := d3 a (by omega)
  obtain ⟨zv1, zv2, zv3, zv4⟩ := d3 v (by omega)
  have ea : (nI a).toNatClampNeg = a := nI_clamp (by omega)
  have ev : (nI v).toNatClampNeg = v := nI_clamp (by omega)
  have r4 := X.r.2.2.2.1
  have hne : W.tr a ≠ W.tr v := fun e => by have := J.1 a v (by omega) (by omega) e; omega
  have l1 : Lw h (si (si h (W.tr a) v (nI 1)) (W.tr v) a (nI 1)) := ((Oth.si h _ v _).lw (J.2.2.2.2.2.1 a (by omega))).trans ((Oth.si _ _ a _).lw (J.2.2.2.2.2.1 v (by omega)))
  have f1 : FmQ [W.tr a, W.tr v] h (si (si h (W.tr a) v (nI 1)) (W.tr v) a (nI 1)) := ((FmQ.si (a := W.tr a)).mono (fun n hn _ => by rw [List.mem_singleton.mp hn]; exact List.mem_cons_self)).trans (FmQ.si (a := W.tr v)) (fun n hn _ => by rw [List.mem_singleton.mp hn]; exact List.mem_cons_of_mem _ List.mem_cons_self)
  have hS : ∀ n ∈ [W.tr a, W.tr v], qkd h n = 16 ∨ qkd h n = 22 := fun n hn => by
    rcases List.mem_cons.mp hn with q | q
    · rw [q]; exact Or.inr za2
    · rw [List.mem_singleton.mp q]; exact Or.inr zv2
  have o16 : ∀ n j, qkd h n = 16 → gi (si (si h (W.tr a) v (nI 1)) (W.tr v) a (nI 1)) n j = gi h n j := fun n j hn => by
    rw [qsi_a (fun e => by rw [e, zv2] at hn; cases hn), qsi_a (fun e => by rw [e, za2] at hn; cases hn)]
  obtain ⟨⟨a1, a2, a3⟩, ⟨b1, b2, b3⟩, ⟨c1, c2, c3⟩, -, ⟨e1, e2, e3⟩⟩ := X.a
  have F1 : FA (si (si h (W.tr a) v (nI 1)) (W.tr v) a (nI 1)) W (talS s a v) := by
    obtain ⟨F4, F5, F6, F7, F8⟩ := F
    refine ⟨fun y hy => ?_, fun y hy => ?_, fun y hy => ?_, fun y hy c hc => ?_, fun y hy c hc => ?_⟩
    · rw [o16 _ _ a1, tal_o (by omega)]; exact F4 y hy
    · rw [o16 _ _ b1, tal_o (by omega)]; exact F5 y hy
    · rw [o16 _ _ c1, tal_o (by omega)]; exact F6 y hy
    · rw [tal_b (by omega) (by omega) (by omega) (by omega)]
      have y4 := F7 y hy c hc
      by_cases q : y = v
      · subst q
        by_cases q2 : c = a
        · subst q2
          rw [qsi_s, decide_eq_false (show ¬ y = c by omega), decide_eq_true (show y = y from rfl), decide_eq_true (show c = c from rfl)]
          simp only [Bool.and_self, Bool.or_true]; rfl
        · rw [qsi_k q2, qsi_a (fun e => hne e.symm), y4, decide_eq_false (show ¬ y = a by omega), decide_eq_false q2]
          simp only [Bool.false_and, Bool.and_false, Bool.or_false]
      · rw [qsi_a (fun e => q (J.1 y v hy (by omega) e))]
        by_cases q2 : y = a
        · subst q2
          by_cases q3 : c = v
          · subst q3
            rw [qsi_s, decide_eq_true (show y = y from rfl), decide_eq_true (show c = c from rfl)]
            simp only [Bool.and_self, Bool.true_or, Bool.or_true]; rfl
          · rw [qsi_k q3, y4, decide_eq_false q3, decide_eq_false q]
            simp only [Bool.false_and, Bool.and_false, Bool.or_false]
        · rw [qsi_a (fun e => q2 (J.1 y a hy (by omega) e)), y4, decide_eq_false q2, decide_eq_false q]
          simp only [Bool.false_and, Bool.or_false]
    · rw [qsi_a (fun e => J.2.2.1 v y (by omega) hy e.symm), qsi_a (fun e => J.2.2.1 a y (by omega) hy e.symm), show mf (talS s a v) y 6 = mf s y 6 from tal_o (by omega)]; exact F8 y hy c hc
  have X1 : WO (si (si h (W.tr a) v (nI 1)) (W.tr v) a (nI 1)) w W (talS s a v) := X.arr h8 P.x.1.2 P.x.2.1.2 hc f1 l1 hS (fun i hi => tal_o (by omega)) (fun k j _ => tal_o (by omega)) F1
  have T1 := T.ar f1 hS
  have N1 := N.fm X.kw f1 l1 (nS_w X.kw hS)
  have hc1 := hc.md l1.md
  have r41 : gr (si (si h (W.tr a) v (nI 1)) (W.tr v) a (nI 1)) w 21 = some (W.u 7) := r4
  refine tq_X13_talk ⟨X.kw, g3 r4 ⟨d1, by rw [d2]; exact vp_in_nI (by omega) (by decide), ?_⟩⟩
  rw [ea, ev]
  refine g3 za1 ⟨za2, by rw [za3]; exact vp_in_nI (by omega) (by decide), Or.inr rfl, X.kw, g3 (b := W.u 7) r4 ⟨d1, by show vp_in (nI v) (qln h (W.u 7)); rw [d2]; exact vp_in_nI (by omega) (by decide), g3 (b := W.tr v) zv1 ⟨zv2, by show vp_in (nI a) (qln h (W.tr v)); rw [zv3]; exact vp_in_nI (by omega) (by decide), Or.inr rfl, ?_⟩⟩⟩
  refine ⟨T1.rc, by decide, c_gC 8 (by decide) T1 X1.kw hc1 (by simp only [List.length_append, List.length_cons, List.length_nil, sl0, sl1, sl2, sl3, sl4, sl5, sl6, sl7, sl8, sl9, sl10, sl11, sl12, sl13, sl14, sl15, sl16, sl17, sl18, sl19]; omega) (fun h2 T2 g2 _ => ⟨by decide, c_gN 5 (by decide) rfl T2 (X1.gf g2).kw (hc1.md g2.md) (by omega) (by simp only [List.length_append, List.length_cons, List.length_nil, sl0, sl1, sl2, sl3, sl4, sl5, sl6, sl7, sl8, sl9, sl10, sl11, sl12, sl13, sl14, sl15, sl16, sl17, sl18, sl19]; omega) (by decide) (fun h3 T3 g3' => ⟨T3.rc, by decide, ?_⟩)⟩)⟩
  have g13 := g2.trans g3'
  refine c_gC 6 (by decide) T3 (X1.gf g13).kw (hc1.md g13.md) (by simp only [List.length_append, List.length_cons, List.length_nil, sl0, sl1, sl2, sl3, sl4, sl5, sl6, sl7, sl8, sl9, sl10, sl11, sl12, sl13, sl14, sl15, sl16, sl17, sl18, sl19]; omega) (fun h4 T4 g4 _ => ⟨by decide, c_gN 5 (by decide) rfl T4 (X1.gf (g13.trans g4)).kw (hc1.md (g13.trans g4).md) (by omega) (by simp only [List.length_append, List.length_cons, List.length_nil, sl0, sl1, sl2, sl3, sl4, sl5, sl6, sl7, sl8, sl9, sl10, sl11, sl12, sl13, sl14, sl15, sl16, sl17, sl18, sl19]; omega) (by decide) (fun h5 T5 g5 => ⟨T5.rc, by decide, ?_⟩)⟩)
  have g15 := (g13.trans g4).trans g5
  refine c_gC 2 (by decide) T5 (X1.gf g15).kw (hc1.md g15.md) (by simp only [List.length_append, List.length_cons, List.length_nil, sl0, sl1, sl2, sl3, sl4, sl5, sl6, sl7, sl8, sl9, sl10, sl11, sl12, sl13, sl14, sl15, sl16, sl17, sl18, sl19]; omega) (fun h6 T6 g6 _ => K h6 ?_)
  have g16 := g15.trans g6
  refine ⟨W, nm, bs ++ (kwL 1 ++ [32, 118, 97 + a, 32, 118, 97 + v, 59]), m + 1, at1, X1.gf g16, ⟨hes, J, F1.gf X1 g16⟩, ⟨?_, ?_⟩, ⟨N1.gf g16, hat⟩, hc1.md g16.md, hR.app (kw_pos (by decide)).1 (kw_pos (by decide)).2 (p_tal hN h8 ha hv (by omega) ht), hN.same (tal_o (by omega)) (tal_o (by omega)) (tal_o (by omega)), P.tal (by omega) ha hv, Good.zero (by rw [tal_o (by omega)]; exact hm)⟩
  · have := T6
    rw [List.append_assoc, List.append_assoc, List.append_assoc, List.append_assoc] at this
    exact this
  · rw [List.length_append]
    show bs.length + 12 ≤ _
    omega
end
