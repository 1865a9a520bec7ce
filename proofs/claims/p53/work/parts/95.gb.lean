/-! ===== the law's World while it grows: who may talk ===== -/
section
variable {h h' h0 h1 h2 hB : PH} {w k v j t b tv at1 a d n i L A m c lo ic kt p q t0 V : Nat} {W : WN} {s s' s0 sw u : RW} {Q : Res → PH → Prop} {x y z : Int32} {bs cs : List Nat} {S T : List Nat} {nm nm0 : Nat → Int64} {td : Nat → Bool} {hb : Bool}
def tN : Nat → Nat
  | 0 => 0
  | n + 1 => tN n + n
/-- the World's number of versions, of places is set -/
theorem WO.n01 (X : WO h w W s) (F : FA h W s) (hm : nn (s 2) = 0) (hjk : (j = 15 ∧ k = 0) ∨ (j = 16 ∧ k = 1)) (h8 : nn (ups s k x 0) ≤ 8) (h5 : nn (ups s k x 1) ≤ 5) : WO (si h w j x) w W (ups s k x) ∧ FA (si h w j x) W (ups s k x) := by
  have F' : FA (si h w j x) W (ups s k x) := (F.siw X).eq (fun i hi _ => ups_n (by omega))
  refine ⟨?_, F'⟩
  have hw := X.kw
  have ne : ∀ {n g : Nat}, qkd h n = g → g ≠ 2 → n ≠ w := fun e1 e2 e3 => by rw [e3, hw] at e1; exact e2 e1.symm
  obtain ⟨⟨a1, a2, a3⟩, ⟨b1, b2, b3⟩, ⟨c1, c2, c3⟩, ⟨d1, d2, d3⟩, ⟨e1, e2, e3⟩⟩ := X.a
  obtain ⟨m1, m2, m3, m4⟩ := X.m
  obtain ⟨n1, n2⟩ := X.e
  have u2 : ups s k x 2 = s 2 := ups_n (by omega)
  have al : ∀ {l v : Nat} {es : List Nat} {g : Nat}, AlQ h l v es g → AlQ (si h w j x) l v es g := fun B => ⟨B.kl, B.va, (qsi_a (ne B.kl (by decide))).trans B.sz, B.le, B.el, B.2.2.2.2.2⟩
  refine ⟨?_, X.r, ⟨⟨a1, a2, fun y hy => F'.1 y (by omega)⟩, ⟨b1, b2, fun y hy => F'.2.1 y (by omega)⟩, ⟨c1, c2, fun y hy => F'.2.2.1 y (by omega)⟩, ⟨d1, d2, fun y hy => ?_⟩, ⟨e1, e2, fun y hy => ?_⟩⟩, ⟨al m1, by rw [u2]; exact m2, m3, fun y hy => ?_⟩, ⟨al n1, n2⟩⟩
  · rcases hjk with q | q
    · exact X.i.fld (Or.inr (Or.inr (Or.inr (Or.inr (Or.inr (Or.inr (Or.inl q)))))))
    · exact X.i.fld (Or.inr (Or.inr (Or.inr (Or.inr (Or.inr (Or.inr (Or.inr (Or.inl q))))))))
  · obtain ⟨z1, z2, z3, z4⟩ := d3 y hy
    exact ⟨z1, z2, z3, fun b hb ha => F'.2.2.2.1 y hy b (by omega)⟩
  · obtain ⟨z1, z2, z3, z4⟩ := e3 y hy
    exact ⟨z1, z2, z3, fun b hb ha => by rw [u2, hm] at hb; exact absurd hb (Nat.not_lt_zero b)⟩
  · rw [m2, hm] at hy
    exact absurd hy (Nat.not_lt_zero y)
def UN (u : RW) (a b : Nat) : Prop := ∀ a' b', a' < b' → b' < nn (u 0) → (a < a' ∨ (a' = a ∧ b ≤ b')) → bt (u (36 + a')) b' = false
/-- what holds of a row ahead of its places -/
def RwB (u : RW) : Prop := nn (u 1) = 0 ∧ nn (u 2) = 0 ∧ nn (u 3) = 0 ∧ nn (u 4) = 0 ∧ (∀ q, q < 5 → u (44 + q) = -1) ∧ 2 ≤ nn (u 0) ∧ 1 ≤ nn (u 5)
theorem RwB.tal (ha : a < 8) (hv : v < 8) (R : RwB u) : RwB (talS u a v) := by
  obtain ⟨r1, r2, r3, r4, r5, r6, r7⟩ := R
  have o : ∀ i, i < 36 → talS u a v i = u i := fun i hi => tal_o (by omega)
  unfold RwB
  rw [o 1 (by decide), o 2 (by decide), o 3 (by decide), o 4 (by decide), o 0 (by decide), o 5 (by decide)]
  exact ⟨r1, r2, r3, r4, fun q hq => by rw [tal_o (by omega)]; exact r5 q hq, r6, r7⟩
theorem UN.tal (hav : a < v) (h8 : nn (u 0) ≤ 8) (hv : v < nn (u 0)) (U : UN u a v) : UN (talS u a v) a (v + 1) := by
  intro a' b' h1 h2 h3
  rw [tal_o (by omega)] at h2
  rw [tal_b (by omega) (by omega) (by omega) (by omega), U a' b' h1 h2 (by omega)]
  rcases Nat.lt_or_ge a a' with q | q
  · rw [decide_eq_false (show ¬ a' = a by omega), decide_eq_false (show ¬ b' = a by omega), Bool.and_false, Bool.false_and]; rfl
  · rw [decide_eq_false (show ¬ b' = v by omega), decide_eq_false (show ¬ b' = a by omega), Bool.and_false, Bool.and_false]; rfl
/-- what is wanted ahead of the places -/
def KTl (s0 : RW) (nm0 : Nat → Int64) (w t b V a n : Nat) (Q : Res → PH → Prop) : Prop := ∀ c u h L A, c + 1119 * n ≤ 19970 → L + 12 * n ≤ 285 → A + n + 1 ≤ 599 → GU s0 nm0 w t b h u L A 7 → RwB u → nn (u 0) = V → UN u a (a + 1) → Bt mq_X13_grown Q 233 c [none, some (.ref w), some (.ref t), some (.int (nI a)), none] [] h
theorem g_talk {N N' : PH → Prop} {m : Nat} (G : GU s0 nm0 w t b h u L A 7) (hm : 0 < m) (hm1 : m < 100) (hA : A ≤ 800) (hL : L ≤ 560) (hc9 : c + 1119 ≤ 40000) (h8 : nn (u 0) ≤ 8) (h2 : nn (u 2) = 0) (ha : a < v) (hv : v < nn (u 0)) (ht : bt (u (36 + a)) v = false) (K0 : ∀ h', GU s0 nm0 w t b h' u L (A + 1) 7 → N h') (K1 : ∀ h', GU s0 nm0 w t b h' (talS u a v) (L + 12) (A + 1) 7 → N' h') :
    rcvQ h w 2 ∧ MetQ mq_X13_next [.ref w, .int (nI m)] h (rI (fun _ _ => False) (fun x12 h11 => Lw h h11 → ((x12 ≤ 0 → N h11) ∧ (¬ x12 ≤ 0 → (rcvQ h11 w 2 ∧ ((c + 1119) ≤ 40000 ∧ MetQ mq_X13_talk [.ref w, .ref t, .int (nI a), .int (nI v)] h11 (rV (fun _ _ => False) (fun h13 => Lw h11 h13 → N' h13)))))))) := by
  obtain ⟨td, ⟨W, nm, bs, q9, at1, X, ⟨hes, J, F⟩, ⟨T, hbs⟩, ⟨N1, hat⟩, hc, hR, hN, P, hG⟩, htd⟩ := G
  refine ⟨X.rc, c_next1 N1 X.kw X.i.1.2 (by omega) hm (by omega) (fun r1 h1 hr1 g1 f1 _ => ?_)⟩
  have G1 : GS s0 nm0 w t b h1 u u td L (A + 1) := ⟨W, nm, bs, q9, at1 + 1, X.gf g1, ⟨hes, J, F.gf X g1⟩, ⟨T.nx X.kw f1, hbs⟩, ⟨N1.gf g1, by omega⟩, hc.md g1.md, hR, hN, P, hG⟩
  refine ⟨fun _ => K0 h1 ⟨td, G1, htd⟩, fun _ => ⟨(X.gf g1).rc, hc9, c_gTalk G1 h8 h2 (by omega) hv ha ?_ hL (fun h2 G2 _ => K1 h2 ⟨td, G2, htd⟩)⟩⟩
  unfold tlk
  rw [ht, decide_eq_false (by omega)]; rfl
theorem g_246 {V : Nat} (hV : V ≤ 8) : ∀ n v c u h L A, v + n = V → a < v → c + 1119 * (n + tN (V - (a + 1))) ≤ 19970 → L + 12 * (n + tN (V - (a + 1))) ≤ 285 → A + (n + tN (V - (a + 1))) + 1 ≤ 599 → KTl s0 nm0 w t b V (a + 1) (tN (V - (a + 1))) Q → GU s0 nm0 w t b h u L A 7 → RwB u → nn (u 0) = V → UN u a v → Bt mq_X13_grown Q 246 c [none, some (.ref w), some (.ref t), some (.int (nI a)), some (.int (nI v))] [] h := by
  intro n
  induction n with
  | zero =>
    intro v c u h L A hv hav hc hL hA K G R e0 U
    obtain ⟨W, X⟩ := G.wo
    have e15 : gi h w 15 = nI V := by rw [X.i.2.1.2.2.2.2.2.2.2.2.1, G.pr.v.1.1, e0]
    refine sq_X13_grown_246 ⟨X.kw, ?_⟩
    rw [e15]
    refine ⟨fun _ => ?_, fun z => absurd (nI_le (a := V) (b := v) (by omega) (by omega)) z⟩
    rw [nI_add]
    exact K c u h L A (by omega) (by omega) (by omega) G R e0 (fun a' b' h1 h2 h3 => U a' b' h1 h2 (Or.inl (by omega)))
  | succ n ih =>
    intro v c u h L A hv hav hc hL hA K G R e0 U
    obtain ⟨W, X⟩ := G.wo
    have e15 : gi h w 15 = nI V := by rw [X.i.2.1.2.2.2.2.2.2.2.2.1, G.pr.v.1.1, e0]
    have hc1 : c + 1119 ≤ 40000 := by
      have : 1119 * 1 ≤ 1119 * (n + 1 + tN (V - (a + 1))) := Nat.mul_le_mul_left _ (by omega)
      omega
    have hc2 : c + 1119 + 1119 * (n + tN (V - (a + 1))) ≤ 19970 := by
      rw [show n + 1 + tN (V - (a + 1)) = (n + tN (V - (a + 1))) + 1 by omega, Nat.mul_succ] at hc
      omega
    have ut : bt (u (36 + a)) v = false := U a v hav (by omega) (Or.inr ⟨rfl, Nat.le_refl _⟩)
    have k0 : ∀ h1, GU s0 nm0 w t b h1 u L (A + 1) 7 → Bt mq_X13_grown Q 284 c [none, some (.ref w), some (.ref t), some (.int (nI a)), some (.int (nI v))] [] h1 := fun h1 G1 => sq_X13_grown_284 (by
      rw [nI_add]
      exact ih (v + 1) c u h1 L (A + 1) (by omega) (by omega) (by omega) (by omega) (by omega) K G1 R e0 (fun a' b' h1 h2 h3 => U a' b' h1 h2 (by omega)))
    have k1 : ∀ h1, GU s0 nm0 w t b h1 (talS u a v) (L + 12) (A + 1) 7 → Bt mq_X13_grown Q 284 (c + 1119) [none, some (.ref w), some (.ref t), some (.int (nI a)), some (.int (nI v))] [] h1 := fun h1 G1 => sq_X13_grown_284 (by
      rw [nI_add]
      exact ih (v + 1) (c + 1119) (talS u a v) h1 (L + 12) (A + 1) (by omega) (by omega) hc2 (by omega) (by omega) K G1 (R.tal (by omega) (by omega)) (by rw [tal_o (by omega)]; exact e0) (U.tal hav (by omega) (by omega)))
    refine sq_X13_grown_246 ⟨X.kw, ?_⟩
    rw [e15]
    refine ⟨fun z => absurd z (nI_ge (by omega) (by omega)), fun _ => ⟨fun _ => ?_, fun _ => ?_⟩⟩
    · exact g_talk G (by decide) (by decide) (by omega) (by omega) hc1 (by omega) R.2.1 hav (by omega) ut k0 k1
    · exact g_talk G (by decide) (by decide) (by omega) (by omega) hc1 (by omega) R.2.1 hav (by omega) ut k0 k1
theorem g_233 {V : Nat} (hV : V ≤ 8) (K : KG s0 nm0 w Q) : ∀ n a, a + n = V → KTl s0 nm0 w t b V a (tN n) Q := by
  intro n
  induction n with
  | zero =>
    intro a ha c u h L A hc hL hA G R e0 U
    obtain ⟨td, ⟨W, nm, bs, q9, at1, X, ⟨hes, J, F⟩, ⟨T, hbs⟩, ⟨N, hat⟩, hc0, hR, hN, P, hG⟩, htd⟩ := G
    have e15 : gi h w 15 = nI V := by rw [X.i.2.1.2.2.2.2.2.2.2.2.1, P.v.1.1, e0]
    obtain ⟨r1, r2, r3, r4, r5, r6, r7⟩ := id R
    have e3 : tN 0 = 0 := rfl
    rw [e3] at hc hL hA
    refine sq_X13_grown_233 ⟨X.kw, ?_⟩
    rw [e15]
    refine ⟨fun _ => ⟨X.rc, c_next1 N X.kw X.i.1.2 (by omega) (by decide) (by decide) (fun r h1 hr g1 f1 _ => ?_)⟩, fun z => absurd (nI_le (a := V) (b := a) (by omega) (by omega)) z⟩
    rw [nI_add]
    have X1 := X.gf g1
    have l2 : Lw h1 (si h1 w 16 (nI (1 + r))) := (Oth.si h1 w 16 _).lw X.i.1.2
    have v8 : nn (ups u 1 (nI (1 + r)) 0) ≤ 8 := by rw [ups_n (by decide), e0]; exact hV
    have v5 : nn (ups u 1 (nI (1 + r)) 1) ≤ 5 := by rw [ups_s, nn_nI (by omega)]; omega
    obtain ⟨X2, F2⟩ := X1.n01 (x := nI (1 + r)) (j := 16) (k := 1) (F.gf X g1) r2 (Or.inr ⟨rfl, rfl⟩) v8 v5
    have hbw : b ≠ w := by have := N.2.2.2.2; have := X.i.1.2; omega
    refine ⟨X1.kw, g_309 (v := 1 + r) K (by omega) (1 + r) 0 c u _ L (A + 1) (by omega) (by omega) (by omega) (by omega) ⟨td, ⟨W, nm, bs, q9, at1 + 1, X2, ⟨hes, J, F2⟩, ⟨(T.nx X.kw f1).si X1.kw, hbs⟩, ⟨(N.gf g1).si (by decide) hbw, by omega⟩, (hc0.md g1.md).md l2.md, hR, hN, P, hG⟩, htd⟩ r1 r3 (fun q hq => r5 q hq) r6 r4 r2 r7⟩
  | succ n ih =>
    intro a ha c u h L A hc hL hA G R e0 U
    obtain ⟨W, X⟩ := G.wo
    have e15 : gi h w 15 = nI V := by rw [X.i.2.1.2.2.2.2.2.2.2.2.1, G.pr.v.1.1, e0]
    refine sq_X13_grown_233 ⟨X.kw, ?_⟩
    rw [e15]
    refine ⟨fun z => absurd z (nI_ge (by omega) (by omega)), fun _ => ?_⟩
    rw [nI_add]
    have en : V - (a + 1) = n := by omega
    have et : tN (n + 1) = n + tN n := Nat.add_comm _ _
    rw [et] at hc hL hA
    exact g_246 hV n (a + 1) c u h L A (by omega) (by omega) (by rw [en]; exact hc) (by rw [en]; exact hL) (by rw [en]; exact hA) (by rw [en]; exact ih (a + 1) (by omega)) G R e0 U
end
