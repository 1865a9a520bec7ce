/-! ===== the law's World while it grows: its end ===== -/
section
variable {h h' h0 h1 h2 : PH} {w k v j t b tv at1 a n i L A m c lo ic kt p : Nat} {W : WN} {s s' s0 sw u : RW} {Q : Res → PH → Prop} {x y z : Int32} {bs cs : List Nat} {S T : List Nat} {nm nm0 : Nat → Int64} {td : Nat → Bool}
/-- what has grown -/
def GrF (s0 : RW) (nm0 : Nat → Int64) (w : Nat) (h : PH) (s : RW) : Prop := ∃ W nm bs m td s9 w9, WO h w W s ∧ W.es = [] ∧ gr h w 25 = some s9 ∧ StrQ h s9 w9 bs ∧ bs.length ≤ 580 ∧ Kc h ∧ Rdd s0 nm0 bs s nm td m ∧ PR s ∧ Good s ∧ NmI nm s
theorem WO.s25 {rv : Option Nat} (X : WO h w W s) : WO (sr h w 25 rv) w W s := by
  obtain ⟨⟨a1, a2, a3⟩, ⟨b1, b2, b3⟩, ⟨c1, c2, c3⟩, ⟨d1, d2, d3⟩, ⟨e1, e2, e3⟩⟩ := X.a
  obtain ⟨m1, m2, m3, m4⟩ := X.m
  obtain ⟨n1, n2⟩ := X.e
  obtain ⟨r1, r2, r3, r4, r5, r6, r7⟩ := X.r
  have hw := X.kw
  have ne : ∀ {n g : Nat}, qkd h n = g → g ≠ 2 → n ≠ w := fun e1 e2 e3 => by rw [e3, hw] at e1; exact e2 e1.symm
  have al : ∀ {l v : Nat} {es : List Nat} {g : Nat}, AlQ h l v es g → AlQ (sr h w 25 rv) l v es g := fun B => ⟨B.kl, (qsr_a (ne B.kl (by decide))).trans B.va, B.sz, B.le, B.el, by
    rcases B.2.2.2.2.2 with z | ⟨z1, z2, z3, z4, z5⟩
    · exact Or.inl z
    · exact Or.inr ⟨z1, z2, z3, fun i hi => (qsr_a (ne z1 (by decide))).trans (z4 i hi), fun i hi => (qsr_a (ne z1 (by decide))).trans (z5 i hi)⟩⟩
  exact ⟨X.i, ⟨(qsr_k (by decide)).trans r1, (qsr_k (by decide)).trans r2, (qsr_k (by decide)).trans r3, (qsr_k (by decide)).trans r4, (qsr_k (by decide)).trans r5, (qsr_k (by decide)).trans r6, (qsr_k (by decide)).trans r7⟩, ⟨⟨a1, a2, a3⟩, ⟨b1, b2, b3⟩, ⟨c1, c2, c3⟩, ⟨d1, d2, fun y hy => ⟨(qsr_a (ne d1 (by decide))).trans (d3 y hy).1, (d3 y hy).2⟩⟩, ⟨e1, e2, fun y hy => ⟨(qsr_a (ne e1 (by decide))).trans (e3 y hy).1, (e3 y hy).2⟩⟩⟩, ⟨al m1, m2, m3, m4⟩, ⟨al n1, n2⟩⟩
theorem g_549 (G : GU s0 nm0 w t b h s L A kt) (hL : L ≤ 580) (hc9 : c ≤ 39600) (K : ∀ h', GrF s0 nm0 w h' s → Q (.inl (some (.ref w))) h') : Bt mq_X13_grown Q 549 c [none, some (.ref w), some (.ref t), none, none] [] h := by
  obtain ⟨td, ⟨W, nm, bs, q9, at1, X, ⟨hes, J, F⟩, ⟨T, hbs⟩, ⟨N, hat⟩, hc, hR, hN, P, hG⟩, htd⟩ := G
  obtain ⟨t1, tv, B, t2⟩ := id T
  refine sq_X13_grown_549 ⟨T.rc, by omega, c_toS B (fun s9 w9 h1 X1 f1 l1 hs hw9 hs2 hw2 _ => ⟨(X.f0 f1 l1.md).kw, ?_⟩)⟩
  have hsw : s9 ≠ w := fun e => by rw [e, X.kw] at hs; cases hs
  have hww : w9 ≠ w := fun e => by rw [e, X.kw] at hw9; cases hw9
  have l2 : Lw h1 (sr h1 w 25 (some s9)) := (Oth.sr h1 w 25 _).lw X.i.1.2
  exact K _ ⟨W, nm, bs, q9, td, s9, w9, (X.f0 f1 l1.md).s25, hes, qsr_s, X1.fm (FmQ.sr (a := w)) (by simp [hsw]) (by simp [hww]), by omega, (hc.md l1.md).md l2.md, hR, P, hG, hN⟩
theorem GU.wk (G : GU s0 nm0 w t b h s L A kt) {kt2 : Nat} (hk : kt ≤ kt2) : GU s0 nm0 w t b h s L A kt2 := by
  obtain ⟨td, G, ht⟩ := G
  exact ⟨td, G, fun j hj => ht j (by omega)⟩
theorem e_set (hi8 : 8 ≤ i) (td : Nat → Bool) (h1 : td (i - 1) = false) : eFst s td i = 0 := by
  unfold eFst
  rw [if_neg (by omega), if_neg (by omega), if_neg (by omega), if_neg (by omega), if_neg (by omega), if_neg (by omega), h1, if_neg (by decide), if_neg (by omega)]
theorem up_set {x : Nat} (P : PR s) (G : Good s) (P' : PR (ups s k (nI x))) (hk : 7 ≤ k ∧ k ≤ 10) : Good (ups s k (nI x)) := G.upw P P' (fun i hi => ups_n (by omega))
theorem g_515 (G : GU s0 nm0 w t b h s L A 10) (hL : L ≤ 550) (hA : A ≤ 790) (hc9 : c ≤ 39000) (K : ∀ h' s', GrF s0 nm0 w h' s' → s' 0 = s 0 → s' 2 = s 2 → s' 5 = s 5 → Q (.inl (some (.ref w))) h') : Bt mq_X13_grown Q 515 c [none, some (.ref w), some (.ref t), none, none] [] h :=
  sq_X13_grown_515 (g_set (V := fun x => x) (lo := 0) (m := 90) (i := 11) (j := 5) (ic := 19) (c := c) G (by decide) rfl (by decide) (by decide) (by decide) (fun r _ => by rw [Nat.zero_add]) (by decide) (by decide) (by decide) (by decide) (by omega) (by omega) (by omega) (e_set (by decide)) (fun x h1 h2 => ⟨by show 0 ≤ x; omega, by show x ≤ 999; omega, fun P G => by
    have P' := P.set (w := 10) (x := nI x) (by right; right; right; right; right; exact ⟨rfl, isN_nI (by omega) (by decide)⟩)
    exact ⟨P', up_set P G P' (by decide)⟩⟩)
    (fun h1 G1 => g_549 G1 (by omega) (by omega) (fun h' g => K h' s g rfl rfl rfl)) (fun h1 x _ _ G1 => g_549 G1 (by omega) (by omega) (fun h' g => K h' _ g (ups_n (by decide)) (ups_n (by decide)) (ups_n (by decide)))))
end
