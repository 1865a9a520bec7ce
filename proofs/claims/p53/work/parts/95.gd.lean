/-! ===== the law's World while it grows: from its settings on ===== -/
section
variable {h h' h0 h1 h2 hB : PH} {w k v j t b tv at1 a d n i L A m c lo ic kt p q t0 V hi r : Nat} {W : WN} {s s' s0 sw u : RW} {Q : Res → PH → Prop} {x y z : Int32} {bs cs : List Nat} {S T : List Nat} {nm nm0 : Nat → Int64} {td : Nat → Bool} {hb : Bool}
/-- what holds of a row ahead of its talks -/
def RwC (u : RW) : Prop := nn (u 1) = 0 ∧ nn (u 2) = 0 ∧ nn (u 3) = 0 ∧ nn (u 4) = 0 ∧ (∀ q, q < 5 → u (44 + q) = -1) ∧ (∀ a b, a < 8 → b < 8 → bt (u (36 + a)) b = false) ∧ 1 ≤ nn (u 5)
theorem RwC.ver {lo hi : Int32} (R : RwC u) (h8 : nn (u 0) < 8) : RwC (verS u lo hi) := by
  obtain ⟨r1, r2, r3, r4, r5, r6, r7⟩ := R
  have o : ∀ i, i ≠ 0 → (i < 20 ∨ 36 ≤ i) → verS u lo hi i = u i := fun i x1 x2 => ver_o (by omega)
  unfold RwC
  rw [o 1 (by decide) (by decide), o 2 (by decide) (by decide), o 3 (by decide) (by decide), o 4 (by decide) (by decide), o 5 (by decide) (by decide)]
  exact ⟨r1, r2, r3, r4, fun q hq => by rw [o _ (by omega) (by omega)]; exact r5 q hq, fun a b ha hb => by rw [o _ (by omega) (by omega)]; exact r6 a b ha hb, r7⟩
theorem ver_ups {lo hi : Int32} (ek : nn (u 0) = k) : ups (ups (ups u 0 x) (20 + k) lo) (28 + k) hi = ups (verS u lo hi) 0 x := by
  funext i
  unfold verS ups
  rw [ek]
  by_cases q0 : i = 0
  · rw [if_neg (by omega), if_neg (by omega), if_pos q0, if_pos q0]
  · rw [if_neg q0, if_neg q0, if_neg q0]
theorem tN_le (h : n ≤ 5) : tN n ≤ 10 := (by decide : ∀ n, n < 6 → tN n ≤ 10) n (by omega)
theorem g_104 (hV : 2 ≤ V ∧ V ≤ 5) (K : KG s0 nm0 w Q) : ∀ n k c u h L A, k + n = V → c + 1014 * n ≤ 8700 → L + 17 * n ≤ 165 → A + 3 * n ≤ 580 → GV s0 nm0 w t b h 0 V u L A 7 → nn (u 0) = k → RwC u → Bt mq_X13_grown Q 104 c [none, some (.ref w), some (.ref t), some (.int (nI k)), none] [] h := by
  intro n
  induction n with
  | zero =>
    intro k c u h L A hk hc hL hA G ek R
    obtain ⟨td, ⟨W, nm, bs, q9, at1, X, ⟨hes, J, F⟩, ⟨T, hbs⟩, ⟨N, hat⟩, hc0, hR, hN, P, hG⟩, htd⟩ := G
    have kV : k = V := by omega
    have eu : u 0 = nI V := by rw [P.v.1.1, ek, kV]
    rw [ups_id eu] at X F
    obtain ⟨r1, r2, r3, r4, r5, r6, r7⟩ := R
    refine sq_X13_grown_104 ⟨X.kw, ?_⟩
    rw [show gi h w 15 = nI V from X.i.2.1.2.2.2.2.2.2.2.2.1.trans eu]
    refine ⟨fun _ => ?_, fun z => absurd (nI_le (a := V) (b := k) (by omega) (by omega)) z⟩
    have := tN_le hV.2
    exact g_233 (V := V) (by omega) K V 0 (by omega) c u h L A (by omega) (by omega) (by omega) ⟨td, ⟨W, nm, bs, q9, at1, X, ⟨hes, J, F⟩, ⟨T, hbs⟩, ⟨N, hat⟩, hc0, hR, hN, P, hG⟩, htd⟩ ⟨r1, r2, r3, r4, r5, by omega, r7⟩ (by omega) (fun a' b' h1 h2 h3 => r6 a' b' (by omega) (by omega))
  | succ n ih =>
    intro k c u h L A hk hc hL hA G ek R
    obtain ⟨td, ⟨W, nm, bs, q9, at1, X, ⟨hes, J, F⟩, ⟨T, hbs⟩, ⟨N, hat⟩, hc0, hR, hN, P, hG⟩, htd⟩ := G
    obtain ⟨r1, r2, r3, r4, r5, r6, r7⟩ := id R
    have hk8 : k < 8 := by omega
    have R8 : nn (ups u 0 (nI V) 0) ≤ 8 := by rw [ups_s, nn_nI (by omega)]; omega
    have R5 : nn (ups u 0 (nI V) 1) ≤ 5 := by rw [ups_n (by decide), r1]; decide
    have R12 : nn (ups u 0 (nI V) 2) ≤ 12 := by rw [ups_n (by decide), r2]; decide
    have z0 : ∀ y, ups (ups u 0 (nI V)) (20 + k) y 0 = ups u 0 (nI V) 0 := fun y => ups_n (by omega)
    have z1 : ∀ y, ups (ups u 0 (nI V)) (20 + k) y 1 = ups u 0 (nI V) 1 := fun y => ups_n (by omega)
    have z2 : ∀ y, ups (ups u 0 (nI V)) (20 + k) y 2 = ups u 0 (nI V) 2 := fun y => ups_n (by omega)
    obtain ⟨⟨a1, a2, a3⟩, -⟩ := id X.a
    have k1 : ∀ lo h' hi, GS s0 nm0 w t b h' (ups (ups (ups u 0 (nI V)) (20 + k) (nI lo)) (28 + k) (nI hi)) (verS u (nI lo) (nI hi)) td (L + 17) (A + 3) → Bt mq_X13_grown Q 104 ((((((((c + 101) + 307) + 101) + 101) + 101) + 101) + 101) + 101) [none, some (.ref w), some (.ref t), some (.int (nI (k + 1))), none] [] h' := fun lo h' hi G' => by
      rw [ver_ups ek] at G'
      exact ih (k + 1) _ _ h' (L + 17) (A + 3) (by omega) (by omega) (by omega) (by omega) ⟨td, G', htd⟩ (by rw [(ver_0 P).2]; omega) (R.ver (by omega))
    refine sq_X13_grown_104 ⟨X.kw, ?_⟩
    rw [show gi h w 15 = nI V from X.i.2.1.2.2.2.2.2.2.2.2.1.trans ups_s, nI_clamp (n := k) (by omega), pk_div (a := k) (d := 2) (by omega) (by decide) (by decide), nI_add k 1, nI_add 1 0]
    refine ⟨fun z => absurd z (nI_ge (by omega) (by omega)), fun _ => ⟨X.kw, g3 X.r.1 ⟨fun _ => ⟨a1, by rw [a2]; exact vp_in_nI (by omega) (by decide), ?_⟩, fun _ => ⟨X.rc, c_next1 N X.kw X.i.1.2 (by omega) (by decide) (by decide) (fun r h2 hr g2 f2 _ => ?_)⟩⟩⟩⟩
    · obtain ⟨X3, F3⟩ := X.a4 (x := nI (1 + 0)) (k := k) J F hc0 hk8 R8 R5 R12
      have l3 : Lw h (si h (W.u 4) k (nI (1 + 0))) := (Oth.si h _ k _).lw J.2.2.2.2.1.1
      have f3 : FmQ [W.u 4] h (si h (W.u 4) k (nI (1 + 0))) := FmQ.si
      have hS : ∀ n ∈ [W.u 4], qkd h n = 16 ∨ qkd h n = 22 := fun n hn => by rw [List.mem_singleton.mp hn]; exact Or.inl a1
      exact v_ver (lo := 1 + 0) ⟨W, nm, bs, q9, at1, X3, ⟨hes, J, F3⟩, ⟨T.ar f3 hS, hbs⟩, ⟨N.fm X.kw f3 l3 (nS_w X.kw hS), (by omega : at1 ≤ A + 1)⟩, hc0.md l3.md, hR, hN, P, hG⟩ ek hk8 r2 (by rw [z0]; exact R8) (by rw [z1]; exact R5) (by rw [z2]; exact R12) (by omega) (by omega) (by omega) ups_s ⟨by omega, by omega⟩ (fun h' hi G' => k1 _ h' hi G')
    · rw [nI_add 1 r]
      have X2 := X.gf g2
      have hc2 := hc0.md g2.md
      obtain ⟨⟨a1', a2', a3'⟩, -⟩ := id X2.a
      obtain ⟨X3, F3⟩ := X2.a4 (x := nI (1 + r)) (k := k) J (F.gf X g2) hc2 hk8 R8 R5 R12
      have l3 : Lw h2 (si h2 (W.u 4) k (nI (1 + r))) := (Oth.si h2 _ k _).lw J.2.2.2.2.1.1
      have f3 : FmQ [W.u 4] h2 (si h2 (W.u 4) k (nI (1 + r))) := FmQ.si
      have hS : ∀ n ∈ [W.u 4], qkd h2 n = 16 ∨ qkd h2 n = 22 := fun n hn => by rw [List.mem_singleton.mp hn]; exact Or.inl a1'
      refine ⟨a1', by rw [a2']; exact vp_in_nI (by omega) (by decide), ?_⟩
      exact v_ver (lo := 1 + r) ⟨W, nm, bs, q9, at1 + 1, X3, ⟨hes, J, F3⟩, ⟨(T.nx X.kw f2).ar f3 hS, hbs⟩, ⟨(N.gf g2).fm X2.kw f3 l3 (nS_w X2.kw hS), (by omega : at1 + 1 ≤ A + 1)⟩, hc2.md l3.md, hR, hN, P, hG⟩ ek hk8 r2 (by rw [z0]; exact R8) (by rw [z1]; exact R5) (by rw [z2]; exact R12) (by omega) (by omega) (by omega) ups_s ⟨by omega, by omega⟩ (fun h' hi G' => k1 _ h' hi G')
end
