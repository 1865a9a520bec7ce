/-! ===== the law's World: its own ints change ===== -/
section
variable {h h' : PH} {w k v g l : Nat} {W : WN} {s s' : RW} {C E : Nat} {Q : Res → PH → Prop} {x y z : Int32} {es : List Nat}
theorem AlQ.ne (A : AlQ h l v es g) (kw : qkd h w = 2) (h2 : 2000 ≤ w) : l ∉ [w] ∧ v ∉ [w] := by
  refine ⟨fun hm => ?_, fun hm => ?_⟩
  · have := A.kl
    rw [List.mem_singleton.mp hm, kw] at this
    cases this
  · have e := List.mem_singleton.mp hm
    rcases A.2.2.2.2.2 with ⟨e1, -⟩ | ⟨e1, -⟩
    · omega
    · rw [e, kw] at e1; cases e1
theorem WO.sc (X : WO h w W s) (f : FmQ [w] h h') (m : Md h h') (hr : ∀ j, gr h' w j = gr h w j) (Hi : WOi h' w s') (e : ∀ j, j = 0 ∨ j = 1 ∨ j = 2 ∨ 20 ≤ j → s' j = s j) : WO h' w W s' := by
  have nz : ∀ {n g : Nat}, qkd h n = g → g ≠ 0 → ¬ qkd h n = 0 := fun e1 e2 => by rw [e1]; exact e2
  have nS : ∀ {n g : Nat}, qkd h n = g → (g = 1 ∨ g = 16 ∨ g = 22 ∨ g = 24) → n ∉ [w] := fun e1 e2 hn => by
    have := X.kw
    rw [List.mem_singleton.mp hn] at e1
    omega
  have I : ∀ {n g j : Nat}, qkd h n = g → (g = 1 ∨ g = 16 ∨ g = 22 ∨ g = 24) → gi h' n j = gi h n j := fun hz hs => f.i (nz hz (by omega)) (nS hz hs)
  have Rr : ∀ {n g j : Nat}, qkd h n = g → (g = 1 ∨ g = 16 ∨ g = 22 ∨ g = 24) → gr h' n j = gr h n j := fun hz hs => f.r (nz hz (by omega)) (nS hz hs)
  obtain ⟨r1, r2, r3, r4, r5, r6, r7⟩ := X.r
  obtain ⟨⟨a1, a2, a3⟩, ⟨b1, b2, b3⟩, ⟨c1, c2, c3⟩, ⟨d1, d2, d3⟩, ⟨e1, e2, e3⟩⟩ := X.a
  obtain ⟨m1, m2, m3, m4⟩ := X.m
  obtain ⟨n1, n2⟩ := X.e
  have s0 : s' 0 = s 0 := e 0 (Or.inl rfl)
  have s1 : s' 1 = s 1 := e 1 (Or.inr (Or.inl rfl))
  have s2 : s' 2 = s 2 := e 2 (Or.inr (Or.inr (Or.inl rfl)))
  have s20 : ∀ j, 20 ≤ j → s' j = s j := fun j hj => e j (Or.inr (Or.inr (Or.inr hj)))
  have smf : ∀ k j, mf s' k j = mf s k j := fun k j => s20 _ (by omega)
  have q1 := m1.ne X.kw X.i.1.2
  have q2 := n1.ne X.kw X.i.1.2
  refine ⟨Hi, ⟨by rw [hr]; exact r1, by rw [hr]; exact r2, by rw [hr]; exact r3, by rw [hr]; exact r4, by rw [hr]; exact r5, by rw [hr]; exact r6, by rw [hr]; exact r7⟩, ⟨⟨?_, ?_, fun y hy => ?_⟩, ⟨?_, ?_, fun y hy => ?_⟩, ⟨?_, ?_, fun y hy => ?_⟩, ⟨?_, ?_, fun y hy => ?_⟩, ⟨?_, ?_, fun y hy => ?_⟩⟩, ⟨m1.fm (by decide) f m q1.1 q1.2, by rw [s2]; exact m2, m3, fun y hy => ⟨(m4 y hy).1, fun j hj => ?_⟩⟩, ⟨n1.fm (by decide) f m q2.1 q2.2, n2⟩⟩
  · rw [f.kd (nz a1 (by decide))]; exact a1
  · rw [f.ln (nz a1 (by decide))]; exact a2
  · rw [I a1 (by decide), s20 _ (by omega)]; exact a3 y (by rw [← s0]; exact hy)
  · rw [f.kd (nz b1 (by decide))]; exact b1
  · rw [f.ln (nz b1 (by decide))]; exact b2
  · rw [I b1 (by decide), s20 _ (by omega)]; exact b3 y (by rw [← s0]; exact hy)
  · rw [f.kd (nz c1 (by decide))]; exact c1
  · rw [f.ln (nz c1 (by decide))]; exact c2
  · rw [I c1 (by decide), s20 _ (by omega)]; exact c3 y (by rw [← s1]; exact hy)
  · rw [f.kd (nz d1 (by decide))]; exact d1
  · rw [f.ln (nz d1 (by decide))]; exact d2
  · obtain ⟨z1, z2, z3, z4⟩ := d3 y hy
    exact ⟨by rw [Rr d1 (by decide)]; exact z1, by rw [f.kd (nz z2 (by decide))]; exact z2, by rw [f.ln (nz z2 (by decide))]; exact z3, fun b hb ha => by rw [I z2 (by decide), s20 _ (by omega)]; exact z4 b (by rw [← s0]; exact hb) (by rw [← s0]; exact ha)⟩
  · rw [f.kd (nz e1 (by decide))]; exact e1
  · rw [f.ln (nz e1 (by decide))]; exact e2
  · obtain ⟨z1, z2, z3, z4⟩ := e3 y hy
    exact ⟨by rw [Rr e1 (by decide)]; exact z1, by rw [f.kd (nz z2 (by decide))]; exact z2, by rw [f.ln (nz z2 (by decide))]; exact z3, fun b hb ha => by rw [I z2 (by decide), smf]; exact z4 b (by rw [← s2]; exact hb) (by rw [← s2]; exact ha)⟩
  · rw [I (X.km hy) (by decide), smf]; exact (m4 y hy).2 j hj
end
