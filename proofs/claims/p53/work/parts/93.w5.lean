/-! ===== the law's World: an event more ===== -/
section
variable {h h' : PH} {w k v : Nat} {W : WN} {s : RW} {C E : Nat} {Q : Res → PH → Prop} {x y z : Int32}
theorem WO.f1 {S : List Nat} (X : WO h w W s) (f : FmQ S h h') (m : Md h h') (hS : ∀ n ∈ S, qkd h n = 5 ∨ qkd h n = 23 ∨ qkd h n = 55) (h0 : W.u 0 ∉ S) (h1 : W.u 1 ∉ S) : WOi h' w s ∧ WOr h' w W.u ∧ WOa h' W s ∧ WOm h' W s := by
  have nS : ∀ {n g : Nat}, qkd h n = g → (g = 1 ∨ g = 2 ∨ g = 16 ∨ g = 22 ∨ g = 24) → n ∉ S := fun e1 e2 hn => by
    rcases hS _ hn with z | z | z <;> omega
  have nz : ∀ {n g : Nat}, qkd h n = g → g ≠ 0 → ¬ qkd h n = 0 := fun e1 e2 => by rw [e1]; exact e2
  have I : ∀ {n j : Nat}, ¬ qkd h n = 0 → n ∉ S → gi h' n j = gi h n j := fun hz hs => f.i hz hs
  have Rr : ∀ {n j : Nat}, ¬ qkd h n = 0 → n ∉ S → gr h' n j = gr h n j := fun hz hs => f.r hz hs
  have hw := nz X.kw (by decide)
  obtain ⟨⟨i1, i2⟩, ⟨j0, j1, j2, j3, j4, j5, j6, j8, j15, j16, j17⟩, ip, iw, ie⟩ := X.i
  obtain ⟨r1, r2, r3, r4, r5, r6, r7⟩ := X.r
  obtain ⟨⟨a1, a2, a3⟩, ⟨b1, b2, b3⟩, ⟨c1, c2, c3⟩, ⟨d1, d2, d3⟩, ⟨e1, e2, e3⟩⟩ := X.a
  obtain ⟨m1, m2, m3, m4⟩ := X.m
  refine ⟨⟨⟨by rw [f.kd hw]; exact i1, i2⟩, ⟨by rw [I hw (nS X.kw (by decide))]; exact j0, by rw [I hw (nS X.kw (by decide))]; exact j1, by rw [I hw (nS X.kw (by decide))]; exact j2, by rw [I hw (nS X.kw (by decide))]; exact j3, by rw [I hw (nS X.kw (by decide))]; exact j4, by rw [I hw (nS X.kw (by decide))]; exact j5, by rw [I hw (nS X.kw (by decide))]; exact j6, by rw [I hw (nS X.kw (by decide))]; exact j8, by rw [I hw (nS X.kw (by decide))]; exact j15, by rw [I hw (nS X.kw (by decide))]; exact j16, by rw [I hw (nS X.kw (by decide))]; exact j17⟩, fun z => ?_, fun z => by rw [I hw (nS X.kw (by decide))]; exact iw z, fun z => by rw [I hw (nS X.kw (by decide))]; exact ie z⟩, ⟨by rw [Rr hw (nS X.kw (by decide))]; exact r1, by rw [Rr hw (nS X.kw (by decide))]; exact r2, by rw [Rr hw (nS X.kw (by decide))]; exact r3, by rw [Rr hw (nS X.kw (by decide))]; exact r4, by rw [Rr hw (nS X.kw (by decide))]; exact r5, by rw [Rr hw (nS X.kw (by decide))]; exact r6, by rw [Rr hw (nS X.kw (by decide))]; exact r7⟩, ⟨⟨?_, ?_, fun y hy => ?_⟩, ⟨?_, ?_, fun y hy => ?_⟩, ⟨?_, ?_, fun y hy => ?_⟩, ⟨?_, ?_, fun y hy => ?_⟩, ⟨?_, ?_, fun y hy => ?_⟩⟩, ⟨m1.fm (by decide) f m h0 h1, m2, m3, fun y hy => ⟨(m4 y hy).1, fun j hj => ?_⟩⟩⟩
  · obtain ⟨z1, z2, z3, z4⟩ := ip z
    exact ⟨by rw [I hw (nS X.kw (by decide))]; exact z1, by rw [I hw (nS X.kw (by decide))]; exact z2, by rw [I hw (nS X.kw (by decide))]; exact z3, by rw [I hw (nS X.kw (by decide))]; exact z4⟩
  · rw [f.kd (nz a1 (by decide))]; exact a1
  · rw [f.ln (nz a1 (by decide))]; exact a2
  · rw [I (nz a1 (by decide)) (nS a1 (by decide))]; exact a3 y hy
  · rw [f.kd (nz b1 (by decide))]; exact b1
  · rw [f.ln (nz b1 (by decide))]; exact b2
  · rw [I (nz b1 (by decide)) (nS b1 (by decide))]; exact b3 y hy
  · rw [f.kd (nz c1 (by decide))]; exact c1
  · rw [f.ln (nz c1 (by decide))]; exact c2
  · rw [I (nz c1 (by decide)) (nS c1 (by decide))]; exact c3 y hy
  · rw [f.kd (nz d1 (by decide))]; exact d1
  · rw [f.ln (nz d1 (by decide))]; exact d2
  · obtain ⟨z1, z2, z3, z4⟩ := d3 y hy
    exact ⟨by rw [Rr (nz d1 (by decide)) (nS d1 (by decide))]; exact z1, by rw [f.kd (nz z2 (by decide))]; exact z2, by rw [f.ln (nz z2 (by decide))]; exact z3, fun b hb ha => by rw [I (nz z2 (by decide)) (nS z2 (by decide))]; exact z4 b hb ha⟩
  · rw [f.kd (nz e1 (by decide))]; exact e1
  · rw [f.ln (nz e1 (by decide))]; exact e2
  · obtain ⟨z1, z2, z3, z4⟩ := e3 y hy
    exact ⟨by rw [Rr (nz e1 (by decide)) (nS e1 (by decide))]; exact z1, by rw [f.kd (nz z2 (by decide))]; exact z2, by rw [f.ln (nz z2 (by decide))]; exact z3, fun b hb ha => by rw [I (nz z2 (by decide)) (nS z2 (by decide))]; exact z4 b hb ha⟩
  · rw [I (nz (X.km hy) (by decide)) (nS (X.km hy) (by decide))]; exact (m4 y hy).2 j hj
/-- the events' list with other places -/
def WN.ev (W : WN) (v : Nat) (es : List Nat) : WN := (fun j => if j = 3 then v else W.u j, W.ms, es, W.tr, W.lr)
theorem c_wNote (X : WO h w W s) (hc : Kc h) (hlen : W.es.length < 1200) (hne : W.ms ≠ []) (K : ∀ h' v q, WO h' w (W.ev v (W.es ++ [q])) s → FmQ [W.u 2, W.u 3] h h' → Lw h h' → Q (.inl none) h') : MetQ mq_X13_note [.ref w, .int x, .int y, .int z] h Q := by
  obtain ⟨-, -, -, -, -, -, r7⟩ := X.r
  obtain ⟨n1, n2, n3, n4, n5, n6⟩ := X.e
  refine tq_X13_note ⟨X.kw, g3 r7 ⟨⟨by decide, by decide⟩, by decide, fun q hq0 hq => ?_⟩⟩
  have hwq : w ≠ q := ne_of_kd (by rw [X.kw]; decide) hq
  have kq : qkd (nw h q 16 (nI 4).toNatClampNeg) q = 16 := qkd_nw (by omega)
  have kw1 : qkd (nw h q 16 (nI 4).toNatClampNeg) w = 2 := (qnw_ka hwq).trans X.kw
  have vq : ∀ i, i < 4 → vp_in (nI i) (qln (nw h q 16 (nI 4).toNatClampNeg) q) := fun i hi => by
    rw [qln_nw]
    exact vp_in_nI (by rw [show (nI 4).toNatClampNeg = 4 from nI_clamp (by decide)]; exact hi) (by decide)
  have sn : ∀ {g g' : PH} {S : List Nat}, FmQ [] h g → FmQ [q] g g' → FmQ [] h g' := fun a b => a.trans b (fun n hn hz => absurd (List.mem_singleton.mp hn) (ne_of_kd hz hq))
  refine ⟨kw1, kq, vq 0 (by decide), kq, vq 1 (by decide), kq, vq 2 (by decide), kq, vq 3 (by decide), ?_⟩
  intro h14
  have f14 : FmQ [] h h14 := sn (S := []) (sn (S := []) (sn (S := []) (sn (S := []) (FmQ.nw hq) FmQ.si) FmQ.si) FmQ.si) FmQ.si
  have l14 : Lw h h14 := (((((Oth.nw h q 16 (nI 4).toNatClampNeg).lw hq0).trans ((Oth.si _ q _ _).lw hq0)).trans ((Oth.si _ q _ _).lw hq0)).trans ((Oth.si _ q _ _).lw hq0)).trans ((Oth.si _ q _ _).lw hq0)
  have X14 := X.f0 f14 l14.md
  obtain ⟨m1, -⟩ := X14.e
  have kq14 : qkd h14 q = 16 := kq
  refine ⟨m1.rc, by decide, c_ladd m1 (hc.md l14.md) (Or.inr rfl) kq14 hlen n3 n6 (fun h' v' A' f' hlw' hv' hv2 _ => ?_)⟩
  have hev : qkd h14 (W.u 3) = 23 ∨ qkd h14 (W.u 3) = 55 := by
    rcases m1.2.2.2.2.2 with ⟨e1, -⟩ | ⟨e1, -⟩
    · rw [e1]; exact Or.inr (hc.md l14.md).1.1
    · exact Or.inl e1
  have hu1 : 2000 ≤ W.u 1 ∧ W.u 1 ≠ W.u 3 := by
    rcases n5 with e | e
    · exfalso
      have k1 := (X.al.ar hne).1
      rw [e, hc.1.1] at k1
      cases k1
    · exact e
  have h1S : W.u 1 ∉ [W.u 2, W.u 3] := by
    have hmv := X14.al.2.2.2.2.2
    intro hm
    rcases List.mem_cons.mp hm with e1 | hm
    · have k5 := m1.kl
      rw [← e1] at k5
      rcases hmv with ⟨e2, -⟩ | ⟨e2, -⟩
      · rw [e2, (hc.md l14.md).1.1] at k5; cases k5
      · rw [e2] at k5; cases k5
    · have e1 := List.mem_singleton.mp hm
      exact hu1.2 e1
  have h0S : W.u 0 ∉ [W.u 2, W.u 3] := by
    intro hm
    rcases List.mem_cons.mp hm with e1 | hm
    · exact n4 e1
    · have e1 := List.mem_singleton.mp hm
      have k5 := X14.al.kl
      rw [e1] at k5
      rcases hev with e | e <;> rw [e] at k5 <;> cases k5
  obtain ⟨z1, z2, z3, z4⟩ := X14.f1 f' hlw'.md (fun n hn => by
    rcases List.mem_cons.mp hn with e1 | hn
    · rw [e1]; exact Or.inl m1.kl
    · rw [List.mem_singleton.mp hn]; exact Or.inr hev) h0S h1S
  have hu1v : W.u 1 ≠ v' := by
    rcases hv' with e | e
    · rw [e]; exact hu1.2
    · intro e2
      have k1 := (X14.al.ar hne).1
      rw [e2, e] at k1
      cases k1
  exact K h' v' q ⟨z1, z2, z3, z4, ⟨A', n2, n3, n4, Or.inr ⟨hu1.1, hu1v⟩, Or.inr hv2⟩⟩ ((f14.mono (fun n hn _ => absurd hn (by simp))).trans f' (fun n hn _ => hn)) (l14.trans hlw')
end
