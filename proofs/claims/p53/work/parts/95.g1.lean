/-! ===== the law's World while it grows: what is kept, the text builder, the script ===== -/
section
variable {h h' h0 h1 h2 : PH} {w k v j t b tv at1 : Nat} {W : WN} {s s' s0 : RW} {Q : Res → PH → Prop} {x y z : Int32} {bs cs : List Nat} {S T : List Nat}
/-- builders and their bytes may change, w's place in the script: n steps on -/
def GF (w n : Nat) (h h' : PH) : Prop := (∃ S, FmQ S h h' ∧ ∀ a ∈ S, ¬ qkd h a = 0 → (qkd h a = 4 ∨ qkd h a = 17 ∨ a = w)) ∧ (∀ j, gr h' w j = gr h w j) ∧ (∀ j, j ≠ 27 → gi h' w j = gi h w j) ∧ gi h' w 27 = gi h w 27 + nI n ∧ Lw h h'
theorem add_n0 (x : Int32) : x + nI 0 = x := by rw [nI_0]; exact Int32.add_zero x
theorem GF.refl : GF w 0 h h := ⟨⟨[], FmQ.refl h, fun a ha => absurd ha List.not_mem_nil⟩, fun _ => rfl, fun _ _ => rfl, (add_n0 _).symm, Lw.refl h⟩
theorem GF.trans {n m : Nat} (f : GF w n h h1) (g : GF w m h1 h2) : GF w (n + m) h h2 := by
  obtain ⟨⟨S, f1, f2⟩, f3, f4, f5, f6⟩ := f
  obtain ⟨⟨T, g1, g2⟩, g3, g4, g5, g6⟩ := g
  refine ⟨⟨S ++ T, (f1.mono (fun n hn _ => List.mem_append_left T hn)).trans g1 (fun n hn _ => List.mem_append_right S hn), fun a ha hz => ?_⟩, fun j => (g3 j).trans (f3 j), fun j hj => (g4 j hj).trans (f4 j hj), ?_, f6.trans g6⟩
  · rcases List.mem_append.mp ha with q | q
    · exact f2 a q hz
    · have := g2 a q (f1.kz hz)
      rw [f1.kd hz] at this
      exact this
  · rw [g5, f5, Int32.add_assoc, nI_add]
theorem GF.lw {n : Nat} (f : GF w n h h') : Lw h h' := f.2.2.2.2
theorem GF.md {n : Nat} (f : GF w n h h') : Md h h' := f.lw.md
/-- changes of builders and of what is new alone -/
theorem GF.of (hw : qkd h w = 2) (f : FmQ S h h') (l : Lw h h') (hS : ∀ a ∈ S, ¬ qkd h a = 0 → (qkd h a = 4 ∨ qkd h a = 17)) : GF w 0 h h' := by
  have hz : ¬ qkd h w = 0 := by rw [hw]; decide
  have hn : w ∉ S := fun e => by
    have := hS w e hz
    rw [hw] at this
    omega
  exact ⟨⟨S, f, fun a ha hz => (hS a ha hz).imp id Or.inl⟩, fun j => f.r hz hn, fun j _ => f.i hz hn, by rw [f.i hz hn, add_n0], l⟩
theorem GF.of0 (hw : qkd h w = 2) (f : FmQ [] h h') (l : Lw h h') : GF w 0 h h' := GF.of hw f l (fun a ha => absurd ha List.not_mem_nil)
theorem GF.kd {n a : Nat} (f : GF w n h h') (ha : ¬ qkd h a = 0) : qkd h' a = qkd h a := by
  obtain ⟨⟨S, f1, -⟩, -⟩ := f
  exact f1.kd ha
/-- a cell that is none of theirs -/
theorem GF.o {n a g : Nat} (f : GF w n h h') (ha : qkd h a = g) (hg : g ≠ 0 ∧ g ≠ 4 ∧ g ≠ 17 ∧ g ≠ 2) (hw : qkd h w = 2) : (∀ j, gi h' a j = gi h a j) ∧ (∀ j, gr h' a j = gr h a j) ∧ qkd h' a = g ∧ qln h' a = qln h a := by
  obtain ⟨⟨S, f1, f2⟩, -⟩ := f
  have hz : ¬ qkd h a = 0 := by rw [ha]; exact hg.1
  have hn : a ∉ S := fun e => by
    rcases f2 a e hz with q | q | q
    · rw [ha] at q; exact hg.2.1 q
    · rw [ha] at q; exact hg.2.2.1 q
    · rw [q, hw] at ha; exact hg.2.2.2 ha.symm
  exact ⟨fun j => f1.i hz hn, fun j => f1.r hz hn, (f1.kd hz).trans ha, f1.ln hz⟩
theorem AlQ.gf {n l v g : Nat} {es : List Nat} (A : AlQ h l v es g) (hw : qkd h w = 2) (hg : g ≠ 0) (f : GF w n h h') : AlQ h' l v es g := by
  obtain ⟨o1, o2, o3, o4⟩ := f.o A.kl (by decide) hw
  refine ⟨o3, (o2 1).trans A.va, (o1 2).trans A.sz, A.le, fun e he => by rw [f.kd (by rw [A.el e he]; exact hg)]; exact A.el e he, ?_⟩
  rcases A.2.2.2.2.2 with z | ⟨z1, z2, z3, z4, z5⟩
  · exact Or.inl z
  · obtain ⟨p1, p2, p3, p4⟩ := f.o z1 (by decide) hw
    exact Or.inr ⟨p3, by rw [p4]; exact z2, by rw [p4]; exact z3, fun i hi => (p2 i).trans (z4 i hi), fun i hi => (p2 i).trans (z5 i hi)⟩
theorem WO.gf {n : Nat} (X : WO h w W s) (f : GF w n h h') : WO h' w W s := by
  have hw := X.kw
  obtain ⟨⟨i1, i2⟩, ⟨j0, j1, j2, j3, j4, j5, j6, j8, j15, j16, j17⟩, ip, iw, ie⟩ := X.i
  obtain ⟨r1, r2, r3, r4, r5, r6, r7⟩ := X.r
  obtain ⟨⟨a1, a2, a3⟩, ⟨b1, b2, b3⟩, ⟨c1, c2, c3⟩, ⟨d1, d2, d3⟩, ⟨e1, e2, e3⟩⟩ := X.a
  obtain ⟨m1, m2, m3, m4⟩ := X.m
  obtain ⟨n1, n2⟩ := X.e
  have I : ∀ {j : Nat}, j ≠ 27 → gi h' w j = gi h w j := fun e => f.2.2.1 _ e
  have Rr : ∀ {j : Nat}, gr h' w j = gr h w j := f.2.1 _
  refine ⟨⟨⟨by rw [f.kd (by rw [i1]; decide)]; exact i1, i2⟩, ⟨by rw [I (by decide)]; exact j0, by rw [I (by decide)]; exact j1, by rw [I (by decide)]; exact j2, by rw [I (by decide)]; exact j3, by rw [I (by decide)]; exact j4, by rw [I (by decide)]; exact j5, by rw [I (by decide)]; exact j6, by rw [I (by decide)]; exact j8, by rw [I (by decide)]; exact j15, by rw [I (by decide)]; exact j16, by rw [I (by decide)]; exact j17⟩, fun z => ?_, fun z => by rw [I (by decide)]; exact iw z, fun z => by rw [I (by decide)]; exact ie z⟩, ⟨by rw [Rr]; exact r1, by rw [Rr]; exact r2, by rw [Rr]; exact r3, by rw [Rr]; exact r4, by rw [Rr]; exact r5, by rw [Rr]; exact r6, by rw [Rr]; exact r7⟩, ⟨?_, ?_, ?_, ?_, ?_⟩, ⟨m1.gf hw (by decide) f, m2, m3, fun y hy => ⟨(m4 y hy).1, fun j hj => ?_⟩⟩, ⟨n1.gf hw (by decide) f, n2⟩⟩
  · obtain ⟨z1, z2, z3, z4⟩ := ip z
    exact ⟨by rw [I (by decide)]; exact z1, by rw [I (by decide)]; exact z2, by rw [I (by decide)]; exact z3, by rw [I (by decide)]; exact z4⟩
  · obtain ⟨p1, p2, p3, p4⟩ := f.o a1 (by decide) hw
    exact ⟨p3, p4.trans a2, fun y hy => (p1 y).trans (a3 y hy)⟩
  · obtain ⟨p1, p2, p3, p4⟩ := f.o b1 (by decide) hw
    exact ⟨p3, p4.trans b2, fun y hy => (p1 y).trans (b3 y hy)⟩
  · obtain ⟨p1, p2, p3, p4⟩ := f.o c1 (by decide) hw
    exact ⟨p3, p4.trans c2, fun y hy => (p1 y).trans (c3 y hy)⟩
  · obtain ⟨p1, p2, p3, p4⟩ := f.o d1 (by decide) hw
    refine ⟨p3, p4.trans d2, fun y hy => ?_⟩
    obtain ⟨z1, z2, z3, z4⟩ := d3 y hy
    obtain ⟨q1, q2, q3, q4⟩ := f.o z2 (by decide) hw
    exact ⟨(p2 y).trans z1, q3, q4.trans z3, fun b hb ha => (q1 b).trans (z4 b hb ha)⟩
  · obtain ⟨p1, p2, p3, p4⟩ := f.o e1 (by decide) hw
    refine ⟨p3, p4.trans e2, fun y hy => ?_⟩
    obtain ⟨z1, z2, z3, z4⟩ := e3 y hy
    obtain ⟨q1, q2, q3, q4⟩ := f.o z2 (by decide) hw
    exact ⟨(p2 y).trans z1, q3, q4.trans z3, fun b hb ha => (q1 b).trans (z4 b hb ha)⟩
  · obtain ⟨q1, q2, q3, q4⟩ := f.o (X.km hy) (by decide) hw
    exact (q1 j).trans ((m4 y hy).2 j hj)
/-- the builder t: the text bs -/
def TX (h : PH) (t : Nat) (bs : List Nat) : Prop := 2000 ≤ t ∧ ∃ tv, SbQ h t tv bs ∧ 2000 ≤ tv
theorem TX.kt (T : TX h t bs) : qkd h t = 4 := by
  obtain ⟨-, tv, B, -⟩ := T
  exact B.kt
theorem TX.rc (T : TX h t bs) : rcvQ h t 4 := Or.inl T.kt
/-- other cells change -/
theorem TX.fm (T : TX h t bs) (f : FmQ S h h') (hS : ∀ a ∈ S, ¬ qkd h a = 0 → ¬ qkd h a = 4 ∧ ¬ qkd h a = 17) : TX h' t bs := by
  obtain ⟨t1, tv, B, t2⟩ := T
  refine ⟨t1, tv, B.fm f (fun e => ?_) (fun e => ?_), t2⟩
  · exact (hS t e B.tz).1 B.kt
  · exact (hS tv e B.vz).2 B.kv
theorem c_gS {s9 w9 : Nat} (T : TX h t bs) (hw : qkd h w = 2) (X : StrQ h s9 w9 cs) (hne : ∀ tv, SbQ h t tv bs → w9 ≠ tv) (hlen : bs.length + cs.length ≤ 600) (K : ∀ h', TX h' t (bs ++ cs) → GF w 0 h h' → Q (.inl (some (.ref t))) h') : MetQ mq_J4_append_15ec4 [.ref t, .ref s9] h Q := by
  obtain ⟨t1, tv, B, t2⟩ := T
  refine c_appS B X (hne tv B) hlen t1 t2 (fun h' v' B' f l hv => K h' ⟨t1, v', B', ?_⟩ (GF.of hw f l (fun a ha _ => ?_)))
  · rcases hv with q | q
    · rw [q]; exact t2
    · exact q.2
  · rcases List.mem_cons.mp ha with q | q
    · rw [q]; exact Or.inl B.kt
    · rw [List.mem_singleton.mp q]; exact Or.inr B.kv
theorem c_gC (i : Nat) (hi : i < 20) (T : TX h t bs) (hw : qkd h w = 2) (hc : Kc h) (hlen : bs.length + (sQb.getD i []).length ≤ 600) (K : ∀ h', TX h' t (bs ++ sQb.getD i []) → GF w 0 h h' → Q (.inl (some (.ref t))) h') : MetQ mq_J4_append_15ec4 [.ref t, .ref (1200 + i)] h Q := by
  obtain ⟨t1, tv0, B0, t20⟩ := id T
  refine c_gS T hw (hc.2.2.2 i hi) (fun tv B => ?_) hlen K
  have : tv = tv0 := by
    have := B.va.symm.trans B0.va
    exact Option.some.inj this
  omega
theorem c_gI {n : Nat} (T : TX h t bs) (hw : qkd h w = 2) (hc : Kc h) (hn : n < 100) (hlen : bs.length + (dec n).length ≤ 600) (K : ∀ h', TX h' t (bs ++ dec n) → GF w 0 h h' → Q (.inl (some (.ref t))) h') : MetQ mq_J4_append_bf812 [.ref t, .int (nI n)] h Q := by
  obtain ⟨t1, tv, B, t2⟩ := T
  refine c_appI B hc hn hlen t1 t2 (fun h' v' B' f l hv => K h' ⟨t1, v', B', ?_⟩ (GF.of hw f l (fun a ha _ => ?_)))
  · rcases hv with q | q
    · rw [q]; exact t2
    · exact q.2
  · rcases List.mem_cons.mp ha with q | q
    · rw [q]; exact Or.inl B.kt
    · rw [List.mem_singleton.mp q]; exact Or.inr B.kv
theorem chr26 : ∀ k, k < 26 → ((nI 97 + nI k).toUInt32 % 65536).toInt32 = nI (97 + k) := by decide +kernel
/-- a name: a letter, and a letter by number -/
theorem c_name (i : Nat) {d : Nat} (hi : i < 20) (hd : sQb.getD i [] = [d]) (hc : Kc h) (hk : k < 26) (K : ∀ s9 w9 h', StrQ h' s9 w9 [d, 97 + k] → FmQ [] h h' → Lw h h' → qkd h w9 = 0 → Q (.inl (some (.ref s9))) h') : MetQ mq_X13_name [.ref (1200 + i), .int (nI k)] h Q := by
  refine tq_X13_name ⟨by decide, fun q hq0 hq => ⟨by decide, ?_⟩⟩
  have kq : qkd (nw h q 4 0) q = 4 := qkd_nw (by omega)
  have f0 : FmQ [] h (nw h q 4 0) := FmQ.nw hq
  have l0 : Lw h (nw h q 4 0) := (Oth.nw h q 4 0).lw hq0
  refine c_sbNew kq (qnw_i (h := h) (kd := 4) (n := 0)) hq0 (fun v1 h1 B1 f1 l1 hv1 hv12 _ => ⟨B1.rc, by decide, ?_⟩)
  have F1 : FmQ [] h h1 := f0.trans f1 (fun n hn hz => absurd (List.mem_singleton.mp hn) (ne_of_kd hz hq))
  have L1 := l0.trans l1
  have hvz : qkd h v1 = 0 := by
    by_cases q9 : qkd h v1 = 0
    · exact q9
    · rw [f0.kd q9] at hv1; exact absurd hv1 q9
  have X1 := (hc.md L1.md).2.2.2 i hi
  rw [hd] at X1
  refine c_appS B1 X1 (by omega) (by show 0 + 1 ≤ 600; decide) hq0 hv12 (fun h2 v2 B2 f2 l2 hv2 _ => ⟨B2.rc, by decide, ?_⟩)
  have F2 : FmQ [] h h2 := F1.trans f2 (fun n hn hz => by
    rcases List.mem_cons.mp hn with e | e
    · exact absurd e (ne_of_kd hz hq)
    · exact absurd (List.mem_singleton.mp e) (ne_of_kd hz hvz))
  have hv22 : 2000 ≤ v2 ∧ qkd h v2 = 0 := by
    rcases hv2 with e | ⟨e1, e2⟩
    · rw [e]; exact ⟨hv12, hvz⟩
    · refine ⟨e2, ?_⟩
      by_cases q9 : qkd h v2 = 0
      · exact q9
      · rw [F1.kd q9] at e1; exact absurd e1 q9
  rw [chr26 k hk]
  refine c_appC B2 (by omega) (by show 1 + 1 ≤ 600; decide) hq0 hv22.1 (fun h3 v3 B3 f3 l3 hv3 _ => ⟨B3.rc, by decide, ?_⟩)
  have F3 : FmQ [] h h3 := F2.trans f3 (fun n hn hz => by
    rcases List.mem_cons.mp hn with e | e
    · exact absurd e (ne_of_kd hz hq)
    · exact absurd (List.mem_singleton.mp e) (ne_of_kd hz hv22.2))
  refine c_toS B3 (fun s9 w9 h4 X4 f4 l4 hs4 hw4 hs42 hw42 _ => K s9 w9 h4 X4 (F3.trans f4 (fun n hn _ => hn)) (((L1.trans l2).trans l3).trans l4) ?_)
  by_cases q9 : qkd h w9 = 0
  · exact q9
  · rw [F3.kd q9] at hw4; exact absurd hw4 q9
/-- a name is made, and appended -/
theorem c_gN (i : Nat) {d cost cap : Nat} {REST : Nat → PH → Prop} (hi : i < 20) (hd : sQb.getD i [] = [d]) (T : TX h t bs) (hw : qkd h w = 2) (hc : Kc h) (hk : k < 26) (hlen : bs.length + 2 ≤ 600) (hcost : cost ≤ cap) (K : ∀ h', TX h' t (bs ++ [d, 97 + k]) → GF w 0 h h' → REST t h') :
    MetQ mq_X13_name [.ref (1200 + i), .int (nI k)] h (rR (fun b18 h17 => Lw h h17 → (rcvQ h17 t 4 ∧ (cost ≤ cap ∧ MetQ mq_J4_append_15ec4 [.ref t, .ref b18] h17 (rR (fun b20 h19 => Lw h17 h19 → REST b20 h19)))))) := by
  refine c_name i hi hd hc hk (fun s9 w9 h1 X1 f1 l1 hw9 _ => ?_)
  have T1 : TX h1 t bs := T.fm f1 (fun a ha => absurd ha List.not_mem_nil)
  have hw1 : qkd h1 w = 2 := (f1.kd (by rw [hw]; decide)).trans hw
  refine ⟨T1.rc, hcost, c_gS T1 hw1 X1 (fun tv B => ?_) hlen (fun h2 T2 g2 _ => K h2 T2 ?_)⟩
  · intro e
    obtain ⟨-, tv0, B0, -⟩ := T
    have B1 := B0.fm f1 List.not_mem_nil List.not_mem_nil
    have : tv = tv0 := Option.some.inj (B.va.symm.trans B1.va)
    rw [e, this] at hw9
    exact B0.vz hw9
  · exact GF.trans (GF.of0 hw f1 l1) g2
/-! the script -/
def NX (h : PH) (w b at1 : Nat) : Prop := gr h w 26 = some b ∧ gi h w 27 = nI at1 ∧ qkd h b = 48 ∧ qln h b ≤ 260 ∧ b < 2000
theorem NX.gf {n : Nat} (N : NX h w b at1) (f : GF w n h h') : NX h' w b (at1 + n) := by
  obtain ⟨a1, a2, a3, a4, a5⟩ := N
  refine ⟨(f.2.1 26).trans a1, by rw [f.2.2.2.1, a2, nI_add], by rw [f.md.kd a5]; exact a3, ?_, a5⟩
  have hb : 1000 ≤ b := by
    rcases Nat.lt_or_ge b 1000 with q | q
    · exfalso
      unfold qkd at a3
      rw [Nat.blt_eq.mpr q] at a3
      cases a3
    · exact q
  rw [f.md.ln hb a5]; exact a4
theorem c_next1 {m : Nat} (N : NX h w b at1) (hw : qkd h w = 2) (hw2 : 2000 ≤ w) (hat : at1 < 900) (hm : 0 < m) (hm2 : m < 2 ^ 31) (K : ∀ r h', r < m → GF w 1 h h' → FmQ [w] h h' → Q (.inl (some (.int (nI r)))) h') : MetQ mq_X13_next [.ref w, .int (nI m)] h Q := by
  obtain ⟨a1, a2, a3, a4, a5⟩ := N
  refine tq_X13_next ⟨hw, hw, hw, ?_⟩
  rw [a2, nI_add, qsi_s]
  refine g3 a1 ⟨hw, ?_⟩
  have hbw : b ≠ w := by omega
  have l1 : Lw h (si h w 27 (nI (at1 + 1))) := (Oth.si h w 27 _).lw hw2
  have f1 : FmQ [w] h (si h w 27 (nI (at1 + 1))) := FmQ.si
  have hb' : qkd (si h w 27 (nI (at1 + 1))) b = 48 := a3
  refine c_pick hb' a4 (by omega) hm hm2 (fun r hr _ _ => K r _ hr ⟨⟨[w], f1, fun a ha _ => Or.inr (Or.inr (List.mem_singleton.mp ha))⟩, fun _ => rfl, fun j hj => qsi_k hj, ?_, l1⟩ f1)
  rw [qsi_s, a2, nI_add]
end
