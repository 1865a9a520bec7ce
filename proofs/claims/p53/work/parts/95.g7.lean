/-! ===== the law's World while it grows: a member more ===== -/
section
variable {h h' h0 h1 h2 : PH} {w k v j t b tv at1 a d n i L A m c lo ic kt p q : Nat} {W : WN} {s s' s0 sw u : RW} {Q : Res → PH → Prop} {x y z : Int32} {bs cs : List Nat} {S T : List Nat} {nm nm0 : Nat → Int64} {td : Nat → Bool} {hb : Bool}
theorem GF.newS (f : GF w n h h1) (g : FmQ S h1 h2) (l : Lw h1 h2) (hS : ∀ a ∈ S, qkd h a = 0) (hw : qkd h w = 2) : GF w n h h2 := by
  obtain ⟨⟨S0, f1, f2⟩, f3, f4, f5, f6⟩ := f
  have hz : ¬ qkd h w = 0 := by rw [hw]; decide
  have hn : w ∉ S := fun e => hz (hS w e)
  have hz1 := f1.kz hz
  refine ⟨⟨S0, f1.trans g (fun n hn2 hz2 => absurd (hS n hn2) hz2), f2⟩, fun j => (g.r hz1 hn).trans (f3 j), fun j hj => (g.i hz1 hn).trans (f4 j hj), (g.i hz1 hn).trans f5, f6.trans l⟩
theorem joN_t (e : joN s p v = true) : rds s v (s 5) = true ∧ ∀ o, o < nn (s 2) → apt v (vN s o) ≤ nn (s 6) ∧ (mf s o 0 = nI p → tlk s v (vN s o) = true) := by
  unfold joN at e
  rw [Bool.and_eq_true] at e
  refine ⟨e.1, fun o ho => ?_⟩
  have := allN_iff.mp e.2 o ho
  unfold jok at this
  rw [Bool.and_eq_true, Bool.or_eq_true] at this
  refine ⟨?_, fun q => ?_⟩
  · rcases Nat.lt_or_ge (nn (s 6)) (apt v (vN s o)) with q | q
    · rw [decide_eq_true q] at this; exact absurd this.1 (by decide)
    · exact q
  · rcases this.2 with r | r
    · rw [decide_eq_true q] at r; exact absurd r (by decide)
    · exact r
theorem Good.mem (G : Good s) (P : PR s) (P' : PR (memS s p v hb)) (hm : nn (s 2) < 12) (hv : v < nn (s 0)) (hj : joN s p v = true) : Good (memS s p v hb) := by
  obtain ⟨g1, g2, g3, g4⟩ := G
  obtain ⟨j1, j2⟩ := joN_t hj
  have R := P.rk
  have hv8 := R.v.2
  have e2 := mem_2 (p := p) (v := v) (hb := hb) P
  have mn := mem_n (s := s) (p := p) (v := v) (hb := hb)
  have co : ∀ k, k < nn (s 2) → cN (memS s p v hb) k = cN s k := fun k hk => cN_of (mem_o (by omega) (by decide)) (mem_o (by omega) (by decide))
  have cn : cN (memS s p v hb) (nn (s 2)) = v := by
    rw [(up_v P' (k := nn (s 2)) (by rw [e2.2]; omega)).1]
    show nn (mf (memS s p v hb) (nn (s 2)) 1) = v
    rw [mn.2.1, nn_nI (by omega)]
  have lo : ∀ i, i < 49 → i ≠ 2 → memS s p v hb i = s i := fun i h1 h2 => mem_lo h1 h2
  have tl : ∀ x y, x < 8 → tlk (memS s p v hb) x y = tlk s x y := fun x y hx => by unfold tlk; rw [lo _ (by omega) (by omega)]
  have rd : ∀ x f, x < 8 → rds (memS s p v hb) x f = rds s x f := fun x f hx => by unfold rds; rw [lo _ (by omega) (by omega), lo _ (by omega) (by omega)]
  unfold Good
  rw [e2.2]
  refine ⟨fun j k hj hk => ?_, fun k hk => ?_, fun j k hj hk hp => ?_, fun z => ?_⟩
  · rw [lo 6 (by decide) (by decide)]
    by_cases q1 : j = nn (s 2)
    · rw [q1, cn]
      by_cases q2 : k = nn (s 2)
      · rw [q2, cn, apt_0]; omega
      · rw [co k (by omega), (up_v P (by omega)).1]; exact (j2 k (by omega)).1
    · rw [co j (by omega)]
      by_cases q2 : k = nn (s 2)
      · rw [q2, cn, apt_sy, (up_v P (by omega)).1]; exact (j2 j (by omega)).1
      · rw [co k (by omega)]; exact g1 j k (by omega) (by omega)
  · rw [lo 5 (by decide) (by decide)]
    by_cases q1 : k = nn (s 2)
    · rw [q1, cn, rd _ _ (by omega)]; exact j1
    · rw [co k (by omega), rd _ _ (com_lt R k (by omega))]; exact g2 k (by omega)
  · rw [mem_par P hm hj hk] at hp
    by_cases q1 : j < nn (s 2) ∧ k < nn (s 2)
    · rw [if_pos q1] at hp
      rw [co j q1.1, co k q1.2, tl _ _ (com_lt R j q1.1)]
      exact g3 j k q1.1 q1.2 hp
    · rw [if_neg q1, Bool.and_eq_true] at hp
      have hp2 := of_decide_eq_true hp.2
      by_cases q2 : j = nn (s 2)
      · by_cases q3 : k = nn (s 2)
        · rw [q2, q3]; exact tlk_rf
        · rw [q2, mn.1, mem_o q3 (by decide)] at hp2
          rw [q2, cn, co k (by omega), tl _ _ (by omega), (up_v P (by omega)).1]
          exact (j2 k (by omega)).2 hp2.symm
      · have q3 : k = nn (s 2) := by omega
        rw [q3, mn.1, mem_o q2 (by decide)] at hp2
        rw [q3, cn, co j (by omega), tl _ _ (com_lt R j (by omega)), (up_v P (by omega)).1, R.ts _ _ (R.ve j (by omega)).2 hv]
        exact (j2 j (by omega)).2 hp2
  · have : cnt (nn (s 2) + 1) (dnIn (memS s p v hb) z) = 0 := by
      have h0 : cnt (nn (s 2) + 1) (dnIn (memS s p v hb) z) = cnt (nn (s 2) + 1) (fun _ => false) := cnt_eq fun i hi => by
        unfold dnIn
        rw [(up_v P' (k := i) (by rw [e2.2]; exact hi)).2, Bool.and_false]
      rw [h0, cnt_ge (n := 0) (Nat.zero_le _) (fun _ _ _ => rfl)]; rfl
    rw [this]; exact Nat.zero_le _
theorem WOi.eq7 (X : WOi h w s) (hh : ∀ j, gi h' w j = gi h w j) (hk : qkd h' w = qkd h w) (e : ∀ i, i < 19 → i ≠ 2 → s' i = s i) : WOi h' w s' := by
  have X2 : WOi h w (ups s' 2 (s 2)) := X.eq9 (fun _ => rfl) rfl (fun i hi => by
    by_cases q : i = 2
    · rw [q, ups_s]
    · rw [ups_n q]; exact e i hi q)
  obtain ⟨⟨i1, i2⟩, ⟨j0, j1, j2, j3, j4, j5, j6, j8, j15, j16, j17⟩, ip, iw, ie⟩ := X2
  have g : ∀ {i l : Nat}, l ≠ 2 → gi h w i = ups s' 2 (s 2) l → gi h' w i = s' l := fun a c => (hh _).trans (c.trans (ups_n a))
  have ep : hasP (ups s' 2 (s 2)) = hasP s' := hasP_of (ups_n (by decide))
  rw [ep] at ip
  have e12 : ups s' 2 (s 2) 12 = s' 12 := ups_n (by decide)
  have e18 : ups s' 2 (s 2) 18 = s' 18 := ups_n (by decide)
  rw [e12] at iw ie
  rw [e18] at ie
  refine ⟨⟨hk.trans i1, i2⟩, ⟨g (by decide) j0, g (by decide) j1, g (by decide) j2, g (by decide) j3, g (by decide) j4, g (by decide) j5, g (by decide) j6, g (by decide) j8, g (by decide) j15, g (by decide) j16, g (by decide) j17⟩, fun z => ?_, fun z => ?_, fun z => ?_⟩
  · obtain ⟨z1, z2, z3, z4⟩ := ip z
    exact ⟨g (by decide) z1, g (by decide) z2, g (by decide) z3, g (by decide) z4⟩
  · exact (hh _).trans (iw z |>.trans e18)
  · exact g (by decide) (ie z)
/-- a World with a member more -/
def WN.mm (W : WN) (v q : Nat) : WN := (fun j => if j = 1 then v else W.u j, W.ms ++ [q], W.es, W.tr, W.lr)
theorem WO.mem {v1 : Nat} (X : WO h w W s) (hes : W.es = []) (F : FA h W s) (P : PR s) (hc : Kc h) (hq : qkd h q = 1) (hq2 : 2000 ≤ q) (hqn : q ∉ W.ms) (hm : nn (s 2) < 12)
    (q0 : gi h q 0 = nI p) (q1 : gi h q 1 = nI v) (q2 : gi h q 2 = -(nI 1)) (q3 : gi h q 3 = -(nI 1)) (q4 : gi h q 4 = 0) (q5 : gi h q 5 = b2i hb)
    (A : AlQ h' (W.u 0) v1 (W.ms ++ [q]) 1) (f : FmQ [W.u 0, W.u 1] h h') (l : Lw h h') (hv1 : v1 = W.u 1 ∨ qkd h v1 = 0) (hv2 : 2000 ≤ v1) : WO h' w (W.mm v1 q) (memS s p v hb) ∧ FA h' (W.mm v1 q) (memS s p v hb) := by
  obtain ⟨⟨a1, a2, a3⟩, ⟨b1, b2, b3⟩, ⟨c1, c2, c3⟩, ⟨d1, d2, d3⟩, ⟨e1, e2, e3⟩⟩ := X.a
  obtain ⟨m1, m2, m3, m4⟩ := X.m
  obtain ⟨n1, n2, n3, n4, n5, n6⟩ := X.e
  obtain ⟨r1, r2, r3, r4, r5, r6, r7⟩ := X.r
  have e22 := mem_2 (p := p) (v := v) (hb := hb) P
  have mn := mem_n (s := s) (p := p) (v := v) (hb := hb)
  have hm4 : mf s (nn (s 2)) 4 = 0 := (P.zx.2.1 _ hm (Nat.le_refl _)).1
  have k1 : qkd h (W.u 1) = 23 ∨ qkd h (W.u 1) = 55 := by
    rcases m1.2.2.2.2.2 with ⟨z, -⟩ | ⟨z, -⟩
    · rw [z]; exact Or.inr hc.1.1
    · exact Or.inl z
  have nS : ∀ {n g : Nat}, qkd h n = g → g ≠ 5 → g ≠ 23 → g ≠ 55 → n ∉ [W.u 0, W.u 1] := fun z1 z2 z3 z4 hn => by
    rcases List.mem_cons.mp hn with z | z
    · rw [z, m1.kl] at z1; exact z2 z1.symm
    · rw [List.mem_singleton.mp z] at z1
      rcases k1 with z5 | z5
      · exact z3 (z1.symm.trans z5)
      · exact z4 (z1.symm.trans z5)
  have nz : ∀ {n g : Nat}, qkd h n = g → g ≠ 0 → ¬ qkd h n = 0 := fun e1 e2 => by rw [e1]; exact e2
  have hw := X.kw
  have I : ∀ {n g : Nat}, qkd h n = g → g ≠ 0 → g ≠ 5 → g ≠ 23 → g ≠ 55 → ∀ j, gi h' n j = gi h n j := fun z1 z2 z3 z4 z5 j => f.i (nz z1 z2) (nS z1 z3 z4 z5)
  have Rr : ∀ {n g : Nat}, qkd h n = g → g ≠ 0 → g ≠ 5 → g ≠ 23 → g ≠ 55 → ∀ j, gr h' n j = gr h n j := fun z1 z2 z3 z4 z5 j => f.r (nz z1 z2) (nS z1 z3 z4 z5)
  have lo : ∀ i, i < 49 → i ≠ 2 → memS s p v hb i = s i := fun i h1 h2 => mem_lo h1 h2
  have m6 : ∀ a, mf (memS s p v hb) a 6 = mf s a 6 := fun a => by
    by_cases z : a = nn (s 2)
    · rw [z]; exact mn.2.2.2.2.2.2
    · exact mem_o z (by decide)
  have FF : FA h' (W.mm v1 q) (memS s p v hb) := by
    obtain ⟨F4, F5, F6, F7, F8⟩ := F
    refine ⟨fun y hy => ?_, fun y hy => ?_, fun y hy => ?_, fun y hy c hc => ?_, fun y hy c hc => ?_⟩
    · rw [lo _ (by omega) (by omega)]; exact (I a1 (by decide) (by decide) (by decide) (by decide) y).trans (F4 y hy)
    · rw [lo _ (by omega) (by omega)]; exact (I b1 (by decide) (by decide) (by decide) (by decide) y).trans (F5 y hy)
    · rw [lo _ (by omega) (by omega)]; exact (I c1 (by decide) (by decide) (by decide) (by decide) y).trans (F6 y hy)
    · rw [lo _ (by omega) (by omega)]; exact (I (d3 y hy).2.1 (by decide) (by decide) (by decide) (by decide) c).trans (F7 y hy c hc)
    · rw [m6]; exact (I (e3 y hy).2.1 (by decide) (by decide) (by decide) (by decide) c).trans (F8 y hy c hc)
  have hv8 := P.v.1.2
  have hp5 := P.x.1.2
  refine ⟨⟨X.i.eq7 (I hw (by decide) (by decide) (by decide) (by decide)) (f.kd (nz hw (by decide))) (fun i h1 h2 => lo i (by omega) h2), ?_, ⟨⟨(f.kd (nz a1 (by decide))).trans a1, (f.ln (nz a1 (by decide))).trans a2, fun y hy => FF.1 y (by rw [lo 0 (by decide) (by decide)] at hy; omega)⟩, ⟨(f.kd (nz b1 (by decide))).trans b1, (f.ln (nz b1 (by decide))).trans b2, fun y hy => FF.2.1 y (by rw [lo 0 (by decide) (by decide)] at hy; omega)⟩, ⟨(f.kd (nz c1 (by decide))).trans c1, (f.ln (nz c1 (by decide))).trans c2, fun y hy => FF.2.2.1 y (by rw [lo 1 (by decide) (by decide)] at hy; omega)⟩, ⟨(f.kd (nz d1 (by decide))).trans d1, (f.ln (nz d1 (by decide))).trans d2, fun y hy => ?_⟩, ⟨(f.kd (nz e1 (by decide))).trans e1, (f.ln (nz e1 (by decide))).trans e2, fun y hy => ?_⟩⟩, ⟨A, ?_, ?_, fun y hy => ?_⟩, ⟨?_, n2, n3, n4, Or.inr ⟨hv2, ?_⟩, n6⟩⟩, FF⟩
  · have R9 := Rr hw (by decide) (by decide) (by decide) (by decide)
    exact ⟨(R9 18).trans r1, (R9 19).trans r2, (R9 20).trans r3, (R9 21).trans r4, (R9 22).trans r5, (R9 23).trans r6, (R9 24).trans r7⟩
  · obtain ⟨z1, z2, z3, z4⟩ := d3 y hy
    exact ⟨(Rr d1 (by decide) (by decide) (by decide) (by decide) y).trans z1, (f.kd (nz z2 (by decide))).trans z2, (f.ln (nz z2 (by decide))).trans z3, fun b hb ha => FF.2.2.2.1 y hy b (by rw [lo 0 (by decide) (by decide)] at hb; omega)⟩
  · obtain ⟨z1, z2, z3, z4⟩ := e3 y hy
    exact ⟨(Rr e1 (by decide) (by decide) (by decide) (by decide) y).trans z1, (f.kd (nz z2 (by decide))).trans z2, (f.ln (nz z2 (by decide))).trans z3, fun b hb ha => FF.2.2.2.2 y hy b (by rw [e22.2] at hb; omega)⟩
  · show (W.ms ++ [q]).length = _
    rw [List.length_append, e22.2, m2]; rfl
  · show (W.ms ++ [q]).Nodup
    refine List.nodup_append.mpr ⟨m3, by simp, fun a ha b hb e => ?_⟩
    rw [List.mem_singleton.mp hb] at e
    rw [e] at ha
    exact hqn ha
  · have hy : y < (W.ms ++ [q]).length := hy
    rw [List.length_append] at hy
    show 2000 ≤ (W.ms ++ [q]).getD y 0 ∧ _
    by_cases z : y < W.ms.length
    · rw [show (W.mm v1 q).ms.getD y 0 = W.ms.getD y 0 from gD_l z, gD_l z]
      refine ⟨(m4 y z).1, fun j hj => ?_⟩
      rw [I (X.km z) (by decide) (by decide) (by decide) (by decide), mem_o (by omega) (by omega)]
      exact (m4 y z).2 j hj
    · have ey : y = W.ms.length := by
        have : [q].length = 1 := rfl
        omega
      have eg : (W.ms ++ [q]).getD y 0 = q := by
        have := gD_r (a := W.ms) (b := [q]) (i := 0)
        rw [Nat.add_zero] at this
        rw [ey, this]; rfl
      rw [show (W.mm v1 q).ms.getD y 0 = q from eg, eg]
      refine ⟨hq2, fun j hj => ?_⟩
      rw [I hq (by decide) (by decide) (by decide) (by decide), ey, m2]
      rcases (by omega : j = 0 ∨ j = 1 ∨ j = 2 ∨ j = 3 ∨ j = 4 ∨ j = 5) with rfl | rfl | rfl | rfl | rfl | rfl
      · rw [mn.1]; exact q0
      · rw [mn.2.1]; exact q1
      · rw [mn.2.2.1]; exact q2
      · rw [mn.2.2.2.1]; exact q3
      · rw [mn.2.2.2.2.2.1, hm4]; exact q4
      · rw [mn.2.2.2.2.1]; exact q5
  · show AlQ h' (W.u 2) (W.u 3) W.es 16
    have hu2 : W.u 2 ∉ [W.u 0, W.u 1] := fun hn => by
      rcases List.mem_cons.mp hn with z | z
      · exact n4 z.symm
      · have := n1.kl
        rw [List.mem_singleton.mp z] at this
        rcases k1 with z5 | z5 <;> (rw [this] at z5; cases z5)
    refine ⟨(f.kd n1.kz).trans n1.kl, (f.r n1.kz hu2).trans n1.va, (f.i n1.kz hu2).trans n1.sz, n1.le, fun e he => by rw [hes] at he; exact absurd he List.not_mem_nil, ?_⟩
    rcases n1.2.2.2.2.2 with z | ⟨z1, z2, z3, z4, z5⟩
    · exact Or.inl z
    · have hu3 : W.u 3 ∉ [W.u 0, W.u 1] := fun hn => by
        rcases List.mem_cons.mp hn with z | z
        · rw [z, m1.kl] at z1; cases z1
        · have z := List.mem_singleton.mp z
          rcases n5 with z6 | z6
          · rw [z, z6, hc.1.1] at z1; cases z1
          · exact z6.2 z.symm
      exact Or.inr ⟨(f.kd (nz z1 (by decide))).trans z1, by rw [f.ln (nz z1 (by decide))]; exact z2, by rw [f.ln (nz z1 (by decide))]; exact z3, fun i hi => (f.r (nz z1 (by decide)) hu3).trans (z4 i hi), fun i hi => (f.r (nz z1 (by decide)) hu3).trans (z5 i hi)⟩
  · show v1 ≠ W.u 3
    intro e
    rcases hv1 with z | z
    · rcases n5 with z6 | z6
      · omega
      · exact z6.2 (z.symm.trans e)
    · rw [e] at z
      rcases n1.2.2.2.2.2 with ⟨z1, -⟩ | ⟨z1, -⟩
      · rw [z1, hc.1.1] at z; cases z
      · rw [z1] at z; cases z
end
