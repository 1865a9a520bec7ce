/-! ===== the law's World while it grows: member ===== -/
section
variable {h h' h0 h1 h2 hB : PH} {w k v j t b tv at1 a d n i L A m c lo ic kt p q t0 : Nat} {W : WN} {s s' s0 sw u : RW} {Q : Res → PH → Prop} {x y z : Int32} {bs cs : List Nat} {S T : List Nat} {nm nm0 : Nat → Int64} {td : Nat → Bool} {hb : Bool}
/-- its fields, held back or not yet known -/
def Mb5 (h : PH) (q p v : Nat) : Prop := qkd h q = 1 ∧ gi h q 0 = nI p ∧ gi h q 1 = nI v ∧ gi h q 2 = -(nI 1) ∧ gi h q 3 = -(nI 1) ∧ gi h q 4 = 0
theorem l_gmember (X : WO h w W s) (P : PR s) (hq : qkd h q = 0) (hp : p < nn (s 1)) (hv : v < nn (s 0)) (ht0 : 2000 ≤ t0) (htz : qkd h t0 = 0) (hqt : q ≠ t0)
    (K0 : ∀ h', TX h' t bs → GF w 2 h h' → Q (.inl none) h') (K1 : ∀ h', TX h' t bs → GF w 2 h h' → Mb5 h' q p v → joN s p v = true → (rcvQ h' w 2 ∧ MetQ mq_X13_next [.ref w, .int (nI 6)] h' (rI (fun _ _ => False) (fun x14 h13 => Lw h' h13 → ((¬ x14 = 0 → (qkd h13 q = 1 ∧ isB (nI 0) ∧ (rcvQ (si h13 q 5 (nI 0)) t 4 ∧ ((2 + 101) ≤ 1900 ∧ MetQ mq_J4_append_15ec4 [.ref t, .ref 1211] (si h13 q 5 (nI 0)) (rR (fun b16 h15 => Lw (si h13 q 5 (nI 0)) h15 → (qkd h15 w = 2 ∧ (∀ b17 : Nat, gr h15 w 23 = some b17 → (rcvQ h15 b17 5 ∧ MetQ mq_Jx4a65c_size_8abf5 [.ref b17] h15 (rI (fun _ _ => False) (fun x19 h18 => Lw h15 h18 → (((2 + 101) + 307) ≤ 1900 ∧ MetQ mq_X13_name [.ref 1212, .int x19] h18 (rR (fun b21 h20 => Lw h18 h20 → (rcvQ h20 b16 4 ∧ ((((2 + 101) + 307) + 101) ≤ 1900 ∧ MetQ mq_J4_append_15ec4 [.ref b16, .ref b21] h20 (rR (fun b23 h22 => Lw h20 h22 → (rcvQ h22 b23 4 ∧ (((((2 + 101) + 307) + 101) + 101) ≤ 1900 ∧ MetQ mq_J4_append_15ec4 [.ref b23, .ref 1206] h22 (rR (fun b25 h24 => Lw h22 h24 → (qkd h24 q = 1 ∧ ((((((2 + 101) + 307) + 101) + 101) + 307) ≤ 1900 ∧ MetQ mq_X13_name [.ref 1210, .int (gi h24 q 0)] h24 (rR (fun b27 h26 => Lw h24 h26 → (rcvQ h26 b25 4 ∧ (((((((2 + 101) + 307) + 101) + 101) + 307) + 101) ≤ 1900 ∧ MetQ mq_J4_append_15ec4 [.ref b25, .ref b27] h26 (rR (fun b29 h28 => Lw h26 h28 → (rcvQ h28 b29 4 ∧ ((((((((2 + 101) + 307) + 101) + 101) + 307) + 101) + 101) ≤ 1900 ∧ MetQ mq_J4_append_15ec4 [.ref b29, .ref 1206] h28 (rR (fun b31 h30 => Lw h28 h30 → (qkd h30 q = 1 ∧ (((((((((2 + 101) + 307) + 101) + 101) + 307) + 101) + 101) + 307) ≤ 1900 ∧ MetQ mq_X13_name [.ref 1205, .int (gi h30 q 1)] h30 (rR (fun b33 h32 => Lw h30 h32 → (rcvQ h32 b31 4 ∧ ((((((((((2 + 101) + 307) + 101) + 101) + 307) + 101) + 101) + 307) + 101) ≤ 1900 ∧ MetQ mq_J4_append_15ec4 [.ref b31, .ref b33] h32 (rR (fun b35 h34 => Lw h32 h34 → (qkd h34 q = 1 ∧ (((gi h34 q 5) = 0 → (rcvQ h34 b35 4 ∧ (((((((((((2 + 101) + 307) + 101) + 101) + 307) + 101) + 101) + 307) + 101) + 101) ≤ 1900 ∧ MetQ mq_J4_append_15ec4 [.ref b35, .ref 1202] h34 (rR (fun b37 h36 => Lw h34 h36 → (qkd h36 w = 2 ∧ (∀ b38 : Nat, gr h36 w 23 = some b38 → (rcvQ h36 b38 5 ∧ ((((((((((((2 + 101) + 307) + 101) + 101) + 307) + 101) + 101) + 307) + 101) + 101) + 151) ≤ 1900 ∧ MetQ mq_Jx4a65c_add_9ea2d [.ref b38, .ref q] h36 (rI (fun _ _ => False) (fun x40 h39 => Lw h36 h39 → Q (.inl none) h39))))) ∧ (gr h36 w 23 = none → False))))))) ∧ (¬ (gi h34 q 5) = 0 → (rcvQ h34 b35 4 ∧ (((((((((((2 + 101) + 307) + 101) + 101) + 307) + 101) + 101) + 307) + 101) + 101) ≤ 1900 ∧ MetQ mq_J4_append_15ec4 [.ref b35, .ref 1213] h34 (rR (fun b42 h41 => Lw h34 h41 → (qkd h41 w = 2 ∧ (∀ b43 : Nat, gr h41 w 23 = some b43 → (rcvQ h41 b43 5 ∧ ((((((((((((2 + 101) + 307) + 101) + 101) + 307) + 101) + 101) + 307) + 101) + 101) + 151) ≤ 1900 ∧ MetQ mq_Jx4a65c_add_9ea2d [.ref b43, .ref q] h41 (rI (fun _ _ => False) (fun x45 h44 => Lw h41 h44 → Q (.inl none) h44))))) ∧ (gr h41 w 23 = none → False)))))))))))))))))))))))))))))))))))))))))))) ∧ (gr h15 w 23 = none → False)))))))) ∧ (x14 = 0 → (qkd h13 q = 1 ∧ isB (nI 1) ∧ (rcvQ (si h13 q 5 (nI 1)) t 4 ∧ ((2 + 101) ≤ 1900 ∧ MetQ mq_J4_append_15ec4 [.ref t, .ref 1211] (si h13 q 5 (nI 1)) (rR (fun b47 h46 => Lw (si h13 q 5 (nI 1)) h46 → (qkd h46 w = 2 ∧ (∀ b48 : Nat, gr h46 w 23 = some b48 → (rcvQ h46 b48 5 ∧ MetQ mq_Jx4a65c_size_8abf5 [.ref b48] h46 (rI (fun _ _ => False) (fun x50 h49 => Lw h46 h49 → (((2 + 101) + 307) ≤ 1900 ∧ MetQ mq_X13_name [.ref 1212, .int x50] h49 (rR (fun b52 h51 => Lw h49 h51 → (rcvQ h51 b47 4 ∧ ((((2 + 101) + 307) + 101) ≤ 1900 ∧ MetQ mq_J4_append_15ec4 [.ref b47, .ref b52] h51 (rR (fun b54 h53 => Lw h51 h53 → (rcvQ h53 b54 4 ∧ (((((2 + 101) + 307) + 101) + 101) ≤ 1900 ∧ MetQ mq_J4_append_15ec4 [.ref b54, .ref 1206] h53 (rR (fun b56 h55 => Lw h53 h55 → (qkd h55 q = 1 ∧ ((((((2 + 101) + 307) + 101) + 101) + 307) ≤ 1900 ∧ MetQ mq_X13_name [.ref 1210, .int (gi h55 q 0)] h55 (rR (fun b58 h57 => Lw h55 h57 → (rcvQ h57 b56 4 ∧ (((((((2 + 101) + 307) + 101) + 101) + 307) + 101) ≤ 1900 ∧ MetQ mq_J4_append_15ec4 [.ref b56, .ref b58] h57 (rR (fun b60 h59 => Lw h57 h59 → (rcvQ h59 b60 4 ∧ ((((((((2 + 101) + 307) + 101) + 101) + 307) + 101) + 101) ≤ 1900 ∧ MetQ mq_J4_append_15ec4 [.ref b60, .ref 1206] h59 (rR (fun b62 h61 => Lw h59 h61 → (qkd h61 q = 1 ∧ (((((((((2 + 101) + 307) + 101) + 101) + 307) + 101) + 101) + 307) ≤ 1900 ∧ MetQ mq_X13_name [.ref 1205, .int (gi h61 q 1)] h61 (rR (fun b64 h63 => Lw h61 h63 → (rcvQ h63 b62 4 ∧ ((((((((((2 + 101) + 307) + 101) + 101) + 307) + 101) + 101) + 307) + 101) ≤ 1900 ∧ MetQ mq_J4_append_15ec4 [.ref b62, .ref b64] h63 (rR (fun b66 h65 => Lw h63 h65 → (qkd h65 q = 1 ∧ (((gi h65 q 5) = 0 → (rcvQ h65 b66 4 ∧ (((((((((((2 + 101) + 307) + 101) + 101) + 307) + 101) + 101) + 307) + 101) + 101) ≤ 1900 ∧ MetQ mq_J4_append_15ec4 [.ref b66, .ref 1202] h65 (rR (fun b68 h67 => Lw h65 h67 → (qkd h67 w = 2 ∧ (∀ b69 : Nat, gr h67 w 23 = some b69 → (rcvQ h67 b69 5 ∧ ((((((((((((2 + 101) + 307) + 101) + 101) + 307) + 101) + 101) + 307) + 101) + 101) + 151) ≤ 1900 ∧ MetQ mq_Jx4a65c_add_9ea2d [.ref b69, .ref q] h67 (rI (fun _ _ => False) (fun x71 h70 => Lw h67 h70 → Q (.inl none) h70))))) ∧ (gr h67 w 23 = none → False))))))) ∧ (¬ (gi h65 q 5) = 0 → (rcvQ h65 b66 4 ∧ (((((((((((2 + 101) + 307) + 101) + 101) + 307) + 101) + 101) + 307) + 101) + 101) ≤ 1900 ∧ MetQ mq_J4_append_15ec4 [.ref b66, .ref 1213] h65 (rR (fun b73 h72 => Lw h65 h72 → (qkd h72 w = 2 ∧ (∀ b74 : Nat, gr h72 w 23 = some b74 → (rcvQ h72 b74 5 ∧ ((((((((((((2 + 101) + 307) + 101) + 101) + 307) + 101) + 101) + 307) + 101) + 101) + 151) ≤ 1900 ∧ MetQ mq_Jx4a65c_add_9ea2d [.ref b74, .ref q] h72 (rI (fun _ _ => False) (fun x76 h75 => Lw h72 h75 → Q (.inl none) h75))))) ∧ (gr h72 w 23 = none → False)))))))))))))))))))))))))))))))))))))))))))) ∧ (gr h46 w 23 = none → False))))))))))))) :
    ∀ n cur h1, cur + n = W.ms.length → TX h1 t bs → GF w 2 h h1 → ItQ h1 t0 (W.u 0) cur → Mb5 h1 q p v → ∀ r, r = (rds s v (s 5) && allN cur (jok s p v)) → Bt mq_X13_member Q 53 2 [some (.ref w), some (.ref t), some (.ref q), some (.int (b2i r)), some (.ref t0), none] [] h1 := by
  have hl := X.m.2.1
  have R := P.rk
  have hv8 := R.v.2
  have hm12 := R.m.2
  have hsk := R.sk
  intro n
  induction n with
  | zero =>
    intro cur h1 hc T g I M r hr
    have X1 := X.gf g
    have e : cur = nn (s 2) := by omega
    refine sq_X13_member_53 ⟨Or.inl I.kt, c_hasNext I X1.al (by omega) (fun z => by omega) (fun _ _ => ⟨fun _ => ⟨fun z => ?_, fun z => K0 h1 T g⟩, fun z => absurd rfl z⟩)⟩
    refine K1 h1 T g M ?_
    rw [e] at hr
    show (rds s v (s 5) && allN (nn (s 2)) (jok s p v)) = true
    rw [← hr]
    cases q9 : r
    · exact absurd (b2i_0.mpr q9) z
    · rfl
  | succ n ih =>
    intro cur h1 hc T g I M r hr
    have X1 := X.gf g
    have hcur : cur < W.ms.length := by omega
    have hk : cur < nn (s 2) := by omega
    refine sq_X13_member_53 ⟨Or.inl I.kt, c_hasNext I X1.al (by omega) (fun _ _ => ⟨fun z => absurd z (by decide), fun _ => ⟨Or.inl I.kt, c_inext I X1.al hcur (by decide) (fun h2 I2 f2 l2 _ => ?_) ht0⟩⟩) (fun z => by omega)⟩
    have g2 : GF w 2 h h2 := g.newS f2 l2 (fun a ha => by rw [List.mem_singleton.mp ha]; exact htz) X.kw
    have X2 := X.gf g2
    have kt0 : qkd h1 t0 = 6 := I.kt
    have T2 : TX h2 t bs := T.fm f2 (fun a ha _ => by rw [List.mem_singleton.mp ha, kt0]; decide)
    have M2 : Mb5 h2 q p v := by
      obtain ⟨m0, m1, m2, m3, m4, m5⟩ := M
      have hz : ¬ qkd h1 q = 0 := by rw [m0]; decide
      have hn : q ∉ [t0] := fun e => hqt (List.mem_singleton.mp e)
      exact ⟨(f2.kd hz).trans m0, (f2.i hz hn).trans m1, (f2.i hz hn).trans m2, (f2.i hz hn).trans m3, (f2.i hz hn).trans m4, (f2.i hz hn).trans m5⟩
    have km := X2.km hcur
    have Pm := P.m cur hk
    have no : jok s p v cur = false ∨ r = false → Bt mq_X13_member Q 131 2 [some (.ref w), some (.ref t), some (.ref q), none, some (.ref t0), none] [] h2 := by
      intro z
      refine sq_X13_member_131 (ih (cur + 1) h2 (by omega) T2 g2 I2 M2 false ?_)
      rw [allN, ← Bool.and_assoc, ← hr]
      rcases z with z | z
      · rw [z, Bool.and_false]
      · rw [z, Bool.false_and]
    have yes : jok s p v cur = true → r = true → Bt mq_X13_member Q 127 2 [some (.ref w), some (.ref t), some (.ref q), none, some (.ref t0), none] [] h2 := by
      intro z z2
      refine sq_X13_member_127 (ih (cur + 1) h2 (by omega) T2 g2 I2 M2 true ?_)
      rw [allN, ← Bool.and_assoc, ← hr, z, z2]; rfl
    refine ⟨km, fun z => no (Or.inr (b2i_0.mp z)), fun z => ⟨km, M2.1, ?_⟩⟩
    have hrt : r = true := by
      cases q9 : r
      · exact absurd (b2i_0.mpr q9) z
      · rfl
    rw [X2.f hcur (show 1 < 6 by decide), M2.2.2.1, Pm.1.1.1]
    rw [abs_apt (c := nn (mf s cur 1)) (t := v) (by have := Pm.1.1.2; omega) (by omega)]
    intro y79
    refine ⟨X2.kw, ?_⟩
    rw [show gi h2 w 1 = nI (nn (s 6)) from X2.i.2.1.2.1.trans hsk.1]
    have hap : apt v (nn (mf s cur 1)) < 100 := by have := Pm.1.1.2; unfold apt; split <;> omega
    have hsk2 := hsk.2
    refine ⟨fun z2 => no (Or.inl ?_), fun z2 => ⟨km, M2.1, ?_⟩⟩
    · have : nn (s 6) < apt v (vN s cur) := (nI_ltI (a := nn (s 6)) (b := apt v (nn (mf s cur 1))) (by omega) (by omega)).mp z2
      unfold jok
      rw [decide_eq_true this]; rfl
    · have h6 : ¬ nn (s 6) < apt v (vN s cur) := fun q9 => z2 (nI_lt q9 (show apt v (nn (mf s cur 1)) < _ by omega))
      rw [X2.f hcur (show 0 < 6 by decide), M2.2.1]
      refine ⟨fun z3 => yes ?_ hrt, fun z3 => ⟨km, M2.1, X2.rc, ?_⟩⟩
      · unfold jok
        rw [decide_eq_false h6, decide_eq_false z3]; rfl
      · refine c_wTalk X2 Pm.1.2 hv hv8 (fun _ => ⟨fun z4 => no (Or.inl ?_), fun z4 => yes ?_ hrt⟩)
        · have e4 : tlk s v (vN s cur) = false := by rw [R.ts _ _ hv Pm.1.2]; exact b2i_0.mp z4
          unfold jok
          rw [decide_eq_false h6, decide_eq_true z3, e4]; rfl
        · have e4 : tlk s v (vN s cur) = true := by
            rw [R.ts _ _ hv Pm.1.2]
            cases q9 : tlk s (vN s cur) v
            · exact absurd (b2i_0.mpr q9) z4
            · rfl
          unfold jok
          rw [decide_eq_false h6, e4]; simp
theorem g_member (G : GU s0 nm0 w t b h s L A kt) (hL : L ≤ 520) (hA : A ≤ 780) (hv2 : 2 ≤ nn (s 0)) (hp1 : 0 < nn (s 1)) (hm : nn (s 2) < 12) (K0 : ∀ h', GU s0 nm0 w t b h' s L (A + 3) kt → Q (.inl none) h') (K1 : ∀ h' p v hb, GU s0 nm0 w t b h' (memS s p v hb) (L + 21) (A + 3) kt → PR (memS s p v hb) → Q (.inl none) h') : MetQ mq_X13_member [.ref w, .ref t] h Q := by
  obtain ⟨td, ⟨W, nm, bs, q9, at1, X, ⟨hes, J, F⟩, ⟨T, hbs⟩, ⟨N, hat⟩, hc, hR, hN, P, hG⟩, htd⟩ := G
  have hlen := X.m.2.1
  have hv8 := P.v.1.2
  have hp5 := P.x.1
  have hp52 := hp5.2
  refine tq_X13_member ⟨by decide, fun q hq0 hq => ?_⟩
  have hqw : q ≠ w := fun e => by rw [e, X.kw] at hq; cases hq
  have hqn : q ∉ W.ms := fun e => by
    have := X.al.el q e
    rw [hq] at this; cases this
  have kn : qkd (nw h q 1 0) q = 1 := qkd_nw (by omega)
  have fA : FmQ [] h (si (si (nw h q 1 0) q 2 (-(nI 1))) q 3 (-(nI 1))) := ((FmQ.nw (S := []) (kz0 := 1) (m := 0) hq).trans (FmQ.si (a := q)) (fun n hn hz => absurd (List.mem_singleton.mp hn) (ne_of_kd hz hq))).trans (FmQ.si (a := q)) (fun n hn hz => absurd (List.mem_singleton.mp hn) (ne_of_kd hz hq))
  have lA : Lw h (si (si (nw h q 1 0) q 2 (-(nI 1))) q 3 (-(nI 1))) := (((Oth.nw h q 1 0).lw hq0).trans ((Oth.si _ q _ _).lw hq0)).trans ((Oth.si _ q _ _).lw hq0)
  refine tq_X12_init ⟨kn, kn, fun _ => ?_⟩
  have qA : qkd (si (si (nw h q 1 0) q 2 (-(nI 1))) q 3 (-(nI 1))) q = 1 := kn
  have q2 : gi (si (si (nw h q 1 0) q 2 (-(nI 1))) q 3 (-(nI 1))) q 2 = -(nI 1) := (qsi_k (by decide)).trans qsi_s
  have q3 : gi (si (si (nw h q 1 0) q 2 (-(nI 1))) q 3 (-(nI 1))) q 3 = -(nI 1) := qsi_s
  have q4 : gi (si (si (nw h q 1 0) q 2 (-(nI 1))) q 3 (-(nI 1))) q 4 = 0 := (qsi_k (by decide)).trans ((qsi_k (by decide)).trans (qnw_i (h := h) (kd := 1) (n := 0)))
  generalize si (si (nw h q 1 0) q 2 (-(nI 1))) q 3 (-(nI 1)) = hA' at fA lA qA q2 q3 q4 ⊢
  have gA : GF w 0 h hA' := GF.of0 X.kw fA lA
  have XA := X.gf gA
  have TA : TX hA' t bs := T.fm fA (fun a ha => absurd ha List.not_mem_nil)
  have NA := N.gf gA
  refine ⟨XA.kw, XA.rc, ?_⟩
  rw [show gi hA' w 16 = nI (nn (s 1)) from XA.i.2.1.2.2.2.2.2.2.2.2.2.1.trans hp5.1]
  refine c_next1 NA XA.kw X.i.1.2 (by omega) hp1 (by omega) (fun p h1 hp g1 f1 _ => ?_)
  have z1 : ¬ qkd hA' q = 0 := by rw [qA]; decide
  have nq : q ∉ [w] := fun e => hqw (List.mem_singleton.mp e)
  have k1 : qkd h1 q = 1 := (f1.kd z1).trans qA
  have G1 := gA.trans g1
  have fS : ∀ {g g' : PH} {x : Int32} {j : Nat}, FmQ [q] g (si g q j x) := FmQ.si
  have hSq : ∀ a ∈ [q], qkd h a = 0 := fun a ha => by rw [List.mem_singleton.mp ha]; exact hq
  have G1' : GF w (0 + 1) h (si h1 q 0 (nI p)) := G1.newS FmQ.si ((Oth.si h1 q _ _).lw hq0) hSq X.kw
  have X1 := X.gf G1'
  have N1 : NX (si h1 q 0 (nI p)) w b (at1 + (0 + 1)) := N.gf G1'
  have T1 : TX (si h1 q 0 (nI p)) t bs := (TA.nx XA.kw f1).fm (FmQ.si (a := q)) (fun a ha _ => by rw [List.mem_singleton.mp ha, k1]; decide)
  refine ⟨k1, X1.rc, c_next1 N1 X1.kw X.i.1.2 (by omega) (by decide) (by decide) (fun v h2 hv g2 f2 _ => ?_)⟩
  have z2 : ¬ qkd (si h1 q 0 (nI p)) q = 0 := by show ¬ qkd h1 q = 0; rw [k1]; decide
  have k2 : qkd h2 q = 1 := (f2.kd z2).trans k1
  have G2 := G1'.trans g2
  have G2' : GF w (0 + 1 + 1) h (si h2 q 1 (nI v)) := G2.newS FmQ.si ((Oth.si h2 q _ _).lw hq0) hSq X.kw
  have X2 := X.gf G2'
  have T2 : TX (si h2 q 1 (nI v)) t bs := (T1.nx X1.kw f2).fm (FmQ.si (a := q)) (fun a ha _ => by rw [List.mem_singleton.mp ha, k2]; decide)
  have e0 : gi (si h2 q 1 (nI v)) q 0 = nI p := (qsi_k (by decide)).trans ((f2.i z2 nq).trans qsi_s)
  have e2 : gi (si h2 q 1 (nI v)) q 2 = -(nI 1) := (qsi_k (by decide)).trans ((f2.i z2 nq).trans ((qsi_k (by decide)).trans ((f1.i z1 nq).trans q2)))
  have e3 : gi (si h2 q 1 (nI v)) q 3 = -(nI 1) := (qsi_k (by decide)).trans ((f2.i z2 nq).trans ((qsi_k (by decide)).trans ((f1.i z1 nq).trans q3)))
  have e4 : gi (si h2 q 1 (nI v)) q 4 = 0 := (qsi_k (by decide)).trans ((f2.i z2 nq).trans ((qsi_k (by decide)).trans ((f1.i z1 nq).trans q4)))
  have k2' : qkd (si h2 q 1 (nI v)) q = 1 := k2
  have hv0 : v < nn (s 0) := by omega
  refine ⟨k2, k2, X2.kw, X2.rc, ?_⟩
  rw [qsi_s, show gi (si h2 q 1 (nI v)) w 0 = s 5 from X2.i.2.1.1]
  have M2 : Mb5 (si h2 q 1 (nI v)) q p v := ⟨k2', e0, qsi_s, e2, e3, e4⟩
  generalize si h2 q 1 (nI v) = h3 at G2' X2 T2 M2 ⊢
  refine c_wReads X2 hv0 hv8 (fun _ => ⟨X2.kw, g3 X2.r.2.2.2.2.2.1 ⟨X2.al.rc, by decide, c_iter X2.al (fun t0 h4 ht0 htz I0 f4 l4 _ => ?_)⟩⟩)
  have hqt : q ≠ t0 := fun e => by rw [← e, M2.1] at htz; cases htz
  have htz0 : qkd h t0 = 0 := by
    by_cases z : qkd h t0 = 0
    · exact z
    · rw [G2'.kd z] at htz; exact absurd htz z
  have G4 : GF w (0 + 1 + 1) h h4 := G2'.trans (GF.of0 X2.kw f4 l4)
  have T4 : TX h4 t bs := T2.fm f4 (fun a ha => absurd ha List.not_mem_nil)
  have M4 : Mb5 h4 q p v := by
    obtain ⟨m0, m1, m2, m3, m4, m5⟩ := M2
    have hz : ¬ qkd h3 q = 0 := by rw [m0]; decide
    exact ⟨(f4.kd hz).trans m0, (f4.i hz List.not_mem_nil).trans m1, (f4.i hz List.not_mem_nil).trans m2, (f4.i hz List.not_mem_nil).trans m3, (f4.i hz List.not_mem_nil).trans m4, (f4.i hz List.not_mem_nil).trans m5⟩
  refine l_gmember X P hq hp hv0 ht0 htz0 hqt (fun h' T' g' => K0 h' ⟨td, ⟨W, nm, bs, q9, at1 + 2, X.gf g', ⟨hes, J, F.gf X g'⟩, ⟨T', hbs⟩, ⟨N.gf g', by omega⟩, hc.md g'.md, hR, hN, P, hG⟩, htd⟩) (fun h5 T5 g5 M5 hj => ?_) W.ms.length 0 h4 (by omega) T4 G4 I0 M4 _ (by rw [allN, Bool.and_true])
  have X5 := X.gf g5
  have N5 := N.gf g5
  refine ⟨X5.rc, c_next1 N5 X5.kw X.i.1.2 (by omega) (by decide) (by decide) (fun r6 h6 hr6 g6 f6 _ => ?_)⟩
  have z5 : ¬ qkd h5 q = 0 := by rw [M5.1]; decide
  have k6 : qkd h6 q = 1 := (f6.kd z5).trans M5.1
  have G6 := g5.trans g6
  have add : ∀ hb : Bool, (rcvQ (si h6 q 5 (b2i hb)) t 4 ∧ ((2 + 101) ≤ 1900 ∧ MetQ mq_J4_append_15ec4 [.ref t, .ref 1211] (si h6 q 5 (b2i hb)) (rR (fun b16 h15 => Lw (si h6 q 5 (b2i hb)) h15 → (qkd h15 w = 2 ∧ (∀ b17 : Nat, gr h15 w 23 = some b17 → (rcvQ h15 b17 5 ∧ MetQ mq_Jx4a65c_size_8abf5 [.ref b17] h15 (rI (fun _ _ => False) (fun x19 h18 => Lw h15 h18 → (((2 + 101) + 307) ≤ 1900 ∧ MetQ mq_X13_name [.ref 1212, .int x19] h18 (rR (fun b21 h20 => Lw h18 h20 → (rcvQ h20 b16 4 ∧ ((((2 + 101) + 307) + 101) ≤ 1900 ∧ MetQ mq_J4_append_15ec4 [.ref b16, .ref b21] h20 (rR (fun b23 h22 => Lw h20 h22 → (rcvQ h22 b23 4 ∧ (((((2 + 101) + 307) + 101) + 101) ≤ 1900 ∧ MetQ mq_J4_append_15ec4 [.ref b23, .ref 1206] h22 (rR (fun b25 h24 => Lw h22 h24 → (qkd h24 q = 1 ∧ ((((((2 + 101) + 307) + 101) + 101) + 307) ≤ 1900 ∧ MetQ mq_X13_name [.ref 1210, .int (gi h24 q 0)] h24 (rR (fun b27 h26 => Lw h24 h26 → (rcvQ h26 b25 4 ∧ (((((((2 + 101) + 307) + 101) + 101) + 307) + 101) ≤ 1900 ∧ MetQ mq_J4_append_15ec4 [.ref b25, .ref b27] h26 (rR (fun b29 h28 => Lw h26 h28 → (rcvQ h28 b29 4 ∧ ((((((((2 + 101) + 307) + 101) + 101) + 307) + 101) + 101) ≤ 1900 ∧ MetQ mq_J4_append_15ec4 [.ref b29, .ref 1206] h28 (rR (fun b31 h30 => Lw h28 h30 → (qkd h30 q = 1 ∧ (((((((((2 + 101) + 307) + 101) + 101) + 307) + 101) + 101) + 307) ≤ 1900 ∧ MetQ mq_X13_name [.ref 1205, .int (gi h30 q 1)] h30 (rR (fun b33 h32 => Lw h30 h32 → (rcvQ h32 b31 4 ∧ ((((((((((2 + 101) + 307) + 101) + 101) + 307) + 101) + 101) + 307) + 101) ≤ 1900 ∧ MetQ mq_J4_append_15ec4 [.ref b31, .ref b33] h32 (rR (fun b35 h34 => Lw h32 h34 → (qkd h34 q = 1 ∧ (((gi h34 q 5) = 0 → (rcvQ h34 b35 4 ∧ (((((((((((2 + 101) + 307) + 101) + 101) + 307) + 101) + 101) + 307) + 101) + 101) ≤ 1900 ∧ MetQ mq_J4_append_15ec4 [.ref b35, .ref 1202] h34 (rR (fun b37 h36 => Lw h34 h36 → (qkd h36 w = 2 ∧ (∀ b38 : Nat, gr h36 w 23 = some b38 → (rcvQ h36 b38 5 ∧ ((((((((((((2 + 101) + 307) + 101) + 101) + 307) + 101) + 101) + 307) + 101) + 101) + 151) ≤ 1900 ∧ MetQ mq_Jx4a65c_add_9ea2d [.ref b38, .ref q] h36 (rI (fun _ _ => False) (fun x40 h39 => Lw h36 h39 → Q (.inl none) h39))))) ∧ (gr h36 w 23 = none → False))))))) ∧ (¬ (gi h34 q 5) = 0 → (rcvQ h34 b35 4 ∧ (((((((((((2 + 101) + 307) + 101) + 101) + 307) + 101) + 101) + 307) + 101) + 101) ≤ 1900 ∧ MetQ mq_J4_append_15ec4 [.ref b35, .ref 1213] h34 (rR (fun b42 h41 => Lw h34 h41 → (qkd h41 w = 2 ∧ (∀ b43 : Nat, gr h41 w 23 = some b43 → (rcvQ h41 b43 5 ∧ ((((((((((((2 + 101) + 307) + 101) + 101) + 307) + 101) + 101) + 307) + 101) + 101) + 151) ≤ 1900 ∧ MetQ mq_Jx4a65c_add_9ea2d [.ref b43, .ref q] h41 (rI (fun _ _ => False) (fun x45 h44 => Lw h41 h44 → Q (.inl none) h44))))) ∧ (gr h41 w 23 = none → False)))))))))))))))))))))))))))))))))))))))))))) ∧ (gr h15 w 23 = none → False)))))) := by
    intro hb
    have G7 : GF w (2 + 1) h (si h6 q 5 (b2i hb)) := G6.newS FmQ.si ((Oth.si h6 q _ _).lw hq0) hSq X.kw
    have T7 : TX (si h6 q 5 (b2i hb)) t bs := (T5.nx X5.kw f6).fm (FmQ.si (a := q)) (fun a ha _ => by rw [List.mem_singleton.mp ha, k6]; decide)
    obtain ⟨m0, m1, m2, m3, m4, m5⟩ := M5
    have M7 : MbQ (si h6 q 5 (b2i hb)) q p v hb := ⟨k6, (qsi_k (by decide)).trans ((f6.i z5 nq).trans m1), (qsi_k (by decide)).trans ((f6.i z5 nq).trans m2), (qsi_k (by decide)).trans ((f6.i z5 nq).trans m3), (qsi_k (by decide)).trans ((f6.i z5 nq).trans m4), (qsi_k (by decide)).trans ((f6.i z5 nq).trans m5), qsi_s⟩
    exact g_mtext (X.gf G7) hes J (F.gf X G7) T7 hbs (N.gf G7) (show at1 + (2 + 1) ≤ A + 3 by omega) (hc.md G7.md) hR hN P hG htd M7 hq0 hqn hm hp hv0 hj hL (fun h' G' P' => K1 h' p v hb G' P')
  exact ⟨fun _ => ⟨k6, Or.inl rfl, add false⟩, fun _ => ⟨k6, Or.inr rfl, add true⟩⟩
end
