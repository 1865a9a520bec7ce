/-! ===== the law's World while it grows: a member's text ===== -/
section
variable {h h' h0 h1 h2 H : PH} {w k v j t b tv at1 a d n i L A m c lo ic kt p q : Nat} {W : WN} {s s' s0 sw u : RW} {Q : Res → PH → Prop} {x y z : Int32} {bs cs : List Nat} {S T : List Nat} {nm nm0 : Nat → Int64} {td : Nat → Bool} {hb : Bool}
/-- a member that isn't in the list yet -/
def MbQ (h : PH) (q p v : Nat) (hb : Bool) : Prop := qkd h q = 1 ∧ gi h q 0 = nI p ∧ gi h q 1 = nI v ∧ gi h q 2 = -(nI 1) ∧ gi h q 3 = -(nI 1) ∧ gi h q 4 = 0 ∧ gi h q 5 = b2i hb
theorem MbQ.gf (M : MbQ h q p v hb) (hw : qkd h w = 2) (f : GF w n h h') : MbQ h' q p v hb := by
  obtain ⟨m0, m1, m2, m3, m4, m5, m6⟩ := M
  obtain ⟨o1, o2, o3, o4⟩ := f.o m0 (by decide) hw
  exact ⟨o3, (o1 0).trans m1, (o1 1).trans m2, (o1 2).trans m3, (o1 3).trans m4, (o1 4).trans m5, (o1 5).trans m6⟩
theorem g_madd {Q : Res → PH → Prop} (X : WO H w W s) (hes : W.es = []) (F : FA H W s) (P : PR s) (hc : Kc H) (M : MbQ H q p v hb) (hq2 : 2000 ≤ q) (hqn : q ∉ W.ms) (hm : nn (s 2) < 12) {cost : Nat} (hcost : cost ≤ 1900) (K : ∀ h' v1, WO h' w (W.mm v1 q) (memS s p v hb) → FA h' (W.mm v1 q) (memS s p v hb) → FmQ [W.u 0, W.u 1] H h' → Lw H h' → Q (.inl none) h') :
    qkd H w = 2 ∧ (∀ b38 : Nat, gr H w 23 = some b38 → (rcvQ H b38 5 ∧ (cost ≤ 1900 ∧ MetQ mq_Jx4a65c_add_9ea2d [.ref b38, .ref q] H (rI (fun _ _ => False) (fun x40 h39 => Lw H h39 → Q (.inl none) h39))))) ∧ (gr H w 23 = none → False) := by
  obtain ⟨m0, m1, m2, m3, m4, m5, m6⟩ := M
  obtain ⟨n1, n2, n3, n4, n5, n6⟩ := X.e
  have hlen := X.m.2.1
  refine ⟨X.kw, g3 X.r.2.2.2.2.2.1 ⟨X.al.rc, hcost, c_ladd X.al hc (Or.inl rfl) m0 (by omega) n2 (n5.imp id (fun z => z.1)) (fun h' v1 A' f' l' hv hv2 _ => ?_)⟩⟩
  have := X.mem hes F P hc m0 hq2 hqn hm m1 m2 m3 m4 m5 m6 A' f' l' hv hv2
  exact K h' v1 this.1 this.2 f' l'
theorem g_mtext (X : WO H w W s) (hes : W.es = []) (J : WInj W) (F : FA H W s) (T : TX H t bs) (hbs : bs.length ≤ L) (N : NX H w b at1) (hat : at1 ≤ A) (hc : Kc H) (hR : Rdd s0 nm0 bs s nm td m) (hN : NmI nm s) (P : PR s) (hG : Good s) (htd : ∀ j, kt ≤ j → td j = false) (M : MbQ H q p v hb) (hq2 : 2000 ≤ q) (hqn : q ∉ W.ms) (hm : nn (s 2) < 12) (hp : p < nn (s 1)) (hv : v < nn (s 0)) (hj : joN s p v = true) (hL : L ≤ 520)
    (K : ∀ h', GU s0 nm0 w t b h' (memS s p v hb) (L + 21) A kt → PR (memS s p v hb) → Q (.inl none) h') :
    (rcvQ H t 4 ∧ ((2 + 101) ≤ 1900 ∧ MetQ mq_J4_append_15ec4 [.ref t, .ref 1211] H (rR (fun b16 h15 => Lw H h15 → (qkd h15 w = 2 ∧ (∀ b17 : Nat, gr h15 w 23 = some b17 → (rcvQ h15 b17 5 ∧ MetQ mq_Jx4a65c_size_8abf5 [.ref b17] h15 (rI (fun _ _ => False) (fun x19 h18 => Lw h15 h18 → (((2 + 101) + 307) ≤ 1900 ∧ MetQ mq_X13_name [.ref 1212, .int x19] h18 (rR (fun b21 h20 => Lw h18 h20 → (rcvQ h20 b16 4 ∧ ((((2 + 101) + 307) + 101) ≤ 1900 ∧ MetQ mq_J4_append_15ec4 [.ref b16, .ref b21] h20 (rR (fun b23 h22 => Lw h20 h22 → (rcvQ h22 b23 4 ∧ (((((2 + 101) + 307) + 101) + 101) ≤ 1900 ∧ MetQ mq_J4_append_15ec4 [.ref b23, .ref 1206] h22 (rR (fun b25 h24 => Lw h22 h24 → (qkd h24 q = 1 ∧ ((((((2 + 101) + 307) + 101) + 101) + 307) ≤ 1900 ∧ MetQ mq_X13_name [.ref 1210, .int (gi h24 q 0)] h24 (rR (fun b27 h26 => Lw h24 h26 → (rcvQ h26 b25 4 ∧ (((((((2 + 101) + 307) + 101) + 101) + 307) + 101) ≤ 1900 ∧ MetQ mq_J4_append_15ec4 [.ref b25, .ref b27] h26 (rR (fun b29 h28 => Lw h26 h28 → (rcvQ h28 b29 4 ∧ ((((((((2 + 101) + 307) + 101) + 101) + 307) + 101) + 101) ≤ 1900 ∧ MetQ mq_J4_append_15ec4 [.ref b29, .ref 1206] h28 (rR (fun b31 h30 => Lw h28 h30 → (qkd h30 q = 1 ∧ (((((((((2 + 101) + 307) + 101) + 101) + 307) + 101) + 101) + 307) ≤ 1900 ∧ MetQ mq_X13_name [.ref 1205, .int (gi h30 q 1)] h30 (rR (fun b33 h32 => Lw h30 h32 → (rcvQ h32 b31 4 ∧ ((((((((((2 + 101) + 307) + 101) + 101) + 307) + 101) + 101) + 307) + 101) ≤ 1900 ∧ MetQ mq_J4_append_15ec4 [.ref b31, .ref b33] h32 (rR (fun b35 h34 => Lw h32 h34 → (qkd h34 q = 1 ∧ (((gi h34 q 5) = 0 → (rcvQ h34 b35 4 ∧ (((((((((((2 + 101) + 307) + 101) + 101) + 307) + 101) + 101) + 307) + 101) + 101) ≤ 1900 ∧ MetQ mq_J4_append_15ec4 [.ref b35, .ref 1202] h34 (rR (fun b37 h36 => Lw h34 h36 → (qkd h36 w = 2 ∧ (∀ b38 : Nat, gr h36 w 23 = some b38 → (rcvQ h36 b38 5 ∧ ((((((((((((2 + 101) + 307) + 101) + 101) + 307) + 101) + 101) + 307) + 101) + 101) + 151) ≤ 1900 ∧ MetQ mq_Jx4a65c_add_9ea2d [.ref b38, .ref q] h36 (rI (fun _ _ => False) (fun x40 h39 => Lw h36 h39 → Q (.inl none) h39))))) ∧ (gr h36 w 23 = none → False))))))) ∧ (¬ (gi h34 q 5) = 0 → (rcvQ h34 b35 4 ∧ (((((((((((2 + 101) + 307) + 101) + 101) + 307) + 101) + 101) + 307) + 101) + 101) ≤ 1900 ∧ MetQ mq_J4_append_15ec4 [.ref b35, .ref 1213] h34 (rR (fun b42 h41 => Lw h34 h41 → (qkd h41 w = 2 ∧ (∀ b43 : Nat, gr h41 w 23 = some b43 → (rcvQ h41 b43 5 ∧ ((((((((((((2 + 101) + 307) + 101) + 101) + 307) + 101) + 101) + 307) + 101) + 101) + 151) ≤ 1900 ∧ MetQ mq_Jx4a65c_add_9ea2d [.ref b43, .ref q] h41 (rI (fun _ _ => False) (fun x45 h44 => Lw h41 h44 → Q (.inl none) h44))))) ∧ (gr h41 w 23 = none → False)))))))))))))))))))))))))))))))))))))))))))) ∧ (gr h15 w 23 = none → False)))))) := by
  have hlen := X.m.2.1
  have hv8 := P.v.1.2
  have hp5 := P.x.1.2
  have P' := P.mem (p := p) (v := v) (hb := hb) hm hp hv
  have e22 := mem_2 (p := p) (v := v) (hb := hb) P
  have lo : ∀ i, i < 49 → i ≠ 2 → memS s p v hb i = s i := fun i h1 h2 => mem_lo h1 h2
  have hN' := hN.mem (s' := memS s p v hb) hv8 hp5 (lo 0 (by decide) (by decide)) (lo 1 (by decide) (by decide)) e22.2
  have hG' := hG.mem (hb := hb) P P' hm hv hj
  have k1 : qkd H (W.u 1) = 23 ∨ qkd H (W.u 1) = 55 := by
    rcases X.al.2.2.2.2.2 with ⟨z, -⟩ | ⟨z, -⟩
    · rw [z]; exact Or.inr hc.1.1
    · exact Or.inl z
  have fin : ∀ h9 (T9 : TX h9 t (bs ++ (kwL 3 ++ ([32, 109, 97 + nn (s 2), 32, 112, 97 + p, 32, 118, 97 + v] ++ (if hb = true then [32, 104, 101, 108, 100, 59] else [59]))))) (g9 : GF w 0 H h9), ∀ h' v1, WO h' w (W.mm v1 q) (memS s p v hb) → FA h' (W.mm v1 q) (memS s p v hb) → FmQ [W.u 0, W.u 1] h9 h' → Lw h9 h' → Q (.inl none) h' := by
    intro h9 T9 g9 h' v1 X' F' f' l'
    have k0' : qkd h9 (W.u 0) = 5 := (g9.kd X.al.kz).trans X.al.kl
    have k1' : qkd h9 (W.u 1) = 23 ∨ qkd h9 (W.u 1) = 55 := by
      rw [g9.kd (by rcases k1 with z | z <;> rw [z] <;> decide)]; exact k1
    have X9 := X.gf g9
    refine K h' ⟨td, ⟨W.mm v1 q, upn nm (13 + nn (s 2)) (lN (nvN 109 (nn (s 2)))), _, m + 1, at1 + 0, X', ⟨hes, J, F'⟩, ⟨T9.fm f' (fun a ha _ => ?_), ?_⟩, ⟨(N.gf g9).fm X9.kw f' l' (fun e => ?_), by omega⟩, (hc.md g9.md).md l'.md, hR.app (kw_pos (by decide)).1 (kw_pos (by decide)).2 ?_, hN', P', hG'⟩, htd⟩ P'
    · rcases List.mem_cons.mp ha with z | z
      · rw [z, k0']; decide
      · rw [List.mem_singleton.mp z]
        rcases k1' with z | z <;> rw [z] <;> decide
    · rw [List.length_append, List.length_append, List.length_append]
      have : (if hb = true then [32, 104, 101, 108, 100, 59] else [59]).length ≤ 6 := by cases hb <;> decide
      show bs.length + (6 + (9 + _)) ≤ _
      omega
    · rcases List.mem_cons.mp e with z | z
      · rw [← z, X9.kw] at k0'; cases k0'
      · rw [← List.mem_singleton.mp z, X9.kw] at k1'
        rcases k1' with z | z <;> cases z
    · cases hb
      · exact p_mem hN hv8 hp5 hm hp hv hj
      · exact p_memh hN hv8 hp5 hm hp hv hj
  refine ⟨T.rc, by decide, c_gC 11 (by decide) T X.kw hc (by simp only [List.length_append, List.length_cons, List.length_nil, sl0, sl1, sl2, sl3, sl4, sl5, sl6, sl7, sl8, sl9, sl10, sl11, sl12, sl13, sl14, sl15, sl16, sl17, sl18, sl19]; omega) (fun h2 T2 g2 _ => ⟨(X.gf g2).kw, g3 (X.gf g2).r.2.2.2.2.2.1 ⟨(X.gf g2).al.rc, c_lsize (X.gf g2).al (fun _ => ⟨by decide, c_gN 12 (by decide) rfl T2 (X.gf g2).kw (hc.md g2.md) (by omega) (by simp only [List.length_append, List.length_cons, List.length_nil, sl0, sl1, sl2, sl3, sl4, sl5, sl6, sl7, sl8, sl9, sl10, sl11, sl12, sl13, sl14, sl15, sl16, sl17, sl18, sl19]; omega) (by decide) (fun h3 T3 g3' => ⟨T3.rc, by decide, ?_⟩)⟩)⟩⟩)⟩
  have g03 := g2.trans g3'
  refine c_gC 6 (by decide) T3 (X.gf g03).kw (hc.md g03.md) (by simp only [List.length_append, List.length_cons, List.length_nil, sl0, sl1, sl2, sl3, sl4, sl5, sl6, sl7, sl8, sl9, sl10, sl11, sl12, sl13, sl14, sl15, sl16, sl17, sl18, sl19]; omega) (fun h4 T4 g4 _ => ?_)
  have g04 := g03.trans g4
  have M4 := M.gf X.kw g04
  refine ⟨M4.1, by decide, ?_⟩
  rw [M4.2.1]
  refine c_gN 10 (by decide) rfl T4 (X.gf g04).kw (hc.md g04.md) (by omega) (by simp only [List.length_append, List.length_cons, List.length_nil, sl0, sl1, sl2, sl3, sl4, sl5, sl6, sl7, sl8, sl9, sl10, sl11, sl12, sl13, sl14, sl15, sl16, sl17, sl18, sl19]; omega) (by decide) (fun h5 T5 g5 => ⟨T5.rc, by decide, ?_⟩)
  have g05 := g04.trans g5
  refine c_gC 6 (by decide) T5 (X.gf g05).kw (hc.md g05.md) (by simp only [List.length_append, List.length_cons, List.length_nil, sl0, sl1, sl2, sl3, sl4, sl5, sl6, sl7, sl8, sl9, sl10, sl11, sl12, sl13, sl14, sl15, sl16, sl17, sl18, sl19]; omega) (fun h6 T6 g6 _ => ?_)
  have g06 := g05.trans g6
  have M6 := M.gf X.kw g06
  refine ⟨M6.1, by decide, ?_⟩
  rw [M6.2.2.1]
  refine c_gN 5 (by decide) rfl T6 (X.gf g06).kw (hc.md g06.md) (by omega) (by simp only [List.length_append, List.length_cons, List.length_nil, sl0, sl1, sl2, sl3, sl4, sl5, sl6, sl7, sl8, sl9, sl10, sl11, sl12, sl13, sl14, sl15, sl16, sl17, sl18, sl19]; omega) (by decide) (fun h7 T7 g7 => ?_)
  have g07 := g06.trans g7
  have M7 := M.gf X.kw g07
  have X7 := X.gf g07
  refine ⟨M7.1, ?_⟩
  rw [M7.2.2.2.2.2.2, hlen] at *
  refine ⟨fun z => ⟨T7.rc, by decide, c_gC 2 (by decide) T7 X7.kw (hc.md g07.md) (by simp only [List.length_append, List.length_cons, List.length_nil, sl0, sl1, sl2, sl3, sl4, sl5, sl6, sl7, sl8, sl9, sl10, sl11, sl12, sl13, sl14, sl15, sl16, sl17, sl18, sl19]; omega) (fun h8 T8 g8 _ => ?_)⟩, fun z => ⟨T7.rc, by decide, c_gC 13 (by decide) T7 X7.kw (hc.md g07.md) (by simp only [List.length_append, List.length_cons, List.length_nil, sl0, sl1, sl2, sl3, sl4, sl5, sl6, sl7, sl8, sl9, sl10, sl11, sl12, sl13, sl14, sl15, sl16, sl17, sl18, sl19]; omega) (fun h8 T8 g8 _ => ?_)⟩⟩
  · have g08 := g07.trans g8
    have X8 := X.gf g08
    refine g_madd X8 hes (F.gf X g08) P (hc.md g08.md) (M.gf X.kw g08) hq2 hqn hm (by decide) (fin h8 ?_ g08)
    rw [b2i_0.mp z, if_neg (by decide)]
    simp only [List.append_assoc] at T8
    exact T8
  · have g08 := g07.trans g8
    have X8 := X.gf g08
    refine g_madd X8 hes (F.gf X g08) P (hc.md g08.md) (M.gf X.kw g08) hq2 hqn hm (by decide) (fin h8 ?_ g08)
    have : hb = true := by
      cases e : hb
      · rw [e] at z; exact absurd rfl z
      · rfl
    rw [this, if_pos rfl]
    simp only [List.append_assoc] at T8
    exact T8
end
