/-! ===== the law's World while it grows: its versions ===== -/
section
variable {h h' h0 h1 h2 hB : PH} {w k v j t b tv at1 a d n i L A m c lo ic kt p q t0 V hi r : Nat} {W : WN} {s s' s0 sw u : RW} {Q : Res → PH → Prop} {x y z : Int32} {bs cs : List Nat} {S T : List Nat} {nm nm0 : Nat → Int64} {td : Nat → Bool} {hb : Bool}
theorem dec_1 (hn : n < 10) : dec n = [48 + n] := by
  unfold dec
  rw [if_pos hn]
theorem v_text {N : PH → Prop} (G : GS s0 nm0 w t b h sw u td L A) (ek : nn (u 0) = k) (hk : k < 8) (h0 : nn (u 2) = 0) (hL : L ≤ 560) (hA : A ≤ 800) (hc9 : c ≤ 38000) (el : sw (20 + k) = nI lo) (eh : sw (28 + k) = nI hi) (hlo : 1 ≤ lo ∧ lo ≤ 9) (hhi : lo ≤ hi ∧ hi ≤ 9)
    (K : ∀ h', GS s0 nm0 w t b h' sw (verS u (nI lo) (nI hi)) td (L + 17) (A + 1) → N h') :
    (rcvQ h t 4 ∧ ((c + 101) ≤ 40000 ∧ MetQ mq_J4_append_15ec4 [.ref t, .ref 1204] h (rR (fun b51 h50 => Lw h h50 → (((c + 101) + 307) ≤ 40000 ∧ MetQ mq_X13_name [.ref 1205, .int (nI k)] h50 (rR (fun b53 h52 => Lw h50 h52 → (rcvQ h52 b51 4 ∧ ((((c + 101) + 307) + 101) ≤ 40000 ∧ MetQ mq_J4_append_15ec4 [.ref b51, .ref b53] h52 (rR (fun b55 h54 => Lw h52 h54 → (rcvQ h54 b55 4 ∧ (((((c + 101) + 307) + 101) + 101) ≤ 40000 ∧ MetQ mq_J4_append_15ec4 [.ref b55, .ref 1206] h54 (rR (fun b57 h56 => Lw h54 h56 → (qkd h56 w = 2 ∧ (∀ b58 : Nat, gr h56 w 18 = some b58 → ((qkd h56 b58 = 16 ∨ qkd h56 b58 = 48) ∧ vp_in (nI k) (qln h56 b58) ∧ (rcvQ h56 b57 4 ∧ ((((((c + 101) + 307) + 101) + 101) + 101) ≤ 40000 ∧ MetQ mq_J4_append_bf812 [.ref b57, .int (gi h56 b58 k)] h56 (rR (fun b60 h59 => Lw h56 h59 → (rcvQ h59 b60 4 ∧ (((((((c + 101) + 307) + 101) + 101) + 101) + 101) ≤ 40000 ∧ MetQ mq_J4_append_15ec4 [.ref b60, .ref 1206] h59 (rR (fun b62 h61 => Lw h59 h61 → (qkd h61 w = 2 ∧ (∀ b63 : Nat, gr h61 w 19 = some b63 → ((qkd h61 b63 = 16 ∨ qkd h61 b63 = 48) ∧ vp_in (nI k) (qln h61 b63) ∧ (rcvQ h61 b62 4 ∧ ((((((((c + 101) + 307) + 101) + 101) + 101) + 101) + 101) ≤ 40000 ∧ MetQ mq_J4_append_bf812 [.ref b62, .int (gi h61 b63 k)] h61 (rR (fun b65 h64 => Lw h61 h64 → (rcvQ h64 w 2 ∧ MetQ mq_X13_next [.ref w, .int (nI 3)] h64 (rI (fun _ _ => False) (fun x67 h66 => Lw h64 h66 → ((¬ x67 = 0 → (rcvQ h66 b65 4 ∧ (((((((((c + 101) + 307) + 101) + 101) + 101) + 101) + 101) + 101) ≤ 40000 ∧ MetQ mq_J4_append_15ec4 [.ref b65, .ref 1202] h66 (rR (fun b69 h68 => Lw h66 h68 → N h68))))) ∧ (x67 = 0 → (rcvQ h66 b65 4 ∧ (((((((((c + 101) + 307) + 101) + 101) + 101) + 101) + 101) + 101) ≤ 40000 ∧ MetQ mq_J4_append_15ec4 [.ref b65, .ref 1207] h66 (rR (fun b71 h70 => Lw h66 h70 → N h70))))))))))))))) ∧ (gr h61 w 19 = none → False)))))))))))) ∧ (gr h56 w 18 = none → False))))))))))))))))) := by
  obtain ⟨W, nm, bs, q9, at1, X, ⟨hes, J, F⟩, ⟨T, hbs⟩, ⟨N1, hat⟩, hc, hR, hN, P, hG⟩ := G
  obtain ⟨⟨a1, a2, a3⟩, ⟨b1, b2, b3⟩, -⟩ := id X.a
  have r1 := X.r.1
  have r2 := X.r.2.1
  have dl : (dec lo).length = 1 := by rw [dec_1 (by omega)]; rfl
  have dh : (dec hi).length = 1 := by rw [dec_1 (by omega)]; rfl
  have P' := P.ver (lo := nI lo) (hi := nI hi) (by omega)
  have v0 := (ver_0 (lo := nI lo) (hi := nI hi) P).2
  have o : ∀ i, i ≠ 0 → (i < 20 ∨ 36 ≤ i) → verS u (nI lo) (nI hi) i = u i := fun i x1 x2 => ver_o (by omega)
  have N2 := hN.ver (s' := verS u (nI lo) (nI hi)) (by omega) v0 (o 1 (by decide) (by decide)) (o 2 (by decide) (by decide))
  have G2 : Good (verS u (nI lo) (nI hi)) := Good.zero (by rw [o 2 (by decide) (by decide)]; exact h0)
  refine ⟨T.rc, by omega, c_gC 4 (by decide) T X.kw hc (by simp only [List.length_append, List.length_cons, List.length_nil, sl0, sl1, sl2, sl3, sl4, sl5, sl6, sl7, sl8, sl9, sl10, sl11, sl12, sl13, sl14, sl15, sl16, sl17, sl18, sl19]; omega) (fun h2 T2 g2 _ => ⟨by omega, c_gN 5 (by decide) rfl T2 (X.gf g2).kw (hc.md g2.md) (by omega) (by simp only [List.length_append, List.length_cons, List.length_nil, sl0, sl1, sl2, sl3, sl4, sl5, sl6, sl7, sl8, sl9, sl10, sl11, sl12, sl13, sl14, sl15, sl16, sl17, sl18, sl19]; omega) (by omega) (fun h3 T3 g3' => ⟨T3.rc, by omega, ?_⟩)⟩)⟩
  have g13 := g2.trans g3'
  refine c_gC 6 (by decide) T3 (X.gf g13).kw (hc.md g13.md) (by simp only [List.length_append, List.length_cons, List.length_nil, sl0, sl1, sl2, sl3, sl4, sl5, sl6, sl7, sl8, sl9, sl10, sl11, sl12, sl13, sl14, sl15, sl16, sl17, sl18, sl19]; omega) (fun h4 T4 g4 _ => ?_)
  have g14 := g13.trans g4
  have X4 := X.gf g14
  have F4 := F.gf X g14
  obtain ⟨⟨a1', a2', a3'⟩, -⟩ := id X4.a
  refine ⟨X4.kw, g3 X4.r.1 ⟨Or.inl a1', by rw [a2']; exact vp_in_nI (by omega) (by decide), T4.rc, by omega, ?_⟩⟩
  rw [F4.1 k hk, el]
  refine c_gI T4 X4.kw (hc.md g14.md) (by omega) (by rw [dl]; simp only [List.length_append, List.length_cons, List.length_nil, sl0, sl1, sl2, sl3, sl4, sl5, sl6, sl7, sl8, sl9, sl10, sl11, sl12, sl13, sl14, sl15, sl16, sl17, sl18, sl19]; omega) (fun h5 T5 g5 _ => ⟨T5.rc, by omega, ?_⟩)
  have g15 := g14.trans g5
  refine c_gC 6 (by decide) T5 (X.gf g15).kw (hc.md g15.md) (by rw [List.length_append, dl]; simp only [List.length_append, List.length_cons, List.length_nil, sl0, sl1, sl2, sl3, sl4, sl5, sl6, sl7, sl8, sl9, sl10, sl11, sl12, sl13, sl14, sl15, sl16, sl17, sl18, sl19]; omega) (fun h6 T6 g6 _ => ?_)
  have g16 := g15.trans g6
  have X6 := X.gf g16
  have F6 := F.gf X g16
  obtain ⟨-, ⟨b1', b2', b3'⟩, -⟩ := id X6.a
  refine ⟨X6.kw, g3 X6.r.2.1 ⟨Or.inl b1', by rw [b2']; exact vp_in_nI (by omega) (by decide), T6.rc, by omega, ?_⟩⟩
  rw [F6.2.1 k hk, eh]
  refine c_gI T6 X6.kw (hc.md g16.md) (by omega) (by rw [List.length_append, List.length_append, dl, dh]; simp only [List.length_append, List.length_cons, List.length_nil, sl0, sl1, sl2, sl3, sl4, sl5, sl6, sl7, sl8, sl9, sl10, sl11, sl12, sl13, sl14, sl15, sl16, sl17, sl18, sl19]; omega) (fun h7 T7 g7 _ => ?_)
  have g17 := g16.trans g7
  have X7 := X.gf g17
  have N7 := N1.gf g17
  refine ⟨X7.rc, c_next1 N7 X7.kw X.i.1.2 (by omega) (by decide) (by decide) (fun r1 h8 hr1 g8 f8 _ => ⟨fun _ => ⟨(T7.nx X7.kw f8).rc, by omega, ?_⟩, fun _ => ⟨(T7.nx X7.kw f8).rc, by omega, ?_⟩⟩)⟩
  · have g18 := g17.trans g8
    refine c_gC 2 (by decide) (T7.nx X7.kw f8) (X.gf g18).kw (hc.md g18.md) (by rw [List.length_append, List.length_append, List.length_append, dl, dh]; simp only [List.length_append, List.length_cons, List.length_nil, sl0, sl1, sl2, sl3, sl4, sl5, sl6, sl7, sl8, sl9, sl10, sl11, sl12, sl13, sl14, sl15, sl16, sl17, sl18, sl19]; omega) (fun h9 T9 g9 _ => ?_)
    have g19 := g18.trans g9
    refine K h9 ⟨W, _, bs ++ (kwL 0 ++ [32, 118, 97 + nn (u 0), 32, 48 + lo, 32, 48 + hi, 59]), q9 + 1, at1 + (0 + 0 + 0 + 0 + 0 + 0 + 1 + 0), X.gf g19, ⟨hes, J, F.gf X g19⟩, ⟨?_, ?_⟩, ⟨N1.gf g19, by omega⟩, hc.md g19.md, hR.app (kw_pos (by decide)).1 (kw_pos (by decide)).2 (p_ver hN (by omega) hlo hhi), N2, P', G2⟩
    · rw [dec_1 (by omega), dec_1 (by omega)] at T9
      simp only [List.append_assoc] at T9
      rw [ek]
      exact T9
    · rw [List.length_append]
      show bs.length + 15 ≤ _
      omega
  · have g18 := g17.trans g8
    refine c_gC 7 (by decide) (T7.nx X7.kw f8) (X.gf g18).kw (hc.md g18.md) (by rw [List.length_append, List.length_append, List.length_append, dl, dh]; simp only [List.length_append, List.length_cons, List.length_nil, sl0, sl1, sl2, sl3, sl4, sl5, sl6, sl7, sl8, sl9, sl10, sl11, sl12, sl13, sl14, sl15, sl16, sl17, sl18, sl19]; omega) (fun h9 T9 g9 _ => ?_)
    have g19 := g18.trans g9
    refine K h9 ⟨W, _, bs ++ (kwL 0 ++ [32, 118, 97 + nn (u 0), 32, 48 + lo, 32, 48 + hi, 32, 59, 10]), q9 + 1, at1 + (0 + 0 + 0 + 0 + 0 + 0 + 1 + 0), X.gf g19, ⟨hes, J, F.gf X g19⟩, ⟨?_, ?_⟩, ⟨N1.gf g19, by omega⟩, hc.md g19.md, hR.app (kw_pos (by decide)).1 (kw_pos (by decide)).2 (p_ver2 hN (by omega) hlo hhi), N2, P', G2⟩
    · rw [dec_1 (by omega), dec_1 (by omega)] at T9
      simp only [List.append_assoc] at T9
      rw [ek]
      exact T9
    · rw [List.length_append]
      show bs.length + 17 ≤ _
      omega
theorem WO.a4 (X : WO h w W sw) (J : WInj W) (F : FA h W sw) (hc : Kc h) (hk : k < 8) (R8 : nn (sw 0) ≤ 8) (R5 : nn (sw 1) ≤ 5) (R12 : nn (sw 2) ≤ 12) : WO (si h (W.u 4) k x) w W (ups sw (20 + k) x) ∧ FA (si h (W.u 4) k x) W (ups sw (20 + k) x) := by
  obtain ⟨⟨a1, a2, a3⟩, ⟨b1, b2, b3⟩, ⟨c1, c2, c3⟩, ⟨d1, d2, d3⟩, ⟨e1, e2, e3⟩⟩ := id X.a
  have l2 : Lw h (si h (W.u 4) k x) := (Oth.si h _ k _).lw J.2.2.2.2.1.1
  have F2 : FA (si h (W.u 4) k x) W (ups sw (20 + k) x) := by
    obtain ⟨F4, F5, F6, F7, F8⟩ := F
    refine ⟨fun y hy => ?_, fun y hy => ?_, fun y hy => ?_, fun y hy c hc => ?_, fun y hy c hc => ?_⟩
    · by_cases q : y = k
      · subst q; rw [qsi_s, ups_s]
      · rw [qsi_k q, ups_n (by omega)]; exact F4 y hy
    · rw [qsi_a J.2.2.2.1.1.symm, ups_n (by omega)]; exact F5 y hy
    · rw [qsi_a J.2.2.2.1.2.1.symm, ups_n (by omega)]; exact F6 y hy
    · obtain ⟨y1, y2, y3, y4⟩ := d3 y hy
      rw [qsi_a (fun e => by rw [e, a1] at y2; cases y2), ups_n (by omega)]; exact F7 y hy c hc
    · obtain ⟨y1, y2, y3, y4⟩ := e3 y hy
      rw [qsi_a (fun e => by rw [e, a1] at y2; cases y2), show mf (ups sw (20 + k) x) y 6 = mf sw y 6 from ups_n (by omega)]; exact F8 y hy c hc
  exact ⟨X.arr R8 R5 R12 hc FmQ.si l2 (fun n hn => by rw [List.mem_singleton.mp hn]; exact Or.inl a1) (fun i hi => ups_n (by omega)) (fun k j hj => ups_n (by omega)) F2, F2⟩
theorem WO.a5 (X : WO h w W sw) (J : WInj W) (F : FA h W sw) (hc : Kc h) (hk : k < 8) (R8 : nn (sw 0) ≤ 8) (R5 : nn (sw 1) ≤ 5) (R12 : nn (sw 2) ≤ 12) : WO (si h (W.u 5) k x) w W (ups sw (28 + k) x) ∧ FA (si h (W.u 5) k x) W (ups sw (28 + k) x) := by
  obtain ⟨⟨a1, a2, a3⟩, ⟨b1, b2, b3⟩, ⟨c1, c2, c3⟩, ⟨d1, d2, d3⟩, ⟨e1, e2, e3⟩⟩ := id X.a
  have l2 : Lw h (si h (W.u 5) k x) := (Oth.si h _ k _).lw J.2.2.2.2.1.2.1
  have F2 : FA (si h (W.u 5) k x) W (ups sw (28 + k) x) := by
    obtain ⟨F4, F5, F6, F7, F8⟩ := F
    refine ⟨fun y hy => ?_, fun y hy => ?_, fun y hy => ?_, fun y hy c hc => ?_, fun y hy c hc => ?_⟩
    · rw [qsi_a J.2.2.2.1.1, ups_n (by omega)]; exact F4 y hy
    · by_cases q : y = k
      · subst q; rw [qsi_s, ups_s]
      · rw [qsi_k q, ups_n (by omega)]; exact F5 y hy
    · rw [qsi_a J.2.2.2.1.2.2.symm, ups_n (by omega)]; exact F6 y hy
    · obtain ⟨y1, y2, y3, y4⟩ := d3 y hy
      rw [qsi_a (fun e => by rw [e, b1] at y2; cases y2), ups_n (by omega)]; exact F7 y hy c hc
    · obtain ⟨y1, y2, y3, y4⟩ := e3 y hy
      rw [qsi_a (fun e => by rw [e, b1] at y2; cases y2), show mf (ups sw (28 + k) x) y 6 = mf sw y 6 from ups_n (by omega)]; exact F8 y hy c hc
  exact ⟨X.arr R8 R5 R12 hc FmQ.si l2 (fun n hn => by rw [List.mem_singleton.mp hn]; exact Or.inl b1) (fun i hi => ups_n (by omega)) (fun k j hj => ups_n (by omega)) F2, F2⟩
theorem v_ver {N : PH → Prop} (G : GS s0 nm0 w t b h sw u td L A) (ek : nn (u 0) = k) (hk : k < 8) (h0 : nn (u 2) = 0) (R8 : nn (sw 0) ≤ 8) (R5 : nn (sw 1) ≤ 5) (R12 : nn (sw 2) ≤ 12) (hL : L ≤ 560) (hA : A ≤ 790) (hc9 : c ≤ 38000) (el : sw (20 + k) = nI lo) (hlo : 1 ≤ lo ∧ lo ≤ 2)
    (K : ∀ h' hi, GS s0 nm0 w t b h' (ups sw (28 + k) (nI hi)) (verS u (nI lo) (nI hi)) td (L + 17) (A + 2) → N h') :
    (qkd h w = 2 ∧ (∀ b45 : Nat, gr h w 19 = some b45 → (qkd h w = 2 ∧ (∀ b46 : Nat, gr h w 18 = some b46 → ((qkd h b46 = 16 ∨ qkd h b46 = 48) ∧ vp_in (nI k) (qln h b46) ∧ (rcvQ h w 2 ∧ MetQ mq_X13_next [.ref w, .int (nI 2)] h (rI (fun _ _ => False) (fun x48 h47 => Lw h h47 → ((¬ (nI 2) = 0) ∧ (let y49 : Int32 := ((((gi h b46 k) + (nI 1)) + x48) + (nI (k / 2))); (qkd h47 b45 = 16 ∧ vp_in (nI k) (qln h47 b45) ∧ (rcvQ (si h47 b45 k (if y49 < (nI 9) then y49 else (nI 9))) t 4 ∧ ((c + 101) ≤ 40000 ∧ MetQ mq_J4_append_15ec4 [.ref t, .ref 1204] (si h47 b45 k (if y49 < (nI 9) then y49 else (nI 9))) (rR (fun b51 h50 => Lw (si h47 b45 k (if y49 < (nI 9) then y49 else (nI 9))) h50 → (((c + 101) + 307) ≤ 40000 ∧ MetQ mq_X13_name [.ref 1205, .int (nI k)] h50 (rR (fun b53 h52 => Lw h50 h52 → (rcvQ h52 b51 4 ∧ ((((c + 101) + 307) + 101) ≤ 40000 ∧ MetQ mq_J4_append_15ec4 [.ref b51, .ref b53] h52 (rR (fun b55 h54 => Lw h52 h54 → (rcvQ h54 b55 4 ∧ (((((c + 101) + 307) + 101) + 101) ≤ 40000 ∧ MetQ mq_J4_append_15ec4 [.ref b55, .ref 1206] h54 (rR (fun b57 h56 => Lw h54 h56 → (qkd h56 w = 2 ∧ (∀ b58 : Nat, gr h56 w 18 = some b58 → ((qkd h56 b58 = 16 ∨ qkd h56 b58 = 48) ∧ vp_in (nI k) (qln h56 b58) ∧ (rcvQ h56 b57 4 ∧ ((((((c + 101) + 307) + 101) + 101) + 101) ≤ 40000 ∧ MetQ mq_J4_append_bf812 [.ref b57, .int (gi h56 b58 k)] h56 (rR (fun b60 h59 => Lw h56 h59 → (rcvQ h59 b60 4 ∧ (((((((c + 101) + 307) + 101) + 101) + 101) + 101) ≤ 40000 ∧ MetQ mq_J4_append_15ec4 [.ref b60, .ref 1206] h59 (rR (fun b62 h61 => Lw h59 h61 → (qkd h61 w = 2 ∧ (∀ b63 : Nat, gr h61 w 19 = some b63 → ((qkd h61 b63 = 16 ∨ qkd h61 b63 = 48) ∧ vp_in (nI k) (qln h61 b63) ∧ (rcvQ h61 b62 4 ∧ ((((((((c + 101) + 307) + 101) + 101) + 101) + 101) + 101) ≤ 40000 ∧ MetQ mq_J4_append_bf812 [.ref b62, .int (gi h61 b63 k)] h61 (rR (fun b65 h64 => Lw h61 h64 → (rcvQ h64 w 2 ∧ MetQ mq_X13_next [.ref w, .int (nI 3)] h64 (rI (fun _ _ => False) (fun x67 h66 => Lw h64 h66 → ((¬ x67 = 0 → (rcvQ h66 b65 4 ∧ (((((((((c + 101) + 307) + 101) + 101) + 101) + 101) + 101) + 101) ≤ 40000 ∧ MetQ mq_J4_append_15ec4 [.ref b65, .ref 1202] h66 (rR (fun b69 h68 => Lw h66 h68 → N h68))))) ∧ (x67 = 0 → (rcvQ h66 b65 4 ∧ (((((((((c + 101) + 307) + 101) + 101) + 101) + 101) + 101) + 101) ≤ 40000 ∧ MetQ mq_J4_append_15ec4 [.ref b65, .ref 1207] h66 (rR (fun b71 h70 => Lw h66 h70 → N h70))))))))))))))) ∧ (gr h61 w 19 = none → False)))))))))))) ∧ (gr h56 w 18 = none → False))))))))))))))))))))))))) ∧ (gr h w 18 = none → False))) ∧ (gr h w 19 = none → (qkd h w = 2 ∧ (∀ b72 : Nat, gr h w 18 = some b72 → ((qkd h b72 = 16 ∨ qkd h b72 = 48) ∧ vp_in (nI k) (qln h b72) ∧ (rcvQ h w 2 ∧ MetQ mq_X13_next [.ref w, .int (nI 2)] h (rI (fun _ _ => False) (fun x74 h73 => Lw h h73 → ((¬ (nI 2) = 0) ∧ (let y75 : Int32 := ((((gi h b72 k) + (nI 1)) + x74) + (nI (k / 2))); False))))))) ∧ (gr h w 18 = none → False)))) := by
  obtain ⟨W, nm, bs, q9, at1, X, ⟨hes, J, F⟩, ⟨T, hbs⟩, ⟨N1, hat⟩, hc, hR, hN, P, hG⟩ := G
  obtain ⟨⟨a1, a2, a3⟩, ⟨b1, b2, b3⟩, -⟩ := id X.a
  refine ⟨X.kw, g3 X.r.2.1 ⟨X.kw, g3 X.r.1 ⟨Or.inl a1, by rw [a2]; exact vp_in_nI (by omega) (by decide), X.rc, c_next1 N1 X.kw X.i.1.2 (by omega) (by decide) (by decide) (fun r h2 hr g2 f2 _ => ⟨by decide, ?_⟩)⟩⟩⟩
  dsimp only
  rw [F.1 k hk, el]
  have X2 := X.gf g2
  have F2 := F.gf X g2
  obtain ⟨-, ⟨b1', b2', b3'⟩, -⟩ := id X2.a
  have hy : (if nI lo + nI 1 + nI r + nI (k / 2) < nI 9 then nI lo + nI 1 + nI r + nI (k / 2) else nI 9) = nI (lo + 1 + r + k / 2) := by
    rw [nI_add, nI_add, nI_add, if_pos (nI_lt (by omega) (by decide))]
  rw [hy]
  have hc2 := hc.md g2.md
  obtain ⟨X3, F3⟩ := X2.a5 (x := nI (lo + 1 + r + k / 2)) (k := k) J F2 hc2 hk R8 R5 R12
  have l3 : Lw h2 (si h2 (W.u 5) k (nI (lo + 1 + r + k / 2))) := (Oth.si h2 _ k _).lw J.2.2.2.2.1.2.1
  have f3 : FmQ [W.u 5] h2 (si h2 (W.u 5) k (nI (lo + 1 + r + k / 2))) := FmQ.si
  have hS : ∀ n ∈ [W.u 5], qkd h2 n = 16 ∨ qkd h2 n = 22 := fun n hn => by rw [List.mem_singleton.mp hn]; exact Or.inl b1'
  refine ⟨b1', by rw [b2']; exact vp_in_nI (by omega) (by decide), ?_⟩
  exact v_text (hi := lo + 1 + r + k / 2) ⟨W, nm, bs, q9, at1 + 1, X3, ⟨hes, J, F3⟩, ⟨(T.nx X.kw f2).ar f3 hS, hbs⟩, ⟨(N1.gf g2).fm X2.kw f3 l3 (nS_w X2.kw hS), by omega⟩, hc2.md l3.md, hR, hN, P, hG⟩ ek hk h0 hL (A := A + 1) (by omega) hc9 (by rw [ups_n (by omega)]; exact el) ups_s ⟨by omega, by omega⟩ ⟨by omega, by omega⟩ (fun h' G' => K h' _ G')
end
