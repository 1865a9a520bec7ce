/-! ===== the law itself, from its fifth instruction on ===== -/
def mq_Jx4a65c_isEmpty_aae02 : MI := (yJx4a65c_isEmpty_aae02, cJx4a65c_isEmpty_aae02, 1, some .boolean, 0, 0, 0, [], 4)
theorem oq_Jx4a65c_isEmpty_aae02 : MOQ mq_Jx4a65c_isEmpty_aae02 := ⟨(tbG_at (p := 1800) (by decide +kernel)), (tbG_at (p := 4) (by decide +kernel)), by decide +kernel, rfl, (tbG_at (p := 1798) (by decide +kernel))⟩
def cq_Jx4a65c_isEmpty_aae02 : Cd := [
  [(0, .aload_n 0, 1, [], []), (1, .getfield 48, 3, [13, 2, 0, 749, 0], []), (4, .ifCond .ne 7, 3, [11], []), (7, .iconst 1, 1, [], []), (8, .goto 4, 3, [12], []), (11, .iconst 0, 1, [], []), (12, .ireturn, 1, [6], [])]]
theorem kq_Jx4a65c_isEmpty_aae02 : CdQ mq_Jx4a65c_isEmpty_aae02 cq_Jx4a65c_isEmpty_aae02 := ⟨by decide +kernel, allQ_of trivial⟩
set_option maxRecDepth 100000 in
set_option maxHeartbeats 4000000 in
theorem tq_Jx4a65c_isEmpty_aae02 {a : Nat} {h : PH} {Q : Res → PH → Prop}
    (T : (qkd h a = 5 ∧ ((¬ (gi h a 2) = 0 → (isB (nI 0) ∧ Q (.inl (some (.int (nI 0)))) h)) ∧ ((gi h a 2) = 0 → (isB (nI 1) ∧ Q (.inl (some (.int (nI 1)))) h))))) :
    MetQ mq_Jx4a65c_isEmpty_aae02 [.ref a] h Q :=
  met_ofQ oq_Jx4a65c_isEmpty_aae02 (Nat.le_of_ble_eq_true rfl) (vgq_ok kq_Jx4a65c_isEmpty_aae02 (stops := []) 57 0 0 _ [] h T)
def mq_L_law : MI := (x, code, 4, some .boolean, 11, 288, 600000, [], 5)
def cq_L_law : Cd := [
  [(13, .aload_n 2, 1, [], []), (14, .aload_n 1, 1, [], []), (15, .getfield 197, 3, [10, 25, 3, 802, 0], [])],
  [(18, .invokestatic 201, 3, [1, 2, 1, 0, 60, 1312], [mq_L_feeds]), (21, .ifCond .eq 19, 3, [40], []), (24, .aload_n 2, 1, [], []), (25, .invokevirtual 205, 3, [9, 0, 1, 0, 1, 394], [m_X11_readText]), (28, .aload_n 1, 1, [], []), (29, .getfield 75, 3, [10, 23, 3, 798, 0], [])],
  [(32, .invokeinterface 79 1, 5, [7, 0, 1, 5, 0, 1376, 3, 1219], [mq_Jx4a65c_size_8abf5]), (37, .if_icmp .eq 5, 3, [42], []), (40, .iconst 0, 1, [], []), (41, .ireturn, 1, [6], []), (42, .iconst 0, 1, [], []), (43, .istore_n 3, 1, [], []), (44, .iload_n 3, 1, [], []), (45, .bipush 18, 2, [], []), (47, .if_icmp .ge 59, 3, [106], [])],
  [(50, .aload_n 1, 1, [], []), (51, .getfield 75, 3, [10, 23, 3, 798, 0], []), (54, .invokeinterface 208 1, 5, [7, 0, 1, 5, 0, 1793, 6, 1796], [mq_Jx4a65c_isEmpty_aae02]), (59, .ifCond .ne 47, 3, [106], []), (62, .aload_n 2, 1, [], []), (63, .aload_n 1, 1, [], [])],
  [(64, .invokestatic 209, 3, [1, 2, 1, 0, 500, 1705], [mq_L_holds]), (67, .ifCond .eq 31, 3, [98], []), (70, .aload_n 2, 1, [], []), (71, .aload_n 1, 1, [], []), (72, .aload_n 0, 1, [], []), (73, .iload_n 3, 1, [], []), (74, .invokestatic 213, 3, [8, 4, 1, 0, 0, 1424], [mq_L_acts]), (77, .ifCond .eq 21, 3, [98], [])],
  [(80, .aload_n 2, 1, [], []), (81, .aload_n 1, 1, [], []), (82, .aload_n 0, 1, [], []), (83, .iload_n 3, 1, [], []), (84, .invokestatic 217, 3, [1, 4, 1, 0, 800, 1746], [mq_L_begins]), (87, .ifCond .eq 11, 3, [98], []), (90, .aload_n 2, 1, [], []), (91, .aload_n 1, 1, [], []), (92, .invokestatic 220, 3, [1, 2, 1, 0, 150, 1348], [mq_L_alike]), (95, .ifCond .ne 5, 3, [100], [])],
  [(98, .iconst 0, 1, [], []), (99, .ireturn, 1, [6], []), (100, .iinc 3 1, 3, [], []), (103, .goto (-59), 3, [44], []), (106, .aload_n 1, 1, [], []), (107, .getfield 75, 3, [10, 23, 3, 798, 0], []), (110, .invokeinterface 208 1, 5, [7, 0, 1, 5, 0, 1793, 6, 1796], [mq_Jx4a65c_isEmpty_aae02])],
  [(115, .ifCond .ne 11, 3, [126], []), (118, .aload_n 2, 1, [], []), (119, .aload_n 1, 1, [], []), (120, .invokestatic 223, 3, [1, 2, 1, 0, 300, 1773], [mq_L_ends]), (123, .ifCond .eq 7, 3, [130], []), (126, .iconst 1, 1, [], []), (127, .goto 4, 3, [131], [])],
  [(130, .iconst 0, 1, [], []), (131, .ireturn, 1, [6], [])]]
theorem kq_L_law : CdQ mq_L_law cq_L_law := ⟨by decide +kernel, allQ_of ⟨oq_L_feeds, ⟨(moq0 o_X11_readText rfl), ⟨oq_Jx4a65c_size_8abf5, ⟨oq_Jx4a65c_isEmpty_aae02, ⟨oq_L_holds, ⟨oq_L_acts, ⟨oq_L_begins, ⟨oq_L_alike, ⟨oq_Jx4a65c_isEmpty_aae02, ⟨oq_L_ends, trivial⟩⟩⟩⟩⟩⟩⟩⟩⟩⟩⟩
set_option maxRecDepth 100000 in
set_option maxHeartbeats 4000000 in
theorem sq_L_law_13 {v0 : Nat} {v1 : Nat} {v2 : Nat} {c : Nat} {h : PH} {Q : Res → PH → Prop}
    (T : (qkd h v1 = 2 ∧ (∀ b11 : Nat, gr h v1 25 = some b11 → ((c + 60) ≤ 600000 ∧ MetQ mq_L_feeds [.ref v2, .ref b11] h (rI (fun _ _ => False) (fun x13 h12 => Md h h12 → ((x13 = 0 → (isB (nI 0) ∧ Q (.inl (some (.int (nI 0)))) h12)) ∧ (¬ x13 = 0 → Bt mq_L_law Q 24 (c + 60) [some (.ref v0), some (.ref v1), some (.ref v2), none] [] h12)))))) ∧ (gr h v1 25 = none → ((c + 60) ≤ 600000 ∧ MetQ mq_L_feeds [.ref v2, .null] h (rI (fun _ _ => False) (fun x15 h14 => Md h h14 → ((x15 = 0 → (isB (nI 0) ∧ Q (.inl (some (.int (nI 0)))) h14)) ∧ (¬ x15 = 0 → Bt mq_L_law Q 24 (c + 60) [some (.ref v0), some (.ref v1), some (.ref v2), none] [] h14)))))))) :
    Bt mq_L_law Q 13 c [some (.ref v0), some (.ref v1), some (.ref v2), none] [] h :=
  vgq_ok kq_L_law (stops := [(13, [3]), (24, [3]), (44, []), (106, [0, 3])]) 200 13 c _ _ h T
set_option maxRecDepth 100000 in
set_option maxHeartbeats 4000000 in
theorem sq_L_law_24 {v0 : Nat} {v1 : Nat} {v2 : Nat} {c : Nat} {h : PH} {Q : Res → PH → Prop}
    (T : (v2 = 0 ∧ ((c + 1) ≤ 600000 ∧ MetPM m_X11_readText [.ref v2] h (rI (fun _ _ => False) (fun x12 h11 => Hi h h11 → (qkd h11 v1 = 2 ∧ (∀ b13 : Nat, gr h11 v1 23 = some b13 → (rcvQ h11 b13 5 ∧ MetQ mq_Jx4a65c_size_8abf5 [.ref b13] h11 (rI (fun _ _ => False) (fun x15 h14 => Lw h11 h14 → ((x12 = x15 → Bt mq_L_law Q 44 (c + 1) [some (.ref v0), some (.ref v1), some (.ref v2), some (.int (nI 0))] [] h14) ∧ (¬ x12 = x15 → (isB (nI 0) ∧ Q (.inl (some (.int (nI 0)))) h14))))))) ∧ (gr h11 v1 23 = none → False))))))) :
    Bt mq_L_law Q 24 c [some (.ref v0), some (.ref v1), some (.ref v2), none] [] h :=
  vgq_ok kq_L_law (stops := [(13, [3]), (24, [3]), (44, []), (106, [0, 3])]) 200 24 c _ _ h T
set_option maxRecDepth 100000 in
set_option maxHeartbeats 4000000 in
theorem sq_L_law_44 {v0 : Nat} {v1 : Nat} {v2 : Nat} {v3 : Int32} {c : Nat} {h : PH} {Q : Res → PH → Prop}
    (T : (((nI 18) ≤ v3 → Bt mq_L_law Q 106 c [none, some (.ref v1), some (.ref v2), none] [] h) ∧ (¬ (nI 18) ≤ v3 → (qkd h v1 = 2 ∧ (∀ b11 : Nat, gr h v1 23 = some b11 → (rcvQ h b11 5 ∧ MetQ mq_Jx4a65c_isEmpty_aae02 [.ref b11] h (rI (fun _ _ => False) (fun x13 h12 => Lw h h12 → ((¬ x13 = 0 → Bt mq_L_law Q 106 c [none, some (.ref v1), some (.ref v2), none] [] h12) ∧ (x13 = 0 → ((c + 500) ≤ 600000 ∧ MetQ mq_L_holds [.ref v2, .ref v1] h12 (rI (fun _ _ => False) (fun x15 h14 => Md h12 h14 → ((x15 = 0 → (isB (nI 0) ∧ Q (.inl (some (.int (nI 0)))) h14)) ∧ (¬ x15 = 0 → (∃ cp17 : Nat, ((c + 500) + cp17) ≤ 600000 ∧ MetQ (wcap mq_L_acts cp17) [.ref v2, .ref v1, .ref v0, .int v3] h14 (rI (fun _ _ => False) (fun x18 h16 => Md h14 h16 → ((x18 = 0 → (isB (nI 0) ∧ Q (.inl (some (.int (nI 0)))) h16)) ∧ (¬ x18 = 0 → ((((c + 500) + cp17) + 800) ≤ 600000 ∧ MetQ mq_L_begins [.ref v2, .ref v1, .ref v0, .int v3] h16 (rI (fun _ _ => False) (fun x20 h19 => Md h16 h19 → ((x20 = 0 → (isB (nI 0) ∧ Q (.inl (some (.int (nI 0)))) h19)) ∧ (¬ x20 = 0 → (((((c + 500) + cp17) + 800) + 150) ≤ 600000 ∧ MetQ mq_L_alike [.ref v2, .ref v1] h19 (rI (fun _ _ => False) (fun x22 h21 => Md h19 h21 → ((¬ x22 = 0 → Bt mq_L_law Q 44 ((((c + 500) + cp17) + 800) + 150) [some (.ref v0), some (.ref v1), some (.ref v2), some (.int (v3 + (nI 1)))] [] h21) ∧ (x22 = 0 → (isB (nI 0) ∧ Q (.inl (some (.int (nI 0)))) h21))))))))))))))))))))))))))) ∧ (gr h v1 23 = none → False))))) :
    Bt mq_L_law Q 44 c [some (.ref v0), some (.ref v1), some (.ref v2), some (.int v3)] [] h :=
  vgq_ok kq_L_law (stops := [(13, [3]), (24, [3]), (44, []), (106, [0, 3])]) 200 44 c _ _ h T
set_option maxRecDepth 100000 in
set_option maxHeartbeats 4000000 in
theorem sq_L_law_106 {v1 : Nat} {v2 : Nat} {c : Nat} {h : PH} {Q : Res → PH → Prop}
    (T : (qkd h v1 = 2 ∧ (∀ b11 : Nat, gr h v1 23 = some b11 → (rcvQ h b11 5 ∧ MetQ mq_Jx4a65c_isEmpty_aae02 [.ref b11] h (rI (fun _ _ => False) (fun x13 h12 => Lw h h12 → ((¬ x13 = 0 → (isB (nI 1) ∧ Q (.inl (some (.int (nI 1)))) h12)) ∧ (x13 = 0 → ((c + 300) ≤ 600000 ∧ MetQ mq_L_ends [.ref v2, .ref v1] h12 (rI (fun _ _ => False) (fun x15 h14 => Md h12 h14 → ((x15 = 0 → (isB (nI 0) ∧ Q (.inl (some (.int (nI 0)))) h14)) ∧ (¬ x15 = 0 → (isB (nI 1) ∧ Q (.inl (some (.int (nI 1)))) h14)))))))))))) ∧ (gr h v1 23 = none → False))) :
    Bt mq_L_law Q 106 c [none, some (.ref v1), some (.ref v2), none] [] h :=
  vgq_ok kq_L_law (stops := [(13, [3]), (24, [3]), (44, []), (106, [0, 3])]) 200 106 c _ _ h T
