/-! ===== what each method of the law, of the JDK does, 2 ===== -/
set_option maxRecDepth 100000 in
set_option maxHeartbeats 4000000 in
theorem tq_X13_hasPlan {a : Nat} {h : PH} {Q : Res → PH → Prop}
    (T : (qkd h a = 2 ∧ (((gi h a 8) ≤ 0 → (isB (nI 0) ∧ Q (.inl (some (.int (nI 0)))) h)) ∧ (¬ (gi h a 8) ≤ 0 → (qkd h a = 2 ∧ (((nI 4) ≤ (gi h a 8) → (isB (nI 0) ∧ Q (.inl (some (.int (nI 0)))) h)) ∧ (¬ (nI 4) ≤ (gi h a 8) → (isB (nI 1) ∧ Q (.inl (some (.int (nI 1)))) h)))))))) :
    MetQ mq_X13_hasPlan [.ref a] h Q :=
  met_ofQ oq_X13_hasPlan (Nat.le_of_ble_eq_true rfl) (vgq_ok kq_X13_hasPlan (stops := []) 61 0 0 _ [] h T)
set_option maxRecDepth 100000 in
set_option maxHeartbeats 4000000 in
theorem tq_X13_waveAt {a : Nat} {p0 : Int32} {h : PH} {Q : Res → PH → Prop}
    (T : (qkd h a = 2 ∧ (∀ b11 : Nat, gr h a 20 = some b11 → (qkd h a = 2 ∧ (∀ b12 : Nat, gr h a 23 = some b12 → (rcvQ h b12 5 ∧ MetQ mq_Jx4a65c_get_915e3 [.ref b12, .int p0] h (rR (fun b14 h13 => Lw h h13 → (qkd h13 b14 = 1 ∧ (qkd h13 b14 = 1 ∧ ((qkd h13 b11 = 16 ∨ qkd h13 b11 = 48) ∧ vp_in (gi h13 b14 0) (qln h13 b11) ∧ Q (.inl (some (.int (gi h13 b11 (gi h13 b14 0).toNatClampNeg)))) h13))))))) ∧ (gr h a 23 = none → False))) ∧ (gr h a 20 = none → (qkd h a = 2 ∧ (∀ b15 : Nat, gr h a 23 = some b15 → (rcvQ h b15 5 ∧ MetQ mq_Jx4a65c_get_915e3 [.ref b15, .int p0] h (rR (fun b17 h16 => Lw h h16 → (qkd h16 b17 = 1 ∧ (qkd h16 b17 = 1 ∧ False)))))) ∧ (gr h a 23 = none → False))))) :
    MetQ mq_X13_waveAt [.ref a, .int p0] h Q :=
  met_ofQ oq_X13_waveAt (Nat.le_of_ble_eq_true rfl) (vgq_ok kq_X13_waveAt (stops := []) 60 0 0 _ [] h T)
set_option maxRecDepth 100000 in
set_option maxHeartbeats 4000000 in
theorem tq_X13_isGoing {a : Nat} {h : PH} {Q : Res → PH → Prop}
    (T : (qkd h a = 2 ∧ (((gi h a 8) = (nI 1) → (isB (nI 1) ∧ Q (.inl (some (.int (nI 1)))) h)) ∧ (¬ (gi h a 8) = (nI 1) → (qkd h a = 2 ∧ ((¬ (gi h a 8) = (nI 2) → (isB (nI 0) ∧ Q (.inl (some (.int (nI 0)))) h)) ∧ ((gi h a 8) = (nI 2) → (isB (nI 1) ∧ Q (.inl (some (.int (nI 1)))) h)))))))) :
    MetQ mq_X13_isGoing [.ref a] h Q :=
  met_ofQ oq_X13_isGoing (Nat.le_of_ble_eq_true rfl) (vgq_ok kq_X13_isGoing (stops := []) 62 0 0 _ [] h T)
set_option maxRecDepth 100000 in
set_option maxHeartbeats 4000000 in
theorem tq_X12_isUp {a : Nat} {h : PH} {Q : Res → PH → Prop}
    (T : (qkd h a = 1 ∧ ((0 ≤ (gi h a 2) → (isB (nI 0) ∧ Q (.inl (some (.int (nI 0)))) h)) ∧ (¬ 0 ≤ (gi h a 2) → (isB (nI 1) ∧ Q (.inl (some (.int (nI 1)))) h))))) :
    MetQ mq_X12_isUp [.ref a] h Q :=
  met_ofQ oq_X12_isUp (Nat.le_of_ble_eq_true rfl) (vgq_ok kq_X12_isUp (stops := []) 57 0 0 _ [] h T)
set_option maxRecDepth 100000 in
set_option maxHeartbeats 4000000 in
theorem tq_X12_coming {a : Nat} {h : PH} {Q : Res → PH → Prop}
    (T : (rcvQ h a 1 ∧ MetQ mq_X12_isUp [.ref a] h (rI (fun _ _ => False) (fun x12 h11 => Lw h h11 → ((x12 = 0 → (qkd h11 a = 1 ∧ Q (.inl (some (.int (gi h11 a 2)))) h11)) ∧ (¬ x12 = 0 → (qkd h11 a = 1 ∧ Q (.inl (some (.int (gi h11 a 1)))) h11))))))) :
    MetQ mq_X12_coming [.ref a] h Q :=
  met_ofQ oq_X12_coming (Nat.le_of_ble_eq_true rfl) (vgq_ok kq_X12_coming (stops := []) 59 0 0 _ [] h T)
set_option maxRecDepth 100000 in
set_option maxHeartbeats 4000000 in
theorem tq_X13_note {a : Nat} {p0 : Int32} {p1 : Int32} {p2 : Int32} {h : PH} {Q : Res → PH → Prop}
    (T : (qkd h a = 2 ∧ (∀ b11 : Nat, gr h a 24 = some b11 → ((¬ (nI 4) < 0 ∧ (nI 4).toNatClampNeg ≤ 100000) ∧ (0 + (1 + (nI 4).toNatClampNeg / 12)) ≤ 152 ∧ ∀ q12 : Nat, 2000 ≤ q12 → qkd h q12 = 0 → (qkd (nw h q12 16 (nI 4).toNatClampNeg) a = 2 ∧ (qkd (nw h q12 16 (nI 4).toNatClampNeg) q12 = 16 ∧ vp_in (nI 0) (qln (nw h q12 16 (nI 4).toNatClampNeg) q12) ∧ (let h13 : PH := (si (nw h q12 16 (nI 4).toNatClampNeg) q12 (nI 0).toNatClampNeg (gi (nw h q12 16 (nI 4).toNatClampNeg) a 6)); (qkd h13 q12 = 16 ∧ vp_in (nI 1) (qln h13 q12) ∧ (qkd (si h13 q12 (nI 1).toNatClampNeg p0) q12 = 16 ∧ vp_in (nI 2) (qln (si h13 q12 (nI 1).toNatClampNeg p0) q12) ∧ (qkd (si (si h13 q12 (nI 1).toNatClampNeg p0) q12 (nI 2).toNatClampNeg p1) q12 = 16 ∧ vp_in (nI 3) (qln (si (si h13 q12 (nI 1).toNatClampNeg p0) q12 (nI 2).toNatClampNeg p1) q12) ∧ (let h14 : PH := (si (si (si h13 q12 (nI 1).toNatClampNeg p0) q12 (nI 2).toNatClampNeg p1) q12 (nI 3).toNatClampNeg p2); (rcvQ h14 b11 5 ∧ (((0 + (1 + (nI 4).toNatClampNeg / 12)) + 151) ≤ 152 ∧ MetQ mq_Jx4a65c_add_9ea2d [.ref b11, .ref q12] h14 (rI (fun _ _ => False) (fun x16 h15 => Lw h14 h15 → Q (.inl none) h15))))))))))))) ∧ (gr h a 24 = none → ((¬ (nI 4) < 0 ∧ (nI 4).toNatClampNeg ≤ 100000) ∧ (0 + (1 + (nI 4).toNatClampNeg / 12)) ≤ 152 ∧ ∀ q17 : Nat, 2000 ≤ q17 → qkd h q17 = 0 → (qkd (nw h q17 16 (nI 4).toNatClampNeg) a = 2 ∧ (qkd (nw h q17 16 (nI 4).toNatClampNeg) q17 = 16 ∧ vp_in (nI 0) (qln (nw h q17 16 (nI 4).toNatClampNeg) q17) ∧ (let h18 : PH := (si (nw h q17 16 (nI 4).toNatClampNeg) q17 (nI 0).toNatClampNeg (gi (nw h q17 16 (nI 4).toNatClampNeg) a 6)); (qkd h18 q17 = 16 ∧ vp_in (nI 1) (qln h18 q17) ∧ (qkd (si h18 q17 (nI 1).toNatClampNeg p0) q17 = 16 ∧ vp_in (nI 2) (qln (si h18 q17 (nI 1).toNatClampNeg p0) q17) ∧ (qkd (si (si h18 q17 (nI 1).toNatClampNeg p0) q17 (nI 2).toNatClampNeg p1) q17 = 16 ∧ vp_in (nI 3) (qln (si (si h18 q17 (nI 1).toNatClampNeg p0) q17 (nI 2).toNatClampNeg p1) q17) ∧ (let h19 : PH := (si (si (si h18 q17 (nI 1).toNatClampNeg p0) q17 (nI 2).toNatClampNeg p1) q17 (nI 3).toNatClampNeg p2); False))))))))))) :
    MetQ mq_X13_note [.ref a, .int p0, .int p1, .int p2] h Q :=
  met_ofQ oq_X13_note (Nat.le_of_ble_eq_true rfl) (vgq_ok kq_X13_note (stops := []) 74 0 0 _ [] h T)
set_option maxRecDepth 100000 in
set_option maxHeartbeats 4000000 in
theorem tq_X13_start {a : Nat} {p0 : Int32} {h : PH} {Q : Res → PH → Prop}
    (T : Bt mq_X13_start Q 8 0 [some (.ref a), some (.int p0), some (.int (nI 9)), some (.int (-(nI 1))), some (.int (nI 0))] [] h) :
    MetQ mq_X13_start [.ref a, .int p0] h Q :=
  met_ofQ oq_X13_start (Nat.le_of_ble_eq_true rfl) (vgq_ok kq_X13_start (stops := [(8, []), (98, []), (140, [2, 3, 4]), (155, [4])]) 148 0 0 _ [] h T)
set_option maxRecDepth 100000 in
set_option maxHeartbeats 4000000 in
theorem sq_X13_start_8 {v0 : Nat} {v1 : Int32} {v2 : Int32} {v3 : Int32} {v4 : Int32} {c : Nat} {h : PH} {Q : Res → PH → Prop}
    (T : (qkd h v0 = 2 ∧ (∀ b11 : Nat, gr h v0 23 = some b11 → (rcvQ h b11 5 ∧ MetQ mq_Jx4a65c_size_8abf5 [.ref b11] h (rI (fun _ _ => False) (fun x13 h12 => Lw h h12 → ((x13 ≤ v4 → (rcvQ h12 v0 2 ∧ ((c + 152) ≤ 310 ∧ MetQ mq_X13_note [.ref v0, .int (nI 2), .int (-(nI 1)), .int v1] h12 (rV (fun _ _ => False) (fun h14 => Lw h12 h14 → (qkd h14 v0 = 2 ∧ (qkd (si h14 v0 9 v1) v0 = 2 ∧ (qkd (si (si h14 v0 9 v1) v0 11 (nI 0)) v0 = 2 ∧ ((v3 < 0 → Bt mq_X13_start Q 140 (c + 152) [some (.ref v0), some (.int v1), none, none, none] [] (si (si (si h14 v0 9 v1) v0 11 (nI 0)) v0 8 (nI 1))) ∧ (¬ v3 < 0 → ((¬ v2 = v1 → Bt mq_X13_start Q 155 (c + 152) [some (.ref v0), some (.int v1), some (.int v2), some (.int v3), none] [] (si (si (si h14 v0 9 v1) v0 11 (nI 0)) v0 8 (nI 1))) ∧ (v2 = v1 → ((¬ v3 = v1 → Bt mq_X13_start Q 155 (c + 152) [some (.ref v0), some (.int v1), some (.int v2), some (.int v3), none] [] (si (si (si h14 v0 9 v1) v0 11 (nI 0)) v0 8 (nI 1))) ∧ (v3 = v1 → Bt mq_X13_start Q 140 (c + 152) [some (.ref v0), some (.int v1), none, none, none] [] (si (si (si h14 v0 9 v1) v0 11 (nI 0)) v0 8 (nI 1)))))))))))))))) ∧ (¬ x13 ≤ v4 → (rcvQ h12 v0 2 ∧ MetQ mq_X13_waveAt [.ref v0, .int v4] h12 (rI (fun _ _ => False) (fun x16 h15 => Lw h12 h15 → ((x16 < 0 → Bt mq_X13_start Q 98 c [some (.ref v0), some (.int v1), some (.int v2), some (.int v3), some (.int v4)] [] h15) ∧ (¬ x16 < 0 → (qkd h15 v0 = 2 ∧ (∀ b17 : Nat, gr h15 v0 23 = some b17 → (rcvQ h15 b17 5 ∧ MetQ mq_Jx4a65c_get_915e3 [.ref b17, .int v4] h15 (rR (fun b19 h18 => Lw h15 h18 → (qkd h18 b19 = 1 ∧ (qkd h18 b19 = 1 ∧ (((gi h18 b19 5) = 0 → (qkd h18 v0 = 2 ∧ (∀ b20 : Nat, gr h18 v0 23 = some b20 → (rcvQ h18 b20 5 ∧ MetQ mq_Jx4a65c_get_915e3 [.ref b20, .int v4] h18 (rR (fun b22 h21 => Lw h18 h21 → (qkd h21 b22 = 1 ∧ (rcvQ h21 b22 1 ∧ MetQ mq_X12_coming [.ref b22] h21 (rI (fun _ _ => False) (fun x24 h23 => Lw h21 h23 → (qkd h23 v0 = 2 ∧ (∀ b25 : Nat, gr h23 v0 23 = some b25 → (rcvQ h23 b25 5 ∧ MetQ mq_Jx4a65c_get_915e3 [.ref b25, .int v4] h23 (rR (fun b27 h26 => Lw h23 h26 → (qkd h26 b27 = 1 ∧ (rcvQ h26 b27 1 ∧ MetQ mq_X12_coming [.ref b27] h26 (rI (fun _ _ => False) (fun x29 h28 => Lw h26 h28 → Bt mq_X13_start Q 98 c [some (.ref v0), some (.int v1), some (.int (if x24 < v2 then x24 else v2)), some (.int (if v3 < x29 then x29 else v3)), some (.int v4)] [] h28)))))))) ∧ (gr h23 v0 23 = none → False)))))))))) ∧ (gr h18 v0 23 = none → False))) ∧ (¬ (gi h18 b19 5) = 0 → Bt mq_X13_start Q 98 c [some (.ref v0), some (.int v1), some (.int v2), some (.int v3), some (.int v4)] [] h18)))))))) ∧ (gr h15 v0 23 = none → False))))))))))))) ∧ (gr h v0 23 = none → False))) :
    Bt mq_X13_start Q 8 c [some (.ref v0), some (.int v1), some (.int v2), some (.int v3), some (.int v4)] [] h :=
  vgq_ok kq_X13_start (stops := [(8, []), (98, []), (140, [2, 3, 4]), (155, [4])]) 148 8 c _ _ h T
set_option maxRecDepth 100000 in
set_option maxHeartbeats 4000000 in
theorem sq_X13_start_98 {v0 : Nat} {v1 : Int32} {v2 : Int32} {v3 : Int32} {v4 : Int32} {c : Nat} {h : PH} {Q : Res → PH → Prop}
    (T : Bt mq_X13_start Q 8 c [some (.ref v0), some (.int v1), some (.int v2), some (.int v3), some (.int (v4 + (nI 1)))] [] h) :
    Bt mq_X13_start Q 98 c [some (.ref v0), some (.int v1), some (.int v2), some (.int v3), some (.int v4)] [] h :=
  vgq_ok kq_X13_start (stops := [(8, []), (98, []), (140, [2, 3, 4]), (155, [4])]) 148 98 c _ _ h T
set_option maxRecDepth 100000 in
set_option maxHeartbeats 4000000 in
theorem sq_X13_start_140 {v0 : Nat} {v1 : Int32} {c : Nat} {h : PH} {Q : Res → PH → Prop}
    (T : (qkd h v0 = 2 ∧ (rcvQ (si h v0 8 (nI 4)) v0 2 ∧ ((c + 152) ≤ 310 ∧ MetQ mq_X13_note [.ref v0, .int (nI 6), .int (-(nI 1)), .int v1] (si h v0 8 (nI 4)) (rV (fun _ _ => False) (fun h11 => Lw (si h v0 8 (nI 4)) h11 → Q (.inl (some (.int (-(nI 1))))) h11)))))) :
    Bt mq_X13_start Q 140 c [some (.ref v0), some (.int v1), none, none, none] [] h :=
  vgq_ok kq_X13_start (stops := [(8, []), (98, []), (140, [2, 3, 4]), (155, [4])]) 148 140 c _ _ h T
set_option maxRecDepth 100000 in
set_option maxHeartbeats 4000000 in
theorem sq_X13_start_155 {v0 : Nat} {v1 : Int32} {v2 : Int32} {v3 : Int32} {c : Nat} {h : PH} {Q : Res → PH → Prop}
    (T : ((v1 ≤ v2 → (qkd h v0 = 2 ∧ isB (nI 0) ∧ (qkd (si h v0 14 (nI 0)) v0 = 2 ∧ (((gi (si h v0 14 (nI 0)) v0 14) = 0 → (qkd (si h v0 14 (nI 0)) v0 = 2 ∧ (qkd (si (si h v0 14 (nI 0)) v0 10 (v3 - (nI 1))) v0 = 2 ∧ Q (.inl (some (.int (gi (si (si h v0 14 (nI 0)) v0 10 (v3 - (nI 1))) v0 10)))) (si (si h v0 14 (nI 0)) v0 10 (v3 - (nI 1)))))) ∧ (¬ (gi (si h v0 14 (nI 0)) v0 14) = 0 → (qkd (si h v0 14 (nI 0)) v0 = 2 ∧ (qkd (si (si h v0 14 (nI 0)) v0 10 (v2 + (nI 1))) v0 = 2 ∧ Q (.inl (some (.int (gi (si (si h v0 14 (nI 0)) v0 10 (v2 + (nI 1))) v0 10)))) (si (si h v0 14 (nI 0)) v0 10 (v2 + (nI 1)))))))))) ∧ (¬ v1 ≤ v2 → (qkd h v0 = 2 ∧ isB (nI 1) ∧ (qkd (si h v0 14 (nI 1)) v0 = 2 ∧ (((gi (si h v0 14 (nI 1)) v0 14) = 0 → (qkd (si h v0 14 (nI 1)) v0 = 2 ∧ (qkd (si (si h v0 14 (nI 1)) v0 10 (v3 - (nI 1))) v0 = 2 ∧ Q (.inl (some (.int (gi (si (si h v0 14 (nI 1)) v0 10 (v3 - (nI 1))) v0 10)))) (si (si h v0 14 (nI 1)) v0 10 (v3 - (nI 1)))))) ∧ (¬ (gi (si h v0 14 (nI 1)) v0 14) = 0 → (qkd (si h v0 14 (nI 1)) v0 = 2 ∧ (qkd (si (si h v0 14 (nI 1)) v0 10 (v2 + (nI 1))) v0 = 2 ∧ Q (.inl (some (.int (gi (si (si h v0 14 (nI 1)) v0 10 (v2 + (nI 1))) v0 10)))) (si (si h v0 14 (nI 1)) v0 10 (v2 + (nI 1)))))))))))) :
    Bt mq_X13_start Q 155 c [some (.ref v0), some (.int v1), some (.int v2), some (.int v3), none] [] h :=
  vgq_ok kq_X13_start (stops := [(8, []), (98, []), (140, [2, 3, 4]), (155, [4])]) 148 155 c _ _ h T
set_option maxRecDepth 100000 in
set_option maxHeartbeats 4000000 in
theorem tq_X13_stop {a : Nat} {h : PH} {Q : Res → PH → Prop}
    (T : (qkd h a = 2 ∧ (qkd h a = 2 ∧ (qkd (si h a 13 (gi h a 8)) a = 2 ∧ (qkd (si (si h a 13 (gi h a 8)) a 8 (nI 3)) a = 2 ∧ (rcvQ (si (si h a 13 (gi h a 8)) a 8 (nI 3)) a 2 ∧ (152 ≤ 152 ∧ MetQ mq_X13_note [.ref a, .int (nI 4), .int (-(nI 1)), .int (gi (si (si h a 13 (gi h a 8)) a 8 (nI 3)) a 11)] (si (si h a 13 (gi h a 8)) a 8 (nI 3)) (rV (fun _ _ => False) (fun h11 => Lw (si (si h a 13 (gi h a 8)) a 8 (nI 3)) h11 → Q (.inl none) h11))))))))) :
    MetQ mq_X13_stop [.ref a] h Q :=
  met_ofQ oq_X13_stop (Nat.le_of_ble_eq_true rfl) (vgq_ok kq_X13_stop (stops := []) 64 0 0 _ [] h T)
set_option maxRecDepth 100000 in
set_option maxHeartbeats 4000000 in
theorem tq_X13_go {a : Nat} {h : PH} {Q : Res → PH → Prop}
    (T : (qkd h a = 2 ∧ (qkd h a = 2 ∧ (qkd (si h a 8 (gi h a 13)) a = 2 ∧ (rcvQ (si h a 8 (gi h a 13)) a 2 ∧ (152 ≤ 152 ∧ MetQ mq_X13_note [.ref a, .int (nI 5), .int (-(nI 1)), .int (gi (si h a 8 (gi h a 13)) a 11)] (si h a 8 (gi h a 13)) (rV (fun _ _ => False) (fun h11 => Lw (si h a 8 (gi h a 13)) h11 → (qkd h11 a = 2 ∧ Q (.inl (some (.int (gi h11 a 11)))) h11))))))))) :
    MetQ mq_X13_go [.ref a] h Q :=
  met_ofQ oq_X13_go (Nat.le_of_ble_eq_true rfl) (vgq_ok kq_X13_go (stops := []) 63 0 0 _ [] h T)
set_option maxRecDepth 100000 in
set_option maxHeartbeats 4000000 in
theorem tq_X13_hold {a : Nat} {p0 : Int32} {p1 : Int32} {h : PH} {Q : Res → PH → Prop}
    (T : (qkd h a = 2 ∧ (∀ b11 : Nat, gr h a 23 = some b11 → (rcvQ h b11 5 ∧ MetQ mq_Jx4a65c_get_915e3 [.ref b11, .int p0] h (rR (fun b13 h12 => Lw h h12 → (qkd h12 b13 = 1 ∧ (qkd h12 b13 = 1 ∧ isB p1 ∧ ((p1 = 0 → (rcvQ (si h12 b13 5 p1) a 2 ∧ (152 ≤ 153 ∧ MetQ mq_X13_note [.ref a, .int (nI 8), .int p0, .int (nI 0)] (si h12 b13 5 p1) (rV (fun _ _ => False) (fun h14 => Lw (si h12 b13 5 p1) h14 → (qkd h14 a = 2 ∧ (∀ b15 : Nat, gr h14 a 23 = some b15 → (rcvQ h14 b15 5 ∧ (153 ≤ 153 ∧ MetQ mq_Jx4a65c_iterator_32c93 [.ref b15] h14 (rR (fun b17 h16 => Lw h14 h16 → Bt mq_X13_hold Q 46 153 [none, none, none, some (.int (nI 0)), some (.ref b17), none] [] h16))))) ∧ (gr h14 a 23 = none → False))))))) ∧ (¬ p1 = 0 → (rcvQ (si h12 b13 5 p1) a 2 ∧ (152 ≤ 153 ∧ MetQ mq_X13_note [.ref a, .int (nI 8), .int p0, .int (nI 1)] (si h12 b13 5 p1) (rV (fun _ _ => False) (fun h18 => Lw (si h12 b13 5 p1) h18 → (qkd h18 a = 2 ∧ (∀ b19 : Nat, gr h18 a 23 = some b19 → (rcvQ h18 b19 5 ∧ (153 ≤ 153 ∧ MetQ mq_Jx4a65c_iterator_32c93 [.ref b19] h18 (rR (fun b21 h20 => Lw h18 h20 → Bt mq_X13_hold Q 46 153 [none, none, none, some (.int (nI 0)), some (.ref b21), none] [] h20))))) ∧ (gr h18 a 23 = none → False)))))))))))))) ∧ (gr h a 23 = none → False))) :
    MetQ mq_X13_hold [.ref a, .int p0, .int p1] h Q :=
  met_ofQ oq_X13_hold (Nat.le_of_ble_eq_true rfl) (vgq_ok kq_X13_hold (stops := [(46, [0, 1, 2, 5])]) 91 0 0 _ [] h T)
set_option maxRecDepth 100000 in
set_option maxHeartbeats 4000000 in
theorem sq_X13_hold_46 {v3 : Int32} {v4 : Nat} {c : Nat} {h : PH} {Q : Res → PH → Prop}
    (T : (rcvQ h v4 6 ∧ MetQ mq_Jx35411_hasNext_aae02 [.ref v4] h (rI (fun _ _ => False) (fun x12 h11 => Lw h h11 → ((x12 = 0 → Q (.inl (some (.int v3))) h11) ∧ (¬ x12 = 0 → (rcvQ h11 v4 6 ∧ MetQ mq_Jx35411_next_0502b [.ref v4] h11 (rR (fun b14 h13 => Lw h11 h13 → (qkd h13 b14 = 1 ∧ (qkd h13 b14 = 1 ∧ (((gi h13 b14 5) = 0 → Bt mq_X13_hold Q 46 c [none, none, none, some (.int (v3 + (nI 0))), some (.ref v4), none] [] h13) ∧ (¬ (gi h13 b14 5) = 0 → Bt mq_X13_hold Q 46 c [none, none, none, some (.int (v3 + (nI 1))), some (.ref v4), none] [] h13))))))))))))) :
    Bt mq_X13_hold Q 46 c [none, none, none, some (.int v3), some (.ref v4), none] [] h :=
  vgq_ok kq_X13_hold (stops := [(46, [0, 1, 2, 5])]) 91 46 c _ _ h T
set_option maxRecDepth 100000 in
set_option maxHeartbeats 4000000 in
theorem tq_X13_reads {a : Nat} {p0 : Int32} {p1 : Int32} {h : PH} {Q : Res → PH → Prop}
    (T : (qkd h a = 2 ∧ (∀ b11 : Nat, gr h a 18 = some b11 → ((qkd h b11 = 16 ∨ qkd h b11 = 48) ∧ vp_in p0 (qln h b11) ∧ ((p1 < (gi h b11 p0.toNatClampNeg) → (isB (nI 0) ∧ Q (.inl (some (.int (nI 0)))) h)) ∧ (¬ p1 < (gi h b11 p0.toNatClampNeg) → (qkd h a = 2 ∧ (∀ b12 : Nat, gr h a 19 = some b12 → ((qkd h b12 = 16 ∨ qkd h b12 = 48) ∧ vp_in p0 (qln h b12) ∧ (((gi h b12 p0.toNatClampNeg) < p1 → (isB (nI 0) ∧ Q (.inl (some (.int (nI 0)))) h)) ∧ (¬ (gi h b12 p0.toNatClampNeg) < p1 → (isB (nI 1) ∧ Q (.inl (some (.int (nI 1)))) h))))) ∧ (gr h a 19 = none → False)))))) ∧ (gr h a 18 = none → False))) :
    MetQ mq_X13_reads [.ref a, .int p0, .int p1] h Q :=
  met_ofQ oq_X13_reads (Nat.le_of_ble_eq_true rfl) (vgq_ok kq_X13_reads (stops := []) 66 0 0 _ [] h T)
set_option maxRecDepth 100000 in
set_option maxHeartbeats 4000000 in
theorem tq_X13_downIn {a : Nat} {p0 : Int32} {h : PH} {Q : Res → PH → Prop}
    (T : (qkd h a = 2 ∧ (∀ b11 : Nat, gr h a 23 = some b11 → (rcvQ h b11 5 ∧ (1 ≤ 1 ∧ MetQ mq_Jx4a65c_iterator_32c93 [.ref b11] h (rR (fun b13 h12 => Lw h h12 → Bt mq_X13_downIn Q 12 1 [none, some (.int p0), some (.int (nI 0)), some (.ref b13), none] [] h12))))) ∧ (gr h a 23 = none → False))) :
    MetQ mq_X13_downIn [.ref a, .int p0] h Q :=
  met_ofQ oq_X13_downIn (Nat.le_of_ble_eq_true rfl) (vgq_ok kq_X13_downIn (stops := [(12, [0, 4])]) 79 0 0 _ [] h T)
set_option maxRecDepth 100000 in
set_option maxHeartbeats 4000000 in
theorem sq_X13_downIn_12 {v1 : Int32} {v2 : Int32} {v3 : Nat} {c : Nat} {h : PH} {Q : Res → PH → Prop}
    (T : (rcvQ h v3 6 ∧ MetQ mq_Jx35411_hasNext_aae02 [.ref v3] h (rI (fun _ _ => False) (fun x12 h11 => Lw h h11 → ((x12 = 0 → Q (.inl (some (.int v2))) h11) ∧ (¬ x12 = 0 → (rcvQ h11 v3 6 ∧ MetQ mq_Jx35411_next_0502b [.ref v3] h11 (rR (fun b14 h13 => Lw h11 h13 → (qkd h13 b14 = 1 ∧ (qkd h13 b14 = 1 ∧ ((¬ (gi h13 b14 0) = v1 → Bt mq_X13_downIn Q 12 c [none, some (.int v1), some (.int (v2 + (nI 0))), some (.ref v3), none] [] h13) ∧ ((gi h13 b14 0) = v1 → (rcvQ h13 b14 1 ∧ MetQ mq_X12_isUp [.ref b14] h13 (rI (fun _ _ => False) (fun x16 h15 => Lw h13 h15 → ((¬ x16 = 0 → Bt mq_X13_downIn Q 12 c [none, some (.int v1), some (.int (v2 + (nI 0))), some (.ref v3), none] [] h15) ∧ (x16 = 0 → Bt mq_X13_downIn Q 12 c [none, some (.int v1), some (.int (v2 + (nI 1))), some (.ref v3), none] [] h15)))))))))))))))))) :
    Bt mq_X13_downIn Q 12 c [none, some (.int v1), some (.int v2), some (.ref v3), none] [] h :=
  vgq_ok kq_X13_downIn (stops := [(12, [0, 4])]) 79 12 c _ _ h T
set_option maxRecDepth 100000 in
set_option maxHeartbeats 4000000 in
theorem tq_X13_partners {a : Nat} {p0 : Int32} {p1 : Int32} {h : PH} {Q : Res → PH → Prop}
    (T : ((p0 = p1 → (isB (nI 0) ∧ Q (.inl (some (.int (nI 0)))) h)) ∧ (¬ p0 = p1 → (qkd h a = 2 ∧ (∀ b11 : Nat, gr h a 23 = some b11 → (rcvQ h b11 5 ∧ MetQ mq_Jx4a65c_get_915e3 [.ref b11, .int p0] h (rR (fun b13 h12 => Lw h h12 → (qkd h12 b13 = 1 ∧ (qkd h12 b13 = 1 ∧ (qkd h12 a = 2 ∧ (∀ b14 : Nat, gr h12 a 23 = some b14 → (rcvQ h12 b14 5 ∧ MetQ mq_Jx4a65c_get_915e3 [.ref b14, .int p1] h12 (rR (fun b16 h15 => Lw h12 h15 → (qkd h15 b16 = 1 ∧ (qkd h15 b16 = 1 ∧ (((gi h12 b13 0) = (gi h15 b16 0) → (isB (nI 1) ∧ Q (.inl (some (.int (nI 1)))) h15)) ∧ (¬ (gi h12 b13 0) = (gi h15 b16 0) → (qkd h15 a = 2 ∧ (∀ b17 : Nat, gr h15 a 22 = some b17 → (qkd h15 b17 = 24 ∧ vp_in p0 (qln h15 b17) ∧ (∀ b18 : Nat, gr h15 b17 p0.toNatClampNeg = some b18 → (qkd h15 b18 = 22 ∧ vp_in p1 (qln h15 b18) ∧ (((gi h15 b18 p1.toNatClampNeg) = 0 → (isB (nI 0) ∧ Q (.inl (some (.int (nI 0)))) h15)) ∧ (¬ (gi h15 b18 p1.toNatClampNeg) = 0 → (isB (nI 1) ∧ Q (.inl (some (.int (nI 1)))) h15))))) ∧ (gr h15 b17 p0.toNatClampNeg = none → False))) ∧ (gr h15 a 22 = none → False)))))))))) ∧ (gr h12 a 23 = none → False)))))))) ∧ (gr h a 23 = none → False))))) :
    MetQ mq_X13_partners [.ref a, .int p0, .int p1] h Q :=
  met_ofQ oq_X13_partners (Nat.le_of_ble_eq_true rfl) (vgq_ok kq_X13_partners (stops := []) 77 0 0 _ [] h T)
set_option maxRecDepth 100000 in
set_option maxHeartbeats 4000000 in
theorem tq_X13_talk_ {a : Nat} {p0 : Int32} {p1 : Int32} {h : PH} {Q : Res → PH → Prop}
    (T : ((p0 = p1 → (isB (nI 1) ∧ Q (.inl (some (.int (nI 1)))) h)) ∧ (¬ p0 = p1 → (qkd h a = 2 ∧ (∀ b11 : Nat, gr h a 21 = some b11 → (qkd h b11 = 24 ∧ vp_in p0 (qln h b11) ∧ (∀ b12 : Nat, gr h b11 p0.toNatClampNeg = some b12 → (qkd h b12 = 22 ∧ vp_in p1 (qln h b12) ∧ (((gi h b12 p1.toNatClampNeg) = 0 → (isB (nI 0) ∧ Q (.inl (some (.int (nI 0)))) h)) ∧ (¬ (gi h b12 p1.toNatClampNeg) = 0 → (isB (nI 1) ∧ Q (.inl (some (.int (nI 1)))) h))))) ∧ (gr h b11 p0.toNatClampNeg = none → False))) ∧ (gr h a 21 = none → False))))) :
    MetQ mq_X13_talk_ [.ref a, .int p0, .int p1] h Q :=
  met_ofQ oq_X13_talk_ (Nat.le_of_ble_eq_true rfl) (vgq_ok kq_X13_talk_ (stops := []) 64 0 0 _ [] h T)
set_option maxRecDepth 100000 in
set_option maxHeartbeats 4000000 in
theorem tq_X13_why {a : Nat} {p0 : Int32} {p1 : Int32} {h : PH} {Q : Res → PH → Prop}
    (T : (qkd h a = 2 ∧ (∀ b11 : Nat, gr h a 23 = some b11 → (rcvQ h b11 5 ∧ MetQ mq_Jx4a65c_get_915e3 [.ref b11, .int p0] h (rR (fun b13 h12 => Lw h h12 → (qkd h12 b13 = 1 ∧ (qkd h12 b13 = 1 ∧ (((gi h12 b13 5) = 0 → (rcvQ h12 b13 1 ∧ MetQ mq_X12_isUp [.ref b13] h12 (rI (fun _ _ => False) (fun x15 h14 => Lw h12 h14 → ((¬ x15 = 0 → (qkd h14 b13 = 1 ∧ ((¬ (gi h14 b13 1) = p1 → (qkd h14 a = 2 ∧ (rcvQ h14 a 2 ∧ MetQ mq_X13_reads [.ref a, .int p1, .int (gi h14 a 0)] h14 (rI (fun _ _ => False) (fun x17 h16 => Lw h14 h16 → ((¬ x17 = 0 → (qkd h16 b13 = 1 ∧ (rcvQ h16 a 2 ∧ (1 ≤ 1 ∧ MetQ mq_X13_downIn [.ref a, .int (gi h16 b13 0)] h16 (rI (fun _ _ => False) (fun x19 h18 => Lw h16 h18 → (qkd h18 a = 2 ∧ ((x19 < (gi h18 a 2) → Bt mq_X13_why Q 76 1 [some (.ref a), some (.int p0), some (.int p1), none, some (.int (nI 0))] [] h18) ∧ (¬ x19 < (gi h18 a 2) → Q (.inl (some (.int (nI 5)))) h18))))))))) ∧ (x17 = 0 → Q (.inl (some (.int (nI 4)))) h16))))))) ∧ ((gi h14 b13 1) = p1 → Q (.inl (some (.int (nI 3)))) h14)))) ∧ (x15 = 0 → Q (.inl (some (.int (nI 2)))) h14)))))) ∧ (¬ (gi h12 b13 5) = 0 → Q (.inl (some (.int (nI 1)))) h12)))))))) ∧ (gr h a 23 = none → False))) :
    MetQ mq_X13_why [.ref a, .int p0, .int p1] h Q :=
  met_ofQ oq_X13_why (Nat.le_of_ble_eq_true rfl) (vgq_ok kq_X13_why (stops := [(76, [3]), (137, [3])]) 143 0 0 _ [] h T)
set_option maxRecDepth 100000 in
set_option maxHeartbeats 4000000 in
theorem sq_X13_why_76 {v0 : Nat} {v1 : Int32} {v2 : Int32} {v4 : Int32} {c : Nat} {h : PH} {Q : Res → PH → Prop}
    (T : (qkd h v0 = 2 ∧ (∀ b11 : Nat, gr h v0 23 = some b11 → (rcvQ h b11 5 ∧ MetQ mq_Jx4a65c_size_8abf5 [.ref b11] h (rI (fun _ _ => False) (fun x13 h12 => Lw h h12 → ((x13 ≤ v4 → Bt mq_X13_why Q 137 c [some (.ref v0), some (.int v1), some (.int v2), none, some (.int (nI 0))] [] h12) ∧ (¬ x13 ≤ v4 → ((v4 = v1 → Bt mq_X13_why Q 76 c [some (.ref v0), some (.int v1), some (.int v2), none, some (.int (v4 + (nI 1)))] [] h12) ∧ (¬ v4 = v1 → (qkd h12 v0 = 2 ∧ (∀ b14 : Nat, gr h12 v0 23 = some b14 → (rcvQ h12 b14 5 ∧ MetQ mq_Jx4a65c_get_915e3 [.ref b14, .int v4] h12 (rR (fun b16 h15 => Lw h12 h15 → (qkd h15 b16 = 1 ∧ (rcvQ h15 b16 1 ∧ MetQ mq_X12_coming [.ref b16] h15 (rI (fun _ _ => False) (fun x18 h17 => Lw h15 h17 → (qkd h17 v0 = 2 ∧ (((if 0 ≤ (x18 - v2) then (x18 - v2) else 0 - (x18 - v2)) ≤ (gi h17 v0 1) → Bt mq_X13_why Q 76 c [some (.ref v0), some (.int v1), some (.int v2), none, some (.int (v4 + (nI 1)))] [] h17) ∧ (¬ (if 0 ≤ (x18 - v2) then (x18 - v2) else 0 - (x18 - v2)) ≤ (gi h17 v0 1) → Q (.inl (some (.int (nI 6)))) h17))))))))))) ∧ (gr h12 v0 23 = none → False)))))))))) ∧ (gr h v0 23 = none → False))) :
    Bt mq_X13_why Q 76 c [some (.ref v0), some (.int v1), some (.int v2), none, some (.int v4)] [] h :=
  vgq_ok kq_X13_why (stops := [(76, [3]), (137, [3])]) 143 76 c _ _ h T
set_option maxRecDepth 100000 in
set_option maxHeartbeats 4000000 in
theorem sq_X13_why_137 {v0 : Nat} {v1 : Int32} {v2 : Int32} {v4 : Int32} {c : Nat} {h : PH} {Q : Res → PH → Prop}
    (T : (qkd h v0 = 2 ∧ (∀ b11 : Nat, gr h v0 23 = some b11 → (rcvQ h b11 5 ∧ MetQ mq_Jx4a65c_size_8abf5 [.ref b11] h (rI (fun _ _ => False) (fun x13 h12 => Lw h h12 → ((x13 ≤ v4 → Q (.inl (some (.int (nI 0)))) h12) ∧ (¬ x13 ≤ v4 → (rcvQ h12 v0 2 ∧ MetQ mq_X13_partners [.ref v0, .int v1, .int v4] h12 (rI (fun _ _ => False) (fun x15 h14 => Lw h12 h14 → ((x15 = 0 → Bt mq_X13_why Q 137 c [some (.ref v0), some (.int v1), some (.int v2), none, some (.int (v4 + (nI 1)))] [] h14) ∧ (¬ x15 = 0 → (qkd h14 v0 = 2 ∧ (∀ b16 : Nat, gr h14 v0 23 = some b16 → (rcvQ h14 b16 5 ∧ MetQ mq_Jx4a65c_get_915e3 [.ref b16, .int v4] h14 (rR (fun b18 h17 => Lw h14 h17 → (qkd h17 b18 = 1 ∧ (rcvQ h17 b18 1 ∧ MetQ mq_X12_coming [.ref b18] h17 (rI (fun _ _ => False) (fun x20 h19 => Lw h17 h19 → (rcvQ h19 v0 2 ∧ MetQ mq_X13_talk_ [.ref v0, .int v2, .int x20] h19 (rI (fun _ _ => False) (fun x22 h21 => Lw h19 h21 → ((¬ x22 = 0 → Bt mq_X13_why Q 137 c [some (.ref v0), some (.int v1), some (.int v2), none, some (.int (v4 + (nI 1)))] [] h21) ∧ (x22 = 0 → Q (.inl (some (.int (nI 7)))) h21))))))))))))) ∧ (gr h14 v0 23 = none → False))))))))))))) ∧ (gr h v0 23 = none → False))) :
    Bt mq_X13_why Q 137 c [some (.ref v0), some (.int v1), some (.int v2), none, some (.int v4)] [] h :=
  vgq_ok kq_X13_why (stops := [(76, [3]), (137, [3])]) 143 137 c _ _ h T
set_option maxRecDepth 100000 in
set_option maxHeartbeats 4000000 in
theorem tq_X13_begin {a : Nat} {p0 : Int32} {p1 : Int32} {h : PH} {Q : Res → PH → Prop}
    (T : (qkd h a = 2 ∧ (∀ b11 : Nat, gr h a 23 = some b11 → (rcvQ h b11 5 ∧ MetQ mq_Jx4a65c_get_915e3 [.ref b11, .int p0] h (rR (fun b13 h12 => Lw h h12 → (qkd h12 b13 = 1 ∧ (qkd h12 b13 = 1 ∧ (qkd (si h12 b13 2 p1) a = 2 ∧ (∀ b14 : Nat, gr (si h12 b13 2 p1) a 23 = some b14 → (rcvQ (si h12 b13 2 p1) b14 5 ∧ MetQ mq_Jx4a65c_get_915e3 [.ref b14, .int p0] (si h12 b13 2 p1) (rR (fun b16 h15 => Lw (si h12 b13 2 p1) h15 → (qkd h15 b16 = 1 ∧ (qkd h15 a = 2 ∧ (qkd h15 a = 2 ∧ (qkd h15 b16 = 1 ∧ (rcvQ (si h15 b16 3 ((gi h15 a 6) + (gi h15 a 3))) a 2 ∧ (152 ≤ 152 ∧ MetQ mq_X13_note [.ref a, .int (nI 0), .int p0, .int p1] (si h15 b16 3 ((gi h15 a 6) + (gi h15 a 3))) (rV (fun _ _ => False) (fun h17 => Lw (si h15 b16 3 ((gi h15 a 6) + (gi h15 a 3))) h17 → Q (.inl none) h17)))))))))))) ∧ (gr (si h12 b13 2 p1) a 23 = none → False)))))))) ∧ (gr h a 23 = none → False))) :
    MetQ mq_X13_begin [.ref a, .int p0, .int p1] h Q :=
  met_ofQ oq_X13_begin (Nat.le_of_ble_eq_true rfl) (vgq_ok kq_X13_begin (stops := []) 74 0 0 _ [] h T)
set_option maxRecDepth 100000 in
set_option maxHeartbeats 4000000 in
theorem tq_X13_whyCommit {a : Nat} {p0 : Int32} {h : PH} {Q : Res → PH → Prop}
    (T : (qkd h a = 2 ∧ (((gi h a 0) < p0 → (qkd h a = 2 ∧ (∀ b11 : Nat, gr h a 23 = some b11 → (rcvQ h b11 5 ∧ (1 ≤ 1 ∧ MetQ mq_Jx4a65c_iterator_32c93 [.ref b11] h (rR (fun b13 h12 => Lw h h12 → Bt mq_X13_whyCommit Q 20 1 [some (.ref a), some (.int p0), some (.ref b13), none] [] h12))))) ∧ (gr h a 23 = none → False))) ∧ (¬ (gi h a 0) < p0 → Q (.inl (some (.int (nI 1)))) h)))) :
    MetQ mq_X13_whyCommit [.ref a, .int p0] h Q :=
  met_ofQ oq_X13_whyCommit (Nat.le_of_ble_eq_true rfl) (vgq_ok kq_X13_whyCommit (stops := [(20, [3])]) 78 0 0 _ [] h T)
set_option maxRecDepth 100000 in
set_option maxHeartbeats 4000000 in
theorem sq_X13_whyCommit_20 {v0 : Nat} {v1 : Int32} {v2 : Nat} {c : Nat} {h : PH} {Q : Res → PH → Prop}
    (T : (rcvQ h v2 6 ∧ MetQ mq_Jx35411_hasNext_aae02 [.ref v2] h (rI (fun _ _ => False) (fun x12 h11 => Lw h h11 → ((x12 = 0 → Q (.inl (some (.int (nI 0)))) h11) ∧ (¬ x12 = 0 → (rcvQ h11 v2 6 ∧ MetQ mq_Jx35411_next_0502b [.ref v2] h11 (rR (fun b14 h13 => Lw h11 h13 → (qkd h13 b14 = 1 ∧ (rcvQ h13 b14 1 ∧ MetQ mq_X12_coming [.ref b14] h13 (rI (fun _ _ => False) (fun x16 h15 => Lw h13 h15 → (rcvQ h15 v0 2 ∧ MetQ mq_X13_reads [.ref v0, .int x16, .int v1] h15 (rI (fun _ _ => False) (fun x18 h17 => Lw h15 h17 → ((¬ x18 = 0 → Bt mq_X13_whyCommit Q 20 c [some (.ref v0), some (.int v1), some (.ref v2), none] [] h17) ∧ (x18 = 0 → Q (.inl (some (.int (nI 2)))) h17)))))))))))))))))) :
    Bt mq_X13_whyCommit Q 20 c [some (.ref v0), some (.int v1), some (.ref v2), none] [] h :=
  vgq_ok kq_X13_whyCommit (stops := [(20, [3])]) 78 20 c _ _ h T
set_option maxRecDepth 100000 in
set_option maxHeartbeats 4000000 in
theorem tq_X13_commit {a : Nat} {p0 : Int32} {h : PH} {Q : Res → PH → Prop}
    (T : (qkd h a = 2 ∧ (qkd h a = 2 ∧ (rcvQ (si h a 0 p0) a 2 ∧ (152 ≤ 152 ∧ MetQ mq_X13_note [.ref a, .int (nI 7), .int (-(nI 1)), .int p0] (si h a 0 p0) (rV (fun _ _ => False) (fun h11 => Lw (si h a 0 p0) h11 → Q (.inl (some (.int (gi h a 0)))) h11))))))) :
    MetQ mq_X13_commit [.ref a, .int p0] h Q :=
  met_ofQ oq_X13_commit (Nat.le_of_ble_eq_true rfl) (vgq_ok kq_X13_commit (stops := []) 63 0 0 _ [] h T)
set_option maxRecDepth 100000 in
set_option maxHeartbeats 4000000 in
theorem tq_X13_isReady {a : Nat} {p0 : Int32} {h : PH} {Q : Res → PH → Prop}
    (T : (qkd h a = 2 ∧ (∀ b11 : Nat, gr h a 23 = some b11 → (rcvQ h b11 5 ∧ MetQ mq_Jx4a65c_get_915e3 [.ref b11, .int p0] h (rR (fun b13 h12 => Lw h h12 → (qkd h12 b13 = 1 ∧ (rcvQ h12 b13 1 ∧ MetQ mq_X12_isUp [.ref b13] h12 (rI (fun _ _ => False) (fun x15 h14 => Lw h12 h14 → ((x15 = 0 → (isB (nI 0) ∧ Q (.inl (some (.int (nI 0)))) h14)) ∧ (¬ x15 = 0 → (qkd h14 a = 2 ∧ (((gi h14 a 14) = 0 → (qkd h14 b13 = 1 ∧ (qkd h14 a = 2 ∧ (((gi h14 a 10) < (gi h14 b13 1) → (isB (nI 0) ∧ Q (.inl (some (.int (nI 0)))) h14)) ∧ (¬ (gi h14 a 10) < (gi h14 b13 1) → (isB (nI 1) ∧ Q (.inl (some (.int (nI 1)))) h14)))))) ∧ (¬ (gi h14 a 14) = 0 → (qkd h14 b13 = 1 ∧ (qkd h14 a = 2 ∧ (((gi h14 b13 1) < (gi h14 a 10) → (isB (nI 0) ∧ Q (.inl (some (.int (nI 0)))) h14)) ∧ (¬ (gi h14 b13 1) < (gi h14 a 10) → (isB (nI 1) ∧ Q (.inl (some (.int (nI 1)))) h14)))))))))))))))))) ∧ (gr h a 23 = none → False))) :
    MetQ mq_X13_isReady [.ref a, .int p0] h Q :=
  met_ofQ oq_X13_isReady (Nat.le_of_ble_eq_true rfl) (vgq_ok kq_X13_isReady (stops := []) 77 0 0 _ [] h T)
set_option maxRecDepth 100000 in
set_option maxHeartbeats 4000000 in
theorem tq_X13_measures {a : Nat} {h : PH} {Q : Res → PH → Prop}
    (T : ((¬ (nI 2) < 0 ∧ (nI 2).toNatClampNeg ≤ 100000) ∧ (0 + (1 + (nI 2).toNatClampNeg / 12)) ≤ 2 ∧ ∀ q11 : Nat, 2000 ≤ q11 → qkd h q11 = 0 → Bt mq_X13_measures Q 6 (0 + (1 + (nI 2).toNatClampNeg / 12)) [some (.ref a), some (.ref q11), some (.int (nI 0))] [] (nw h q11 16 (nI 2).toNatClampNeg))) :
    MetQ mq_X13_measures [.ref a] h Q :=
  met_ofQ oq_X13_measures (Nat.le_of_ble_eq_true rfl) (vgq_ok kq_X13_measures (stops := [(6, [])]) 95 0 0 _ [] h T)
set_option maxRecDepth 100000 in
set_option maxHeartbeats 4000000 in
theorem sq_X13_measures_6 {v0 : Nat} {v1 : Nat} {v2 : Int32} {c : Nat} {h : PH} {Q : Res → PH → Prop}
    (T : (qkd h v0 = 2 ∧ (∀ b11 : Nat, gr h v0 23 = some b11 → (rcvQ h b11 5 ∧ MetQ mq_Jx4a65c_size_8abf5 [.ref b11] h (rI (fun _ _ => False) (fun x13 h12 => Lw h h12 → ((x13 ≤ v2 → Q (.inl (some (.ref v1))) h12) ∧ (¬ x13 ≤ v2 → (rcvQ h12 v0 2 ∧ MetQ mq_X13_hasPlan [.ref v0] h12 (rI (fun _ _ => False) (fun x15 h14 => Lw h12 h14 → ((x15 = 0 → Bt mq_X13_measures Q 6 c [some (.ref v0), some (.ref v1), some (.int (v2 + (nI 1)))] [] h14) ∧ (¬ x15 = 0 → (rcvQ h14 v0 2 ∧ MetQ mq_X13_waveAt [.ref v0, .int v2] h14 (rI (fun _ _ => False) (fun x17 h16 => Lw h14 h16 → ((x17 < 0 → Bt mq_X13_measures Q 6 c [some (.ref v0), some (.ref v1), some (.int (v2 + (nI 1)))] [] h16) ∧ (¬ x17 < 0 → (rcvQ h16 v0 2 ∧ MetQ mq_X13_isReady [.ref v0, .int v2] h16 (rI (fun _ _ => False) (fun x19 h18 => Lw h16 h18 → ((¬ x19 = 0 → ((qkd h18 v1 = 16 ∨ qkd h18 v1 = 48) ∧ vp_in (nI 0) (qln h18 v1) ∧ (qkd h18 v1 = 16 ∧ vp_in (nI 0) (qln h18 v1) ∧ ((qkd (si h18 v1 (nI 0).toNatClampNeg ((gi h18 v1 (nI 0).toNatClampNeg) + (nI 1))) v1 = 16 ∨ qkd (si h18 v1 (nI 0).toNatClampNeg ((gi h18 v1 (nI 0).toNatClampNeg) + (nI 1))) v1 = 48) ∧ vp_in (nI 1) (qln (si h18 v1 (nI 0).toNatClampNeg ((gi h18 v1 (nI 0).toNatClampNeg) + (nI 1))) v1) ∧ (let y20 : Int32 := (gi (si h18 v1 (nI 0).toNatClampNeg ((gi h18 v1 (nI 0).toNatClampNeg) + (nI 1))) v1 (nI 1).toNatClampNeg); (qkd (si h18 v1 (nI 0).toNatClampNeg ((gi h18 v1 (nI 0).toNatClampNeg) + (nI 1))) v0 = 2 ∧ (∀ b21 : Nat, gr (si h18 v1 (nI 0).toNatClampNeg ((gi h18 v1 (nI 0).toNatClampNeg) + (nI 1))) v0 23 = some b21 → (rcvQ (si h18 v1 (nI 0).toNatClampNeg ((gi h18 v1 (nI 0).toNatClampNeg) + (nI 1))) b21 5 ∧ MetQ mq_Jx4a65c_get_915e3 [.ref b21, .int v2] (si h18 v1 (nI 0).toNatClampNeg ((gi h18 v1 (nI 0).toNatClampNeg) + (nI 1))) (rR (fun b23 h22 => Lw (si h18 v1 (nI 0).toNatClampNeg ((gi h18 v1 (nI 0).toNatClampNeg) + (nI 1))) h22 → (qkd h22 b23 = 1 ∧ (qkd h22 b23 = 1 ∧ (qkd h22 v1 = 16 ∧ vp_in (nI 1) (qln h22 v1) ∧ Bt mq_X13_measures Q 6 c [some (.ref v0), some (.ref v1), some (.int (v2 + (nI 1)))] [] (si h22 v1 (nI 1).toNatClampNeg (y20 + (gi h22 b23 4)))))))))) ∧ (gr (si h18 v1 (nI 0).toNatClampNeg ((gi h18 v1 (nI 0).toNatClampNeg) + (nI 1))) v0 23 = none → False))))))) ∧ (x19 = 0 → Bt mq_X13_measures Q 6 c [some (.ref v0), some (.ref v1), some (.int (v2 + (nI 1)))] [] h18))))))))))))))))))))) ∧ (gr h v0 23 = none → False))) :
    Bt mq_X13_measures Q 6 c [some (.ref v0), some (.ref v1), some (.int v2)] [] h :=
  vgq_ok kq_X13_measures (stops := [(6, [])]) 95 6 c _ _ h T
set_option maxRecDepth 100000 in
set_option maxHeartbeats 4000000 in
theorem tq_X13_minute {a : Nat} {h : PH} {Q : Res → PH → Prop}
    (T : (qkd h a = 2 ∧ (qkd h a = 2 ∧ Bt mq_X13_minute Q 12 0 [some (.ref a), some (.int (nI 0)), none, none] [] (si h a 6 ((gi h a 6) + (nI 1)))))) :
    MetQ mq_X13_minute [.ref a] h Q :=
  met_ofQ oq_X13_minute (Nat.le_of_ble_eq_true rfl) (vgq_ok kq_X13_minute (stops := [(12, [2, 3]), (93, [2, 3]), (129, [1, 2, 3]), (227, [1, 2, 3]), (240, [1]), (294, [1]), (302, [1]), (358, [1, 2]), (362, [1, 2])]) 257 0 0 _ [] h T)
set_option maxRecDepth 100000 in
set_option maxHeartbeats 4000000 in
theorem sq_X13_minute_12 {v0 : Nat} {v1 : Int32} {c : Nat} {h : PH} {Q : Res → PH → Prop}
    (T : (qkd h v0 = 2 ∧ (∀ b11 : Nat, gr h v0 23 = some b11 → (rcvQ h b11 5 ∧ MetQ mq_Jx4a65c_size_8abf5 [.ref b11] h (rI (fun _ _ => False) (fun x13 h12 => Lw h h12 → ((x13 ≤ v1 → (rcvQ h12 v0 2 ∧ ((c + 2) ≤ 2400 ∧ MetQ mq_X13_measures [.ref v0] h12 (rR (fun b15 h14 => Lw h12 h14 → (rcvQ h14 v0 2 ∧ MetQ mq_X13_isGoing [.ref v0] h14 (rI (fun _ _ => False) (fun x17 h16 => Lw h14 h16 → ((x17 = 0 → Bt mq_X13_minute Q 129 (c + 2) [some (.ref v0), none, none, none] [] h16) ∧ (¬ x17 = 0 → ((qkd h16 b15 = 16 ∨ qkd h16 b15 = 48) ∧ vp_in (nI 1) (qln h16 b15) ∧ (qkd h16 v0 = 2 ∧ ((qkd h16 b15 = 16 ∨ qkd h16 b15 = 48) ∧ vp_in (nI 0) (qln h16 b15) ∧ (((gi h16 b15 (nI 1).toNatClampNeg) ≤ ((gi h16 v0 5) * (gi h16 b15 (nI 0).toNatClampNeg)) → Bt mq_X13_minute Q 129 (c + 2) [some (.ref v0), none, none, none] [] h16) ∧ (¬ (gi h16 b15 (nI 1).toNatClampNeg) ≤ ((gi h16 v0 5) * (gi h16 b15 (nI 0).toNatClampNeg)) → (rcvQ h16 v0 2 ∧ (((c + 2) + 152) ≤ 2400 ∧ MetQ mq_X13_stop [.ref v0] h16 (rV (fun _ _ => False) (fun h18 => Lw h16 h18 → Bt mq_X13_minute Q 129 ((c + 2) + 152) [some (.ref v0), none, none, none] [] h18))))))))))))))))))) ∧ (¬ x13 ≤ v1 → (qkd h12 v0 = 2 ∧ (∀ b19 : Nat, gr h12 v0 23 = some b19 → (rcvQ h12 b19 5 ∧ MetQ mq_Jx4a65c_get_915e3 [.ref b19, .int v1] h12 (rR (fun b21 h20 => Lw h12 h20 → (qkd h20 b21 = 1 ∧ (rcvQ h20 b21 1 ∧ MetQ mq_X12_isUp [.ref b21] h20 (rI (fun _ _ => False) (fun x23 h22 => Lw h20 h22 → ((¬ x23 = 0 → Bt mq_X13_minute Q 93 c [some (.ref v0), some (.int v1), none, none] [] h22) ∧ (x23 = 0 → (qkd h22 b21 = 1 ∧ (qkd h22 v0 = 2 ∧ (((gi h22 b21 3) = (gi h22 v0 6) → (qkd h22 b21 = 1 ∧ (qkd h22 b21 = 1 ∧ (qkd (si h22 b21 1 (gi h22 b21 2)) b21 = 1 ∧ (qkd (si (si h22 b21 1 (gi h22 b21 2)) b21 2 (-(nI 1))) b21 = 1 ∧ (qkd (si (si (si h22 b21 1 (gi h22 b21 2)) b21 2 (-(nI 1))) b21 3 (-(nI 1))) b21 = 1 ∧ (qkd (si (si (si (si h22 b21 1 (gi h22 b21 2)) b21 2 (-(nI 1))) b21 3 (-(nI 1))) b21 4 (nI 0)) b21 = 1 ∧ (let y24 : Int32 := (gi (si (si (si (si h22 b21 1 (gi h22 b21 2)) b21 2 (-(nI 1))) b21 3 (-(nI 1))) b21 4 (nI 0)) b21 1); (rcvQ (si (si (si (si h22 b21 1 (gi h22 b21 2)) b21 2 (-(nI 1))) b21 3 (-(nI 1))) b21 4 (nI 0)) v0 2 ∧ ((c + 152) ≤ 2400 ∧ MetQ mq_X13_note [.ref v0, .int (nI 1), .int v1, .int y24] (si (si (si (si h22 b21 1 (gi h22 b21 2)) b21 2 (-(nI 1))) b21 3 (-(nI 1))) b21 4 (nI 0)) (rV (fun _ _ => False) (fun h25 => Lw (si (si (si (si h22 b21 1 (gi h22 b21 2)) b21 2 (-(nI 1))) b21 3 (-(nI 1))) b21 4 (nI 0)) h25 → Bt mq_X13_minute Q 93 (c + 152) [some (.ref v0), some (.int v1), none, none] [] h25)))))))))))) ∧ (¬ (gi h22 b21 3) = (gi h22 v0 6) → Bt mq_X13_minute Q 93 c [some (.ref v0), some (.int v1), none, none] [] h22)))))))))))))) ∧ (gr h12 v0 23 = none → False)))))))) ∧ (gr h v0 23 = none → False))) :
    Bt mq_X13_minute Q 12 c [some (.ref v0), some (.int v1), none, none] [] h :=
  vgq_ok kq_X13_minute (stops := [(12, [2, 3]), (93, [2, 3]), (129, [1, 2, 3]), (227, [1, 2, 3]), (240, [1]), (294, [1]), (302, [1]), (358, [1, 2]), (362, [1, 2])]) 257 12 c _ _ h T
set_option maxRecDepth 100000 in
set_option maxHeartbeats 4000000 in
theorem sq_X13_minute_93 {v0 : Nat} {v1 : Int32} {c : Nat} {h : PH} {Q : Res → PH → Prop}
    (T : Bt mq_X13_minute Q 12 c [some (.ref v0), some (.int (v1 + (nI 1))), none, none] [] h) :
    Bt mq_X13_minute Q 93 c [some (.ref v0), some (.int v1), none, none] [] h :=
  vgq_ok kq_X13_minute (stops := [(12, [2, 3]), (93, [2, 3]), (129, [1, 2, 3]), (227, [1, 2, 3]), (240, [1]), (294, [1]), (302, [1]), (358, [1, 2]), (362, [1, 2])]) 257 93 c _ _ h T
set_option maxRecDepth 100000 in
set_option maxHeartbeats 4000000 in
theorem sq_X13_minute_129 {v0 : Nat} {c : Nat} {h : PH} {Q : Res → PH → Prop}
    (T : (qkd h v0 = 2 ∧ ((¬ (gi h v0 8) = (nI 2) → Bt mq_X13_minute Q 227 c [some (.ref v0), none, none, none] [] h) ∧ ((gi h v0 8) = (nI 2) → (qkd h v0 = 2 ∧ (qkd h v0 = 2 ∧ (((gi h v0 6) < (gi h v0 12) → Bt mq_X13_minute Q 227 c [some (.ref v0), none, none, none] [] h) ∧ (¬ (gi h v0 6) < (gi h v0 12) → (qkd h v0 = 2 ∧ (qkd (si h v0 8 (nI 1)) v0 = 2 ∧ (((1 : Nat) = 1 ∧ (1 : Nat) = 1) ∧ (qkd (si h v0 8 (nI 1)) v0 = 2 ∧ (qkd (si (si h v0 8 (nI 1)) v0 11 ((gi (si h v0 8 (nI 1)) v0 11) + (nI 1))) v0 = 2 ∧ ((¬ ((gi (si h v0 8 (nI 1)) v0 11) + (nI 1)) = (gi (si (si h v0 8 (nI 1)) v0 11 ((gi (si h v0 8 (nI 1)) v0 11) + (nI 1))) v0 17) → Bt mq_X13_minute Q 227 c [some (.ref v0), none, none, none] [] (si (si h v0 8 (nI 1)) v0 11 ((gi (si h v0 8 (nI 1)) v0 11) + (nI 1)))) ∧ (((gi (si h v0 8 (nI 1)) v0 11) + (nI 1)) = (gi (si (si h v0 8 (nI 1)) v0 11 ((gi (si h v0 8 (nI 1)) v0 11) + (nI 1))) v0 17) → (qkd (si (si h v0 8 (nI 1)) v0 11 ((gi (si h v0 8 (nI 1)) v0 11) + (nI 1))) v0 = 2 ∧ (qkd (si (si (si h v0 8 (nI 1)) v0 11 ((gi (si h v0 8 (nI 1)) v0 11) + (nI 1))) v0 11 (nI 0)) v0 = 2 ∧ (let y11 : Int32 := (gi (si (si (si h v0 8 (nI 1)) v0 11 ((gi (si h v0 8 (nI 1)) v0 11) + (nI 1))) v0 11 (nI 0)) v0 10); (qkd (si (si (si h v0 8 (nI 1)) v0 11 ((gi (si h v0 8 (nI 1)) v0 11) + (nI 1))) v0 11 (nI 0)) v0 = 2 ∧ (let y12 : Int32 := (gi (si (si (si h v0 8 (nI 1)) v0 11 ((gi (si h v0 8 (nI 1)) v0 11) + (nI 1))) v0 11 (nI 0)) v0 9); ((¬ y11 = y12 → (qkd (si (si (si h v0 8 (nI 1)) v0 11 ((gi (si h v0 8 (nI 1)) v0 11) + (nI 1))) v0 11 (nI 0)) v0 = 2 ∧ (let y13 : Int32 := (gi (si (si (si h v0 8 (nI 1)) v0 11 ((gi (si h v0 8 (nI 1)) v0 11) + (nI 1))) v0 11 (nI 0)) v0 10); (qkd (si (si (si h v0 8 (nI 1)) v0 11 ((gi (si h v0 8 (nI 1)) v0 11) + (nI 1))) v0 11 (nI 0)) v0 = 2 ∧ (let y14 : Int32 := (gi (si (si (si h v0 8 (nI 1)) v0 11 ((gi (si h v0 8 (nI 1)) v0 11) + (nI 1))) v0 11 (nI 0)) v0 14); ((y14 = 0 → (qkd (si (si (si h v0 8 (nI 1)) v0 11 ((gi (si h v0 8 (nI 1)) v0 11) + (nI 1))) v0 11 (nI 0)) v0 = 2 ∧ (let h15 : PH := (si (si (si (si h v0 8 (nI 1)) v0 11 ((gi (si h v0 8 (nI 1)) v0 11) + (nI 1))) v0 11 (nI 0)) v0 10 (y13 + (-(nI 1)))); Bt mq_X13_minute Q 227 c [some (.ref v0), none, none, none] [] h15))) ∧ (¬ y14 = 0 → (qkd (si (si (si h v0 8 (nI 1)) v0 11 ((gi (si h v0 8 (nI 1)) v0 11) + (nI 1))) v0 11 (nI 0)) v0 = 2 ∧ (let h16 : PH := (si (si (si (si h v0 8 (nI 1)) v0 11 ((gi (si h v0 8 (nI 1)) v0 11) + (nI 1))) v0 11 (nI 0)) v0 10 (y13 + (nI 1))); Bt mq_X13_minute Q 227 c [some (.ref v0), none, none, none] [] h16))))))))) ∧ (y11 = y12 → (qkd (si (si (si h v0 8 (nI 1)) v0 11 ((gi (si h v0 8 (nI 1)) v0 11) + (nI 1))) v0 11 (nI 0)) v0 = 2 ∧ (let h17 : PH := (si (si (si (si h v0 8 (nI 1)) v0 11 ((gi (si h v0 8 (nI 1)) v0 11) + (nI 1))) v0 11 (nI 0)) v0 8 (nI 4)); (qkd h17 v0 = 2 ∧ (rcvQ h17 v0 2 ∧ ((c + 152) ≤ 2400 ∧ MetQ mq_X13_note [.ref v0, .int (nI 6), .int (-(nI 1)), .int (gi h17 v0 9)] h17 (rV (fun _ _ => False) (fun h18 => Lw h17 h18 → Bt mq_X13_minute Q 227 (c + 152) [some (.ref v0), none, none, none] [] h18))))))))))))))))))))))))))))) :
    Bt mq_X13_minute Q 129 c [some (.ref v0), none, none, none] [] h :=
  vgq_ok kq_X13_minute (stops := [(12, [2, 3]), (93, [2, 3]), (129, [1, 2, 3]), (227, [1, 2, 3]), (240, [1]), (294, [1]), (302, [1]), (358, [1, 2]), (362, [1, 2])]) 257 129 c _ _ h T
set_option maxRecDepth 100000 in
set_option maxHeartbeats 4000000 in
theorem sq_X13_minute_227 {v0 : Nat} {c : Nat} {h : PH} {Q : Res → PH → Prop}
    (T : (qkd h v0 = 2 ∧ (((gi h v0 8) = (nI 1) → Bt mq_X13_minute Q 240 c [some (.ref v0), none, some (.int (nI 1)), some (.int (nI 0))] [] h) ∧ (¬ (gi h v0 8) = (nI 1) → Q (.inl none) h)))) :
    Bt mq_X13_minute Q 227 c [some (.ref v0), none, none, none] [] h :=
  vgq_ok kq_X13_minute (stops := [(12, [2, 3]), (93, [2, 3]), (129, [1, 2, 3]), (227, [1, 2, 3]), (240, [1]), (294, [1]), (302, [1]), (358, [1, 2]), (362, [1, 2])]) 257 227 c _ _ h T
set_option maxRecDepth 100000 in
set_option maxHeartbeats 4000000 in
theorem sq_X13_minute_240 {v0 : Nat} {v2 : Int32} {v3 : Int32} {c : Nat} {h : PH} {Q : Res → PH → Prop}
    (T : (qkd h v0 = 2 ∧ (∀ b11 : Nat, gr h v0 23 = some b11 → (rcvQ h b11 5 ∧ MetQ mq_Jx4a65c_size_8abf5 [.ref b11] h (rI (fun _ _ => False) (fun x13 h12 => Lw h h12 → ((x13 ≤ v3 → Bt mq_X13_minute Q 302 c [some (.ref v0), none, some (.int v2), some (.int (nI 0))] [] h12) ∧ (¬ x13 ≤ v3 → (rcvQ h12 v0 2 ∧ MetQ mq_X13_waveAt [.ref v0, .int v3] h12 (rI (fun _ _ => False) (fun x15 h14 => Lw h12 h14 → (qkd h14 v0 = 2 ∧ ((¬ x15 = (gi h14 v0 11) → Bt mq_X13_minute Q 294 c [some (.ref v0), none, some (.int v2), some (.int v3)] [] h14) ∧ (x15 = (gi h14 v0 11) → (qkd h14 v0 = 2 ∧ (rcvQ h14 v0 2 ∧ ((c + 1) ≤ 2400 ∧ MetQ mq_X13_why [.ref v0, .int v3, .int (gi h14 v0 10)] h14 (rI (fun _ _ => False) (fun x17 h16 => Lw h14 h16 → ((¬ x17 = 0 → Bt mq_X13_minute Q 294 (c + 1) [some (.ref v0), none, some (.int v2), some (.int v3)] [] h16) ∧ (x17 = 0 → (rcvQ h16 v0 2 ∧ MetQ mq_X13_isReady [.ref v0, .int v3] h16 (rI (fun _ _ => False) (fun x19 h18 => Lw h16 h18 → ((¬ x19 = 0 → Bt mq_X13_minute Q 294 (c + 1) [some (.ref v0), none, some (.int v2), some (.int v3)] [] h18) ∧ (x19 = 0 → (qkd h18 v0 = 2 ∧ (rcvQ h18 v0 2 ∧ (((c + 1) + 152) ≤ 2400 ∧ MetQ mq_X13_begin [.ref v0, .int v3, .int (gi h18 v0 10)] h18 (rV (fun _ _ => False) (fun h20 => Lw h18 h20 → Bt mq_X13_minute Q 294 ((c + 1) + 152) [some (.ref v0), none, some (.int v2), some (.int v3)] [] h20))))))))))))))))))))))))))))) ∧ (gr h v0 23 = none → False))) :
    Bt mq_X13_minute Q 240 c [some (.ref v0), none, some (.int v2), some (.int v3)] [] h :=
  vgq_ok kq_X13_minute (stops := [(12, [2, 3]), (93, [2, 3]), (129, [1, 2, 3]), (227, [1, 2, 3]), (240, [1]), (294, [1]), (302, [1]), (358, [1, 2]), (362, [1, 2])]) 257 240 c _ _ h T
set_option maxRecDepth 100000 in
set_option maxHeartbeats 4000000 in
theorem sq_X13_minute_294 {v0 : Nat} {v2 : Int32} {v3 : Int32} {c : Nat} {h : PH} {Q : Res → PH → Prop}
    (T : Bt mq_X13_minute Q 240 c [some (.ref v0), none, some (.int v2), some (.int (v3 + (nI 1)))] [] h) :
    Bt mq_X13_minute Q 294 c [some (.ref v0), none, some (.int v2), some (.int v3)] [] h :=
  vgq_ok kq_X13_minute (stops := [(12, [2, 3]), (93, [2, 3]), (129, [1, 2, 3]), (227, [1, 2, 3]), (240, [1]), (294, [1]), (302, [1]), (358, [1, 2]), (362, [1, 2])]) 257 294 c _ _ h T
set_option maxRecDepth 100000 in
set_option maxHeartbeats 4000000 in
theorem sq_X13_minute_302 {v0 : Nat} {v2 : Int32} {v3 : Int32} {c : Nat} {h : PH} {Q : Res → PH → Prop}
    (T : (qkd h v0 = 2 ∧ (∀ b11 : Nat, gr h v0 23 = some b11 → (rcvQ h b11 5 ∧ MetQ mq_Jx4a65c_size_8abf5 [.ref b11] h (rI (fun _ _ => False) (fun x13 h12 => Lw h h12 → ((x13 ≤ v3 → ((¬ v2 = 0 → (qkd h12 v0 = 2 ∧ (qkd (si h12 v0 8 (nI 2)) v0 = 2 ∧ (qkd (si h12 v0 8 (nI 2)) v0 = 2 ∧ (qkd (si h12 v0 8 (nI 2)) v0 = 2 ∧ (let h14 : PH := (si (si h12 v0 8 (nI 2)) v0 12 ((gi (si h12 v0 8 (nI 2)) v0 6) + (gi (si h12 v0 8 (nI 2)) v0 4))); (qkd h14 v0 = 2 ∧ (rcvQ h14 v0 2 ∧ ((c + 152) ≤ 2400 ∧ MetQ mq_X13_note [.ref v0, .int (nI 3), .int (-(nI 1)), .int (gi h14 v0 11)] h14 (rV (fun _ _ => False) (fun h15 => Lw h14 h15 → Q (.inl none) h15))))))))))) ∧ (v2 = 0 → Q (.inl none) h12))) ∧ (¬ x13 ≤ v3 → ((v2 = 0 → Bt mq_X13_minute Q 362 c [some (.ref v0), none, none, some (.int v3)] [] h12) ∧ (¬ v2 = 0 → (rcvQ h12 v0 2 ∧ MetQ mq_X13_waveAt [.ref v0, .int v3] h12 (rI (fun _ _ => False) (fun x17 h16 => Lw h12 h16 → (qkd h16 v0 = 2 ∧ ((¬ x17 = (gi h16 v0 11) → Bt mq_X13_minute Q 358 c [some (.ref v0), none, none, some (.int v3)] [] h16) ∧ (x17 = (gi h16 v0 11) → (qkd h16 v0 = 2 ∧ (∀ b18 : Nat, gr h16 v0 23 = some b18 → (rcvQ h16 b18 5 ∧ MetQ mq_Jx4a65c_get_915e3 [.ref b18, .int v3] h16 (rR (fun b20 h19 => Lw h16 h19 → (qkd h19 b20 = 1 ∧ (qkd h19 b20 = 1 ∧ ((¬ (gi h19 b20 5) = 0 → Bt mq_X13_minute Q 358 c [some (.ref v0), none, none, some (.int v3)] [] h19) ∧ ((gi h19 b20 5) = 0 → (rcvQ h19 v0 2 ∧ MetQ mq_X13_isReady [.ref v0, .int v3] h19 (rI (fun _ _ => False) (fun x22 h21 => Lw h19 h21 → ((x22 = 0 → Bt mq_X13_minute Q 362 c [some (.ref v0), none, none, some (.int v3)] [] h21) ∧ (¬ x22 = 0 → Bt mq_X13_minute Q 358 c [some (.ref v0), none, none, some (.int v3)] [] h21))))))))))))) ∧ (gr h16 v0 23 = none → False)))))))))))))))) ∧ (gr h v0 23 = none → False))) :
    Bt mq_X13_minute Q 302 c [some (.ref v0), none, some (.int v2), some (.int v3)] [] h :=
  vgq_ok kq_X13_minute (stops := [(12, [2, 3]), (93, [2, 3]), (129, [1, 2, 3]), (227, [1, 2, 3]), (240, [1]), (294, [1]), (302, [1]), (358, [1, 2]), (362, [1, 2])]) 257 302 c _ _ h T
set_option maxRecDepth 100000 in
set_option maxHeartbeats 4000000 in
theorem sq_X13_minute_358 {v0 : Nat} {v3 : Int32} {c : Nat} {h : PH} {Q : Res → PH → Prop}
    (T : Bt mq_X13_minute Q 302 c [some (.ref v0), none, some (.int (nI 1)), some (.int (v3 + (nI 1)))] [] h) :
    Bt mq_X13_minute Q 358 c [some (.ref v0), none, none, some (.int v3)] [] h :=
  vgq_ok kq_X13_minute (stops := [(12, [2, 3]), (93, [2, 3]), (129, [1, 2, 3]), (227, [1, 2, 3]), (240, [1]), (294, [1]), (302, [1]), (358, [1, 2]), (362, [1, 2])]) 257 358 c _ _ h T
set_option maxRecDepth 100000 in
set_option maxHeartbeats 4000000 in
theorem sq_X13_minute_362 {v0 : Nat} {v3 : Int32} {c : Nat} {h : PH} {Q : Res → PH → Prop}
    (T : Bt mq_X13_minute Q 302 c [some (.ref v0), none, some (.int (nI 0)), some (.int (v3 + (nI 1)))] [] h) :
    Bt mq_X13_minute Q 362 c [some (.ref v0), none, none, some (.int v3)] [] h :=
  vgq_ok kq_X13_minute (stops := [(12, [2, 3]), (93, [2, 3]), (129, [1, 2, 3]), (227, [1, 2, 3]), (240, [1]), (294, [1]), (302, [1]), (358, [1, 2]), (362, [1, 2])]) 257 362 c _ _ h T
