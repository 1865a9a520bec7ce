/-! ===== what each method of the law, of the JDK does, 1 ===== -/
set_option maxRecDepth 100000 in
set_option maxHeartbeats 4000000 in
theorem tq_J0_coder_7d493 {a : Nat} {h : PH} {Q : Res → PH → Prop}
    (T : (((1 : Int32) = 0 → (narrow .byte (.int (nI 1)) = .int (nI 1) ∧ Q (.inl (some (.int (nI 1)))) h)) ∧ (¬ (1 : Int32) = 0 → ((qkd h a = 3 ∨ qkd h a = 35) ∧ (narrow .byte (.int (gi h a 1)) = .int (gi h a 1) ∧ Q (.inl (some (.int (gi h a 1)))) h))))) :
    MetQ mq_J0_coder_7d493 [.ref a] h Q :=
  met_ofQ oq_J0_coder_7d493 (Nat.le_of_ble_eq_true rfl) (vgq_ok kq_J0_coder_7d493 (stops := []) 57 0 0 _ [] h T)
set_option maxRecDepth 100000 in
set_option maxHeartbeats 4000000 in
theorem tq_J0_length_8abf5 {a : Nat} {h : PH} {Q : Res → PH → Prop}
    (T : ((qkd h a = 3 ∨ qkd h a = 35) ∧ (∀ b11 : Nat, gr h a 0 = some b11 → (((16 ≤ qkd h b11 ∧ qkd h b11 ≤ 24) ∨ qkd h b11 = 48 ∨ qkd h b11 = 49 ∨ qkd h b11 = 55) ∧ (rcvQ h a 3 ∧ MetQ mq_J0_coder_7d493 [.ref a] h (rI (fun _ _ => False) (fun x13 h12 => Lw h h12 → Q (.inl (some (.int ((nI (qln h b11)) >>> (x13 &&& 31))))) h12))))) ∧ (gr h a 0 = none → False))) :
    MetQ mq_J0_length_8abf5 [.ref a] h Q :=
  met_ofQ oq_J0_length_8abf5 (Nat.le_of_ble_eq_true rfl) (vgq_ok kq_J0_length_8abf5 (stops := []) 57 0 0 _ [] h T)
set_option maxRecDepth 100000 in
set_option maxHeartbeats 4000000 in
theorem tq_J0_isLatin1_aae02 {a : Nat} {h : PH} {Q : Res → PH → Prop}
    (T : (((1 : Int32) = 0 → (isB (nI 0) ∧ Q (.inl (some (.int (nI 0)))) h)) ∧ (¬ (1 : Int32) = 0 → ((qkd h a = 3 ∨ qkd h a = 35) ∧ ((¬ (gi h a 1) = 0 → (isB (nI 0) ∧ Q (.inl (some (.int (nI 0)))) h)) ∧ ((gi h a 1) = 0 → (isB (nI 1) ∧ Q (.inl (some (.int (nI 1)))) h))))))) :
    MetQ mq_J0_isLatin1_aae02 [.ref a] h Q :=
  met_ofQ oq_J0_isLatin1_aae02 (Nat.le_of_ble_eq_true rfl) (vgq_ok kq_J0_isLatin1_aae02 (stops := []) 59 0 0 _ [] h T)
set_option maxRecDepth 100000 in
set_option maxHeartbeats 4000000 in
theorem tq_J3_checkIndex_8e157_n {p0 : Int32} {p1 : Int32} {h : PH} {Q : Res → PH → Prop}
    (T : ((p0 < 0 → False) ∧ (¬ p0 < 0 → ((p0 < p1 → Q (.inl (some (.int p0))) h) ∧ (¬ p0 < p1 → False))))) :
    MetQ mq_J3_checkIndex_8e157 [.int p0, .int p1, .null] h Q :=
  met_ofQ oq_J3_checkIndex_8e157 (Nat.le_of_ble_eq_true rfl) (vgq_ok kq_J3_checkIndex_8e157 (stops := []) 62 0 0 _ [] h T)
set_option maxRecDepth 100000 in
set_option maxHeartbeats 4000000 in
theorem tq_J3_checkIndex_8e157_r {p0 : Int32} {p1 : Int32} {h : PH} {Q : Res → PH → Prop}
    (T : ((p0 < 0 → False) ∧ (¬ p0 < 0 → ((p0 < p1 → Q (.inl (some (.int p0))) h) ∧ (¬ p0 < p1 → False))))) :
    MetQ mq_J3_checkIndex_8e157 [.int p0, .int p1, .ref 1090] h Q :=
  met_ofQ oq_J3_checkIndex_8e157 (Nat.le_of_ble_eq_true rfl) (vgq_ok kq_J3_checkIndex_8e157 (stops := []) 62 0 0 _ [] h T)
set_option maxRecDepth 100000 in
set_option maxHeartbeats 4000000 in
theorem tq_J0_checkIndex_df160 {p0 : Int32} {p1 : Int32} {h : PH} {Q : Res → PH → Prop}
    (T : (MetQ mq_J3_checkIndex_8e157 [.int p0, .int p1, .null] h (rI (fun _ _ => False) (fun x12 h11 => Lw h h11 → Q (.inl none) h11)) ∧ MetQ mq_J3_checkIndex_8e157 [.int p0, .int p1, .ref 1090] h (rI (fun _ _ => False) (fun x14 h13 => Lw h h13 → Q (.inl none) h13)))) :
    MetQ mq_J0_checkIndex_df160 [.int p0, .int p1] h Q :=
  met_ofQ oq_J0_checkIndex_df160 (Nat.le_of_ble_eq_true rfl) (vgq_ok kq_J0_checkIndex_df160 (stops := []) 56 0 0 _ [] h T)
set_option maxRecDepth 100000 in
set_option maxHeartbeats 4000000 in
theorem tq_J1_charAt_3b067 {b0 : Nat} {p1 : Int32} {h : PH} {Q : Res → PH → Prop}
    (T : (((16 ≤ qkd h b0 ∧ qkd h b0 ≤ 24) ∨ qkd h b0 = 48 ∨ qkd h b0 = 49 ∨ qkd h b0 = 55) ∧ MetQ mq_J0_checkIndex_df160 [.int p1, .int (nI (qln h b0))] h (rV (fun _ _ => False) (fun h11 => Lw h h11 → ((qkd h11 b0 = 17 ∨ qkd h11 b0 = 49) ∧ vp_in p1 (qln h11 b0) ∧ (narrow .char (.int ((((gi h11 b0 p1.toNatClampNeg) &&& (nI 255)).toUInt32 % 65536).toInt32)) = .int ((((gi h11 b0 p1.toNatClampNeg) &&& (nI 255)).toUInt32 % 65536).toInt32) ∧ Q (.inl (some (.int ((((gi h11 b0 p1.toNatClampNeg) &&& (nI 255)).toUInt32 % 65536).toInt32)))) h11)))))) :
    MetQ mq_J1_charAt_3b067 [.ref b0, .int p1] h Q :=
  met_ofQ oq_J1_charAt_3b067 (Nat.le_of_ble_eq_true rfl) (vgq_ok kq_J1_charAt_3b067 (stops := []) 61 0 0 _ [] h T)
set_option maxRecDepth 100000 in
set_option maxHeartbeats 4000000 in
theorem tq_J0_charAt_5068e {a : Nat} {p0 : Int32} {h : PH} {Q : Res → PH → Prop}
    (T : (rcvQ h a 3 ∧ MetQ mq_J0_isLatin1_aae02 [.ref a] h (rI (fun _ _ => False) (fun x12 h11 => Lw h h11 → ((x12 = 0 → ((qkd h11 a = 3 ∨ qkd h11 a = 35) ∧ (∀ b13 : Nat, gr h11 a 0 = some b13 → False) ∧ (gr h11 a 0 = none → False))) ∧ (¬ x12 = 0 → ((qkd h11 a = 3 ∨ qkd h11 a = 35) ∧ (∀ b14 : Nat, gr h11 a 0 = some b14 → MetQ mq_J1_charAt_3b067 [.ref b14, .int p0] h11 (rI (fun _ _ => False) (fun x16 h15 => Lw h11 h15 → (narrow .char (.int x16) = .int x16 ∧ Q (.inl (some (.int x16))) h15)))) ∧ (gr h11 a 0 = none → MetQ mq_J1_charAt_3b067 [.null, .int p0] h11 (rI (fun _ _ => False) (fun x18 h17 => Lw h11 h17 → (narrow .char (.int x18) = .int x18 ∧ Q (.inl (some (.int x18))) h17))))))))))) :
    MetQ mq_J0_charAt_5068e [.ref a, .int p0] h Q :=
  met_ofQ oq_J0_charAt_5068e (Nat.le_of_ble_eq_true rfl) (vgq_ok kq_J0_charAt_5068e (stops := []) 63 0 0 _ [] h T)
set_option maxRecDepth 100000 in
set_option maxHeartbeats 4000000 in
theorem tq_J0_isEmpty_aae02 {a : Nat} {h : PH} {Q : Res → PH → Prop}
    (T : ((qkd h a = 3 ∨ qkd h a = 35) ∧ (∀ b11 : Nat, gr h a 0 = some b11 → (((16 ≤ qkd h b11 ∧ qkd h b11 ≤ 24) ∨ qkd h b11 = 48 ∨ qkd h b11 = 49 ∨ qkd h b11 = 55) ∧ ((¬ (nI (qln h b11)) = 0 → (isB (nI 0) ∧ Q (.inl (some (.int (nI 0)))) h)) ∧ ((nI (qln h b11)) = 0 → (isB (nI 1) ∧ Q (.inl (some (.int (nI 1)))) h))))) ∧ (gr h a 0 = none → False))) :
    MetQ mq_J0_isEmpty_aae02 [.ref a] h Q :=
  met_ofQ oq_J0_isEmpty_aae02 (Nat.le_of_ble_eq_true rfl) (vgq_ok kq_J0_isEmpty_aae02 (stops := []) 58 0 0 _ [] h T)
set_option maxRecDepth 100000 in
set_option maxHeartbeats 4000000 in
theorem tq_Jx4a65c_size_8abf5 {a : Nat} {h : PH} {Q : Res → PH → Prop}
    (T : (qkd h a = 5 ∧ Q (.inl (some (.int (gi h a 2)))) h)) :
    MetQ mq_Jx4a65c_size_8abf5 [.ref a] h Q :=
  met_ofQ oq_Jx4a65c_size_8abf5 (Nat.le_of_ble_eq_true rfl) (vgq_ok kq_Jx4a65c_size_8abf5 (stops := []) 53 0 0 _ [] h T)
set_option maxRecDepth 100000 in
set_option maxHeartbeats 4000000 in
theorem tq_J15_checkIndex_7cf53 {p0 : Int32} {p1 : Int32} {h : PH} {Q : Res → PH → Prop}
    (T : MetQ mq_J3_checkIndex_8e157 [.int p0, .int p1, .null] h (rI (fun _ _ => False) (fun x12 h11 => Lw h h11 → Q (.inl (some (.int x12))) h11))) :
    MetQ mq_J15_checkIndex_7cf53 [.int p0, .int p1] h Q :=
  met_ofQ oq_J15_checkIndex_7cf53 (Nat.le_of_ble_eq_true rfl) (vgq_ok kq_J15_checkIndex_7cf53 (stops := []) 55 0 0 _ [] h T)
set_option maxRecDepth 100000 in
set_option maxHeartbeats 4000000 in
theorem tq_Jx4a65c_elementData_915e3 {a : Nat} {p0 : Int32} {h : PH} {Q : Res → PH → Prop}
    (T : (qkd h a = 5 ∧ (∀ b11 : Nat, gr h a 1 = some b11 → (qkd h b11 = 23 ∧ vp_in p0 (qln h b11) ∧ (∀ b12 : Nat, gr h b11 p0.toNatClampNeg = some b12 → Q (.inl (some (.ref b12))) h) ∧ (gr h b11 p0.toNatClampNeg = none → Q (.inl (some (.null))) h))) ∧ (gr h a 1 = none → False))) :
    MetQ mq_Jx4a65c_elementData_915e3 [.ref a, .int p0] h Q :=
  met_ofQ oq_Jx4a65c_elementData_915e3 (Nat.le_of_ble_eq_true rfl) (vgq_ok kq_Jx4a65c_elementData_915e3 (stops := []) 55 0 0 _ [] h T)
set_option maxRecDepth 100000 in
set_option maxHeartbeats 4000000 in
theorem tq_Jx4a65c_get_915e3 {a : Nat} {p0 : Int32} {h : PH} {Q : Res → PH → Prop}
    (T : (qkd h a = 5 ∧ MetQ mq_J15_checkIndex_7cf53 [.int p0, .int (gi h a 2)] h (rI (fun _ _ => False) (fun x12 h11 => Lw h h11 → (rcvQ h11 a 5 ∧ MetQ mq_Jx4a65c_elementData_915e3 [.ref a, .int p0] h11 (rR (fun b14 h13 => Lw h11 h13 → Q (.inl (some (.ref b14))) h13))))))) :
    MetQ mq_Jx4a65c_get_915e3 [.ref a, .int p0] h Q :=
  met_ofQ oq_Jx4a65c_get_915e3 (Nat.le_of_ble_eq_true rfl) (vgq_ok kq_Jx4a65c_get_915e3 (stops := []) 59 0 0 _ [] h T)
set_option maxRecDepth 100000 in
set_option maxHeartbeats 4000000 in
theorem tq_J8_newLength_cabcc {p0 : Int32} {p1 : Int32} {p2 : Int32} {h : PH} {Q : Res → PH → Prop}
    (T : (((p0 + (if p1 < p2 then p2 else p1)) ≤ (nI 0) → False) ∧ (¬ (p0 + (if p1 < p2 then p2 else p1)) ≤ (nI 0) → (((nI 2147483639) < (p0 + (if p1 < p2 then p2 else p1)) → False) ∧ (¬ (nI 2147483639) < (p0 + (if p1 < p2 then p2 else p1)) → Q (.inl (some (.int (p0 + (if p1 < p2 then p2 else p1))))) h))))) :
    MetQ mq_J8_newLength_cabcc [.int p0, .int p1, .int p2] h Q :=
  met_ofQ oq_J8_newLength_cabcc (Nat.le_of_ble_eq_true rfl) (vgq_ok kq_J8_newLength_cabcc (stops := []) 68 0 0 _ [] h T)
set_option maxRecDepth 100000 in
set_option maxHeartbeats 4000000 in
theorem tq_J7_copyOf_6403c {b0 : Nat} {p1 : Int32} {b2 : Nat} {h : PH} {Q : Res → PH → Prop}
    (T : ((b2 = 1410 ∨ (2000 ≤ b2 ∧ ¬ qkd h b2 = 0 ∧ 1410 < 2000 ∧ 32 ≤ qkd h 1410)) ∧ ((¬ b2 = 1410 → False) ∧ (b2 = 1410 → ((¬ p1 < 0 ∧ p1.toNatClampNeg ≤ 100000) ∧ (0 + (1 + p1.toNatClampNeg / 12)) ≤ 151 ∧ ∀ q11 : Nat, 2000 ≤ q11 → qkd h q11 = 0 → (((16 ≤ qkd (nw h q11 23 p1.toNatClampNeg) b0 ∧ qkd (nw h q11 23 p1.toNatClampNeg) b0 ≤ 24) ∨ qkd (nw h q11 23 p1.toNatClampNeg) b0 = 48 ∨ qkd (nw h q11 23 p1.toNatClampNeg) b0 = 49 ∨ qkd (nw h q11 23 p1.toNatClampNeg) b0 = 55) ∧ (let y12 : Int32 := (if p1 < (nI (qln (nw h q11 23 p1.toNatClampNeg) b0)) then p1 else (nI (qln (nw h q11 23 p1.toNatClampNeg) b0))); ((qkd (nw h q11 23 p1.toNatClampNeg) b0 = 23 ∧ qkd (nw h q11 23 p1.toNatClampNeg) q11 = 23) ∧ (¬ (nI 0) < 0 ∧ ¬ (nI 0) < 0 ∧ ¬ y12 < 0 ∧ (nI 0).toNatClampNeg + y12.toNatClampNeg ≤ qln (nw h q11 23 p1.toNatClampNeg) b0 ∧ (nI 0).toNatClampNeg + y12.toNatClampNeg ≤ qln (nw h q11 23 p1.toNatClampNeg) q11) ∧ (∃ g, (g = 1 ∨ g = 16) ∧ ∀ i, i < y12.toNatClampNeg → ∀ y, gr (nw h q11 23 p1.toNatClampNeg) b0 ((nI 0).toNatClampNeg + i) = some y → qkd (nw h q11 23 p1.toNatClampNeg) y = g) ∧ (let h13 : PH := (cpr (nw h q11 23 p1.toNatClampNeg) b0 (nI 0).toNatClampNeg q11 (nI 0).toNatClampNeg y12.toNatClampNeg); Q (.inl (some (.ref q11))) h13))))))))) :
    MetQ mq_J7_copyOf_6403c [.ref b0, .int p1, .ref b2] h Q :=
  met_ofQ oq_J7_copyOf_6403c (Nat.le_of_ble_eq_true rfl) (vgq_ok kq_J7_copyOf_6403c (stops := []) 73 0 0 _ [] h T)
set_option maxRecDepth 100000 in
set_option maxHeartbeats 4000000 in
theorem tq_J7_copyOf_1904c {b0 : Nat} {p1 : Int32} {h : PH} {Q : Res → PH → Prop}
    (T : (qkd h b0 = 23 ∧ (151 ≤ 151 ∧ MetQ mq_J7_copyOf_6403c [.ref b0, .int p1, .ref 1410] h (rR (fun b12 h11 => Lw h h11 → Q (.inl (some (.ref b12))) h11))))) :
    MetQ mq_J7_copyOf_1904c [.ref b0, .int p1] h Q :=
  met_ofQ oq_J7_copyOf_1904c (Nat.le_of_ble_eq_true rfl) (vgq_ok kq_J7_copyOf_1904c (stops := []) 56 0 0 _ [] h T)
set_option maxRecDepth 100000 in
set_option maxHeartbeats 4000000 in
theorem tq_Jx4a65c_grow_92f84 {a : Nat} {p0 : Int32} {h : PH} {Q : Res → PH → Prop}
    (T : (qkd h a = 5 ∧ (∀ b11 : Nat, gr h a 1 = some b11 → (((16 ≤ qkd h b11 ∧ qkd h b11 ≤ 24) ∨ qkd h b11 = 48 ∨ qkd h b11 = 49 ∨ qkd h b11 = 55) ∧ ((0 < (nI (qln h b11)) → MetQ mq_J8_newLength_cabcc [.int (nI (qln h b11)), .int (p0 - (nI (qln h b11))), .int ((nI (qln h b11)) >>> ((nI 1) &&& 31))] h (rI (fun _ _ => False) (fun x13 h12 => Lw h h12 → (qkd h12 a = 5 ∧ (∀ b14 : Nat, gr h12 a 1 = some b14 → (151 ≤ 151 ∧ MetQ mq_J7_copyOf_1904c [.ref b14, .int x13] h12 (rR (fun b16 h15 => Lw h12 h15 → (((1 : Nat) = 1 ∧ (1 : Nat) = 1) ∧ (qkd h15 a = 5 ∧ Q (.inl (some (.ref b16))) (sr h15 a 1 (some b16)))))))) ∧ (gr h12 a 1 = none → (151 ≤ 151 ∧ MetQ mq_J7_copyOf_1904c [.null, .int x13] h12 (rR (fun b18 h17 => Lw h12 h17 → (((1 : Nat) = 1 ∧ (1 : Nat) = 1) ∧ (qkd h17 a = 5 ∧ Q (.inl (some (.ref b18))) (sr h17 a 1 (some b18)))))))))))) ∧ (¬ 0 < (nI (qln h b11)) → (qkd h a = 5 ∧ (∀ b19 : Nat, gr h a 1 = some b19 → ((b19 = 1402 ∨ (2000 ≤ b19 ∧ ¬ qkd h b19 = 0 ∧ 1402 < 2000 ∧ 32 ≤ qkd h 1402)) ∧ ((b19 = 1402 → ((¬ (if (nI 10) < p0 then p0 else (nI 10)) < 0 ∧ (if (nI 10) < p0 then p0 else (nI 10)).toNatClampNeg ≤ 100000) ∧ (0 + (1 + (if (nI 10) < p0 then p0 else (nI 10)).toNatClampNeg / 12)) ≤ 151 ∧ ∀ q20 : Nat, 2000 ≤ q20 → qkd h q20 = 0 → (((1 : Nat) = 1 ∧ (1 : Nat) = 1) ∧ (qkd (nw h q20 23 (if (nI 10) < p0 then p0 else (nI 10)).toNatClampNeg) a = 5 ∧ Q (.inl (some (.ref q20))) (sr (nw h q20 23 (if (nI 10) < p0 then p0 else (nI 10)).toNatClampNeg) a 1 (some q20)))))) ∧ (¬ b19 = 1402 → MetQ mq_J8_newLength_cabcc [.int (nI (qln h b11)), .int (p0 - (nI (qln h b11))), .int ((nI (qln h b11)) >>> ((nI 1) &&& 31))] h (rI (fun _ _ => False) (fun x22 h21 => Lw h h21 → (qkd h21 a = 5 ∧ (∀ b23 : Nat, gr h21 a 1 = some b23 → (151 ≤ 151 ∧ MetQ mq_J7_copyOf_1904c [.ref b23, .int x22] h21 (rR (fun b25 h24 => Lw h21 h24 → (((1 : Nat) = 1 ∧ (1 : Nat) = 1) ∧ (qkd h24 a = 5 ∧ Q (.inl (some (.ref b25))) (sr h24 a 1 (some b25)))))))) ∧ (gr h21 a 1 = none → (151 ≤ 151 ∧ MetQ mq_J7_copyOf_1904c [.null, .int x22] h21 (rR (fun b27 h26 => Lw h21 h26 → (((1 : Nat) = 1 ∧ (1 : Nat) = 1) ∧ (qkd h26 a = 5 ∧ Q (.inl (some (.ref b27))) (sr h26 a 1 (some b27))))))))))))))) ∧ (gr h a 1 = none → False)))))) ∧ (gr h a 1 = none → False))) :
    MetQ mq_Jx4a65c_grow_92f84 [.ref a, .int p0] h Q :=
  met_ofQ oq_Jx4a65c_grow_92f84 (Nat.le_of_ble_eq_true rfl) (vgq_ok kq_Jx4a65c_grow_92f84 (stops := []) 85 0 0 _ [] h T)
set_option maxRecDepth 100000 in
set_option maxHeartbeats 4000000 in
theorem tq_Jx4a65c_grow_d5877 {a : Nat} {h : PH} {Q : Res → PH → Prop}
    (T : (qkd h a = 5 ∧ (rcvQ h a 5 ∧ (151 ≤ 151 ∧ MetQ mq_Jx4a65c_grow_92f84 [.ref a, .int ((gi h a 2) + (nI 1))] h (rR (fun b12 h11 => Lw h h11 → Q (.inl (some (.ref b12))) h11)))))) :
    MetQ mq_Jx4a65c_grow_d5877 [.ref a] h Q :=
  met_ofQ oq_Jx4a65c_grow_d5877 (Nat.le_of_ble_eq_true rfl) (vgq_ok kq_Jx4a65c_grow_d5877 (stops := []) 57 0 0 _ [] h T)
set_option maxRecDepth 100000 in
set_option maxHeartbeats 4000000 in
theorem tq_Jx4a65c_add_72be8 {a : Nat} {b0 : Nat} {b1 : Nat} {p2 : Int32} {h : PH} {Q : Res → PH → Prop}
    (T : (((16 ≤ qkd h b1 ∧ qkd h b1 ≤ 24) ∨ qkd h b1 = 48 ∨ qkd h b1 = 49 ∨ qkd h b1 = 55) ∧ ((¬ p2 = (nI (qln h b1)) → (qkd h b1 = 23 ∧ (qkd h b0 = 1 ∨ qkd h b0 = 16) ∧ vp_in p2 (qln h b1) ∧ (qkd (sr h b1 p2.toNatClampNeg (some b0)) a = 5 ∧ Q (.inl none) (si (sr h b1 p2.toNatClampNeg (some b0)) a 2 (p2 + (nI 1)))))) ∧ (p2 = (nI (qln h b1)) → (rcvQ h a 5 ∧ (151 ≤ 151 ∧ MetQ mq_Jx4a65c_grow_d5877 [.ref a] h (rR (fun b12 h11 => Lw h h11 → (qkd h11 b12 = 23 ∧ (qkd h11 b0 = 1 ∨ qkd h11 b0 = 16) ∧ vp_in p2 (qln h11 b12) ∧ (qkd (sr h11 b12 p2.toNatClampNeg (some b0)) a = 5 ∧ Q (.inl none) (si (sr h11 b12 p2.toNatClampNeg (some b0)) a 2 (p2 + (nI 1))))))))))))) :
    MetQ mq_Jx4a65c_add_72be8 [.ref a, .ref b0, .ref b1, .int p2] h Q :=
  met_ofQ oq_Jx4a65c_add_72be8 (Nat.le_of_ble_eq_true rfl) (vgq_ok kq_Jx4a65c_add_72be8 (stops := []) 67 0 0 _ [] h T)
set_option maxRecDepth 100000 in
set_option maxHeartbeats 4000000 in
theorem tq_Jx4a65c_add_9ea2d {a : Nat} {b0 : Nat} {h : PH} {Q : Res → PH → Prop}
    (T : (qkd h a = 5 ∧ (qkd h a = 5 ∧ (qkd (si h a 0 ((gi h a 0) + (nI 1))) a = 5 ∧ (∀ b11 : Nat, gr (si h a 0 ((gi h a 0) + (nI 1))) a 1 = some b11 → (qkd (si h a 0 ((gi h a 0) + (nI 1))) a = 5 ∧ (rcvQ (si h a 0 ((gi h a 0) + (nI 1))) a 5 ∧ (151 ≤ 151 ∧ MetQ mq_Jx4a65c_add_72be8 [.ref a, .ref b0, .ref b11, .int (gi (si h a 0 ((gi h a 0) + (nI 1))) a 2)] (si h a 0 ((gi h a 0) + (nI 1))) (rV (fun _ _ => False) (fun h12 => Lw (si h a 0 ((gi h a 0) + (nI 1))) h12 → (isB (nI 1) ∧ Q (.inl (some (.int (nI 1)))) h12))))))) ∧ (gr (si h a 0 ((gi h a 0) + (nI 1))) a 1 = none → (qkd (si h a 0 ((gi h a 0) + (nI 1))) a = 5 ∧ (rcvQ (si h a 0 ((gi h a 0) + (nI 1))) a 5 ∧ (151 ≤ 151 ∧ MetQ mq_Jx4a65c_add_72be8 [.ref a, .ref b0, .null, .int (gi (si h a 0 ((gi h a 0) + (nI 1))) a 2)] (si h a 0 ((gi h a 0) + (nI 1))) (rV (fun _ _ => False) (fun h13 => Lw (si h a 0 ((gi h a 0) + (nI 1))) h13 → (isB (nI 1) ∧ Q (.inl (some (.int (nI 1)))) h13))))))))))) :
    MetQ mq_Jx4a65c_add_9ea2d [.ref a, .ref b0] h Q :=
  met_ofQ oq_Jx4a65c_add_9ea2d (Nat.le_of_ble_eq_true rfl) (vgq_ok kq_Jx4a65c_add_9ea2d (stops := []) 65 0 0 _ [] h T)
set_option maxRecDepth 100000 in
set_option maxHeartbeats 4000000 in
theorem tq_Jx35411_init_45d68 {a : Nat} {b0 : Nat} {h : PH} {Q : Res → PH → Prop}
    (T : (qkd h a = 6 ∧ (qkd (sr h a 3 (some b0)) a = 6 ∧ (qkd (si (sr h a 3 (some b0)) a 1 (-(nI 1))) a = 6 ∧ (∀ b11 : Nat, gr (si (sr h a 3 (some b0)) a 1 (-(nI 1))) a 3 = some b11 → (qkd (si (sr h a 3 (some b0)) a 1 (-(nI 1))) b11 = 5 ∧ (qkd (si (sr h a 3 (some b0)) a 1 (-(nI 1))) a = 6 ∧ (let h12 : PH := (si (si (sr h a 3 (some b0)) a 1 (-(nI 1))) a 2 (gi (si (sr h a 3 (some b0)) a 1 (-(nI 1))) b11 0)); Q (.inl none) h12)))) ∧ (gr (si (sr h a 3 (some b0)) a 1 (-(nI 1))) a 3 = none → False))))) :
    MetQ mq_Jx35411_init_45d68 [.ref a, .ref b0] h Q :=
  met_ofQ oq_Jx35411_init_45d68 (Nat.le_of_ble_eq_true rfl) (vgq_ok kq_Jx35411_init_45d68 (stops := []) 64 0 0 _ [] h T)
set_option maxRecDepth 100000 in
set_option maxHeartbeats 4000000 in
theorem tq_Jx4a65c_iterator_32c93 {a : Nat} {h : PH} {Q : Res → PH → Prop}
    (T : (1 ≤ 1 ∧ ∀ q11 : Nat, 2000 ≤ q11 → qkd h q11 = 0 → MetQ mq_Jx35411_init_45d68 [.ref q11, .ref a] (nw h q11 6 0) (rV (fun _ _ => False) (fun h12 => Lw (nw h q11 6 0) h12 → Q (.inl (some (.ref q11))) h12)))) :
    MetQ mq_Jx4a65c_iterator_32c93 [.ref a] h Q :=
  met_ofQ oq_Jx4a65c_iterator_32c93 (Nat.le_of_ble_eq_true rfl) (vgq_ok kq_Jx4a65c_iterator_32c93 (stops := []) 55 0 0 _ [] h T)
set_option maxRecDepth 100000 in
set_option maxHeartbeats 4000000 in
theorem tq_Jx35411_hasNext_aae02 {a : Nat} {h : PH} {Q : Res → PH → Prop}
    (T : (qkd h a = 6 ∧ (qkd h a = 6 ∧ (∀ b11 : Nat, gr h a 3 = some b11 → (qkd h b11 = 5 ∧ (((gi h a 0) = (gi h b11 2) → (isB (nI 0) ∧ Q (.inl (some (.int (nI 0)))) h)) ∧ (¬ (gi h a 0) = (gi h b11 2) → (isB (nI 1) ∧ Q (.inl (some (.int (nI 1)))) h))))) ∧ (gr h a 3 = none → False)))) :
    MetQ mq_Jx35411_hasNext_aae02 [.ref a] h Q :=
  met_ofQ oq_Jx35411_hasNext_aae02 (Nat.le_of_ble_eq_true rfl) (vgq_ok kq_Jx35411_hasNext_aae02 (stops := []) 60 0 0 _ [] h T)
set_option maxRecDepth 100000 in
set_option maxHeartbeats 4000000 in
theorem tq_Jx35411_checkForComodification_da8c8 {a : Nat} {h : PH} {Q : Res → PH → Prop}
    (T : (qkd h a = 6 ∧ (∀ b11 : Nat, gr h a 3 = some b11 → (qkd h b11 = 5 ∧ (qkd h a = 6 ∧ (((gi h b11 0) = (gi h a 2) → Q (.inl none) h) ∧ (¬ (gi h b11 0) = (gi h a 2) → False))))) ∧ (gr h a 3 = none → False))) :
    MetQ mq_Jx35411_checkForComodification_da8c8 [.ref a] h Q :=
  met_ofQ oq_Jx35411_checkForComodification_da8c8 (Nat.le_of_ble_eq_true rfl) (vgq_ok kq_Jx35411_checkForComodification_da8c8 (stops := []) 61 0 0 _ [] h T)
set_option maxRecDepth 100000 in
set_option maxHeartbeats 4000000 in
theorem tq_Jx35411_next_0502b {a : Nat} {h : PH} {Q : Res → PH → Prop}
    (T : (rcvQ h a 6 ∧ MetQ mq_Jx35411_checkForComodification_da8c8 [.ref a] h (rV (fun _ _ => False) (fun h11 => Lw h h11 → (qkd h11 a = 6 ∧ (qkd h11 a = 6 ∧ (∀ b12 : Nat, gr h11 a 3 = some b12 → (qkd h11 b12 = 5 ∧ (((gi h11 a 0) < (gi h11 b12 2) → (qkd h11 a = 6 ∧ (∀ b13 : Nat, gr h11 a 3 = some b13 → (qkd h11 b13 = 5 ∧ (∀ b14 : Nat, gr h11 b13 1 = some b14 → (((16 ≤ qkd h11 b14 ∧ qkd h11 b14 ≤ 24) ∨ qkd h11 b14 = 48 ∨ qkd h11 b14 = 49 ∨ qkd h11 b14 = 55) ∧ (((gi h11 a 0) < (nI (qln h11 b14)) → (qkd h11 a = 6 ∧ (((1 : Nat) = 1 ∧ (1 : Nat) = 1) ∧ (qkd (si h11 a 0 ((gi h11 a 0) + (nI 1))) a = 6 ∧ (qkd (si (si h11 a 0 ((gi h11 a 0) + (nI 1))) a 1 (gi h11 a 0)) b14 = 23 ∧ vp_in (gi h11 a 0) (qln (si (si h11 a 0 ((gi h11 a 0) + (nI 1))) a 1 (gi h11 a 0)) b14) ∧ (∀ b15 : Nat, gr (si (si h11 a 0 ((gi h11 a 0) + (nI 1))) a 1 (gi h11 a 0)) b14 (gi h11 a 0).toNatClampNeg = some b15 → Q (.inl (some (.ref b15))) (si (si h11 a 0 ((gi h11 a 0) + (nI 1))) a 1 (gi h11 a 0))) ∧ (gr (si (si h11 a 0 ((gi h11 a 0) + (nI 1))) a 1 (gi h11 a 0)) b14 (gi h11 a 0).toNatClampNeg = none → Q (.inl (some (.null))) (si (si h11 a 0 ((gi h11 a 0) + (nI 1))) a 1 (gi h11 a 0)))))))) ∧ (¬ (gi h11 a 0) < (nI (qln h11 b14)) → False)))) ∧ (gr h11 b13 1 = none → False))) ∧ (gr h11 a 3 = none → False))) ∧ (¬ (gi h11 a 0) < (gi h11 b12 2) → False)))) ∧ (gr h11 a 3 = none → False))))))) :
    MetQ mq_Jx35411_next_0502b [.ref a] h Q :=
  met_ofQ oq_Jx35411_next_0502b (Nat.le_of_ble_eq_true rfl) (vgq_ok kq_Jx35411_next_0502b (stops := []) 88 0 0 _ [] h T)
set_option maxRecDepth 100000 in
set_option maxHeartbeats 4000000 in
theorem tq_J6_bitCount_0f7a4 {p0 : Int32} {h : PH} {Q : Res → PH → Prop}
    (T : (let y11 : Int32 := (p0 - (((p0.toUInt32 >>> ((nI 1).toUInt32 &&& Int32.toUInt32 31)).toInt32) &&& (nI 1431655765))); (let y12 : Int32 := ((y11 &&& (nI 858993459)) + (((y11.toUInt32 >>> ((nI 2).toUInt32 &&& Int32.toUInt32 31)).toInt32) &&& (nI 858993459))); (let y13 : Int32 := ((y12 + ((y12.toUInt32 >>> ((nI 4).toUInt32 &&& Int32.toUInt32 31)).toInt32)) &&& (nI 252645135)); (let y14 : Int32 := (((y13 + ((y13.toUInt32 >>> ((nI 8).toUInt32 &&& Int32.toUInt32 31)).toInt32)).toUInt32 >>> ((nI 16).toUInt32 &&& Int32.toUInt32 31)).toInt32); (let y15 : Int32 := (((y13 + ((y13.toUInt32 >>> ((nI 8).toUInt32 &&& Int32.toUInt32 31)).toInt32)) + y14) &&& (nI 63)); Q (.inl (some (.int y15))) h)))))) :
    MetQ mq_J6_bitCount_0f7a4 [.int p0] h Q :=
  met_ofQ oq_J6_bitCount_0f7a4 (Nat.le_of_ble_eq_true rfl) (vgq_ok kq_J6_bitCount_0f7a4 (stops := []) 92 0 0 _ [] h T)
set_option maxRecDepth 100000 in
set_option maxHeartbeats 4000000 in
theorem tq_Jxa1e45_init_da8c8 {a : Nat} {h : PH} {Q : Res → PH → Prop}
    (T : Q (.inl none) h) :
    MetQ mq_Jxa1e45_init_da8c8 [.ref a] h Q :=
  met_ofQ oq_Jxa1e45_init_da8c8 (Nat.le_of_ble_eq_true rfl) (vgq_ok kq_Jxa1e45_init_da8c8 (stops := []) 53 0 0 _ [] h T)
set_option maxRecDepth 100000 in
set_option maxHeartbeats 4000000 in
theorem tq_Jxc12de_init_da8c8 {a : Nat} {h : PH} {Q : Res → PH → Prop}
    (T : MetQ mq_Jxa1e45_init_da8c8 [.ref a] h (rV (fun _ _ => False) (fun h11 => Lw h h11 → (qkd h11 a = 5 ∧ Q (.inl none) (si h11 a 0 (nI 0)))))) :
    MetQ mq_Jxc12de_init_da8c8 [.ref a] h Q :=
  met_ofQ oq_Jxc12de_init_da8c8 (Nat.le_of_ble_eq_true rfl) (vgq_ok kq_Jxc12de_init_da8c8 (stops := []) 56 0 0 _ [] h T)
set_option maxRecDepth 100000 in
set_option maxHeartbeats 4000000 in
theorem tq_Jx4a65c_init_da8c8 {a : Nat} {h : PH} {Q : Res → PH → Prop}
    (T : MetQ mq_Jxc12de_init_da8c8 [.ref a] h (rV (fun _ _ => False) (fun h11 => Lw h h11 → (qkd h11 a = 5 ∧ Q (.inl none) (sr h11 a 1 (some 1402)))))) :
    MetQ mq_Jx4a65c_init_da8c8 [.ref a] h Q :=
  met_ofQ oq_Jx4a65c_init_da8c8 (Nat.le_of_ble_eq_true rfl) (vgq_ok kq_Jx4a65c_init_da8c8 (stops := []) 56 0 0 _ [] h T)
set_option maxRecDepth 100000 in
set_option maxHeartbeats 4000000 in
theorem tq_J5_init_d00df {a : Nat} {p0 : Int32} {h : PH} {Q : Res → PH → Prop}
    (T : (((1 : Int32) = 0 → False) ∧ (¬ (1 : Int32) = 0 → ((¬ p0 < 0 ∧ p0.toNatClampNeg ≤ 100000) ∧ (0 + (1 + p0.toNatClampNeg / 12)) ≤ 2 ∧ ∀ q11 : Nat, 2000 ≤ q11 → qkd h q11 = 0 → (qkd (nw h q11 17 p0.toNatClampNeg) a = 4 ∧ (qkd (sr (nw h q11 17 p0.toNatClampNeg) a 0 (some q11)) a = 4 ∧ isB (nI 0) ∧ Q (.inl none) (si (sr (nw h q11 17 p0.toNatClampNeg) a 0 (some q11)) a 1 (nI 0)))))))) :
    MetQ mq_J5_init_d00df [.ref a, .int p0] h Q :=
  met_ofQ oq_J5_init_d00df (Nat.le_of_ble_eq_true rfl) (vgq_ok kq_J5_init_d00df (stops := []) 70 0 0 _ [] h T)
set_option maxRecDepth 100000 in
set_option maxHeartbeats 4000000 in
theorem tq_J4_init_da8c8 {a : Nat} {h : PH} {Q : Res → PH → Prop}
    (T : (2 ≤ 2 ∧ MetQ mq_J5_init_d00df [.ref a, .int (nI 16)] h (rV (fun _ _ => False) (fun h11 => Lw h h11 → Q (.inl none) h11)))) :
    MetQ mq_J4_init_da8c8 [.ref a] h Q :=
  met_ofQ oq_J4_init_da8c8 (Nat.le_of_ble_eq_true rfl) (vgq_ok kq_J4_init_da8c8 (stops := []) 54 0 0 _ [] h T)
set_option maxRecDepth 100000 in
set_option maxHeartbeats 4000000 in
theorem tq_J5_newCapacity_0f7a4 {a : Nat} {p0 : Int32} {h : PH} {Q : Res → PH → Prop}
    (T : (qkd h a = 4 ∧ (∀ b11 : Nat, gr h a 0 = some b11 → (((16 ≤ qkd h b11 ∧ qkd h b11 ≤ 24) ∨ qkd h b11 = 48 ∨ qkd h b11 = 49 ∨ qkd h b11 = 55) ∧ (qkd h a = 4 ∧ (qkd h a = 4 ∧ MetQ mq_J8_newLength_cabcc [.int (nI (qln h b11)), .int ((p0 <<< ((gi h a 1) &&& 31)) - (nI (qln h b11))), .int ((nI (qln h b11)) + ((nI 2) <<< ((gi h a 1) &&& 31)))] h (rI (fun _ _ => False) (fun x13 h12 => Lw h h12 → ((¬ x13 = (nI 2147483647) → (qkd h12 a = 4 ∧ Q (.inl (some (.int (x13 >>> ((gi h12 a 1) &&& 31))))) h12)) ∧ (x13 = (nI 2147483647) → False)))))))) ∧ (gr h a 0 = none → False))) :
    MetQ mq_J5_newCapacity_0f7a4 [.ref a, .int p0] h Q :=
  met_ofQ oq_J5_newCapacity_0f7a4 (Nat.le_of_ble_eq_true rfl) (vgq_ok kq_J5_newCapacity_0f7a4 (stops := []) 86 0 0 _ [] h T)
set_option maxRecDepth 100000 in
set_option maxHeartbeats 4000000 in
theorem tq_J7_copyOf_9075b {b0 : Nat} {p1 : Int32} {h : PH} {Q : Res → PH → Prop}
    (T : (((16 ≤ qkd h b0 ∧ qkd h b0 ≤ 24) ∨ qkd h b0 = 48 ∨ qkd h b0 = 49 ∨ qkd h b0 = 55) ∧ ((¬ p1 = (nI (qln h b0)) → ((¬ p1 < 0 ∧ p1.toNatClampNeg ≤ 100000) ∧ (0 + (1 + p1.toNatClampNeg / 12)) ≤ 101 ∧ ∀ q11 : Nat, 2000 ≤ q11 → qkd h q11 = 0 → (((16 ≤ qkd (nw h q11 17 p1.toNatClampNeg) b0 ∧ qkd (nw h q11 17 p1.toNatClampNeg) b0 ≤ 24) ∨ qkd (nw h q11 17 p1.toNatClampNeg) b0 = 48 ∨ qkd (nw h q11 17 p1.toNatClampNeg) b0 = 49 ∨ qkd (nw h q11 17 p1.toNatClampNeg) b0 = 55) ∧ (let y12 : Int32 := (if p1 < (nI (qln (nw h q11 17 p1.toNatClampNeg) b0)) then p1 else (nI (qln (nw h q11 17 p1.toNatClampNeg) b0))); (((qkd (nw h q11 17 p1.toNatClampNeg) b0 = 17 ∨ qkd (nw h q11 17 p1.toNatClampNeg) b0 = 49) ∧ qkd (nw h q11 17 p1.toNatClampNeg) q11 = 17) ∧ (¬ (nI 0) < 0 ∧ ¬ (nI 0) < 0 ∧ ¬ y12 < 0 ∧ (nI 0).toNatClampNeg + y12.toNatClampNeg ≤ qln (nw h q11 17 p1.toNatClampNeg) b0 ∧ (nI 0).toNatClampNeg + y12.toNatClampNeg ≤ qln (nw h q11 17 p1.toNatClampNeg) q11) ∧ (∀ i, i < y12.toNatClampNeg → fits .byte (.int (gi (nw h q11 17 p1.toNatClampNeg) b0 ((nI 0).toNatClampNeg + i))) = true) ∧ (let h13 : PH := (cpi (nw h q11 17 p1.toNatClampNeg) b0 (nI 0).toNatClampNeg q11 (nI 0).toNatClampNeg y12.toNatClampNeg); Q (.inl (some (.ref q11))) h13)))))) ∧ (p1 = (nI (qln h b0)) → (qkd h b0 = 17 ∧ (∀ i, i < qln h b0 → fits .byte (.int (gi h b0 i)) = true) ∧ (0 + (1 + qln h b0 / 12)) ≤ 101 ∧ ∀ q14 : Nat, 2000 ≤ q14 → qkd h q14 = 0 → (qkd (cln' h q14 b0) q14 = 17 ∧ Q (.inl (some (.ref q14))) (cln' h q14 b0))))))) :
    MetQ mq_J7_copyOf_9075b [.ref b0, .int p1] h Q :=
  met_ofQ oq_J7_copyOf_9075b (Nat.le_of_ble_eq_true rfl) (vgq_ok kq_J7_copyOf_9075b (stops := []) 72 0 0 _ [] h T)
set_option maxRecDepth 100000 in
set_option maxHeartbeats 4000000 in
theorem tq_J5_ensureCapacityInternal_d00df {a : Nat} {p0 : Int32} {h : PH} {Q : Res → PH → Prop}
    (T : (qkd h a = 4 ∧ (∀ b11 : Nat, gr h a 0 = some b11 → (((16 ≤ qkd h b11 ∧ qkd h b11 ≤ 24) ∨ qkd h b11 = 48 ∨ qkd h b11 = 49 ∨ qkd h b11 = 55) ∧ (qkd h a = 4 ∧ (((p0 - ((nI (qln h b11)) >>> ((gi h a 1) &&& 31))) ≤ 0 → Q (.inl none) h) ∧ (¬ (p0 - ((nI (qln h b11)) >>> ((gi h a 1) &&& 31))) ≤ 0 → (qkd h a = 4 ∧ (∀ b12 : Nat, gr h a 0 = some b12 → (rcvQ h a 4 ∧ MetQ mq_J5_newCapacity_0f7a4 [.ref a, .int p0] h (rI (fun _ _ => False) (fun x14 h13 => Lw h h13 → (qkd h13 a = 4 ∧ (101 ≤ 101 ∧ MetQ mq_J7_copyOf_9075b [.ref b12, .int (x14 <<< ((gi h13 a 1) &&& 31))] h13 (rR (fun b16 h15 => Lw h13 h15 → (qkd h15 a = 4 ∧ Q (.inl none) (sr h15 a 0 (some b16))))))))))) ∧ (gr h a 0 = none → (rcvQ h a 4 ∧ MetQ mq_J5_newCapacity_0f7a4 [.ref a, .int p0] h (rI (fun _ _ => False) (fun x18 h17 => Lw h h17 → (qkd h17 a = 4 ∧ (101 ≤ 101 ∧ MetQ mq_J7_copyOf_9075b [.null, .int (x18 <<< ((gi h17 a 1) &&& 31))] h17 (rR (fun b20 h19 => Lw h17 h19 → (qkd h19 a = 4 ∧ Q (.inl none) (sr h19 a 0 (some b20))))))))))))))))) ∧ (gr h a 0 = none → False))) :
    MetQ mq_J5_ensureCapacityInternal_d00df [.ref a, .int p0] h Q :=
  met_ofQ oq_J5_ensureCapacityInternal_d00df (Nat.le_of_ble_eq_true rfl) (vgq_ok kq_J5_ensureCapacityInternal_d00df (stops := []) 73 0 0 _ [] h T)
set_option maxRecDepth 100000 in
set_option maxHeartbeats 4000000 in
theorem tq_J5_inflateIfNeededFor_a7421 {a : Nat} {b0 : Nat} {h : PH} {Q : Res → PH → Prop}
    (T : (((1 : Int32) = 0 → Q (.inl none) h) ∧ (¬ (1 : Int32) = 0 → (qkd h a = 4 ∧ (rcvQ h b0 3 ∧ MetQ mq_J0_coder_7d493 [.ref b0] h (rI (fun _ _ => False) (fun x12 h11 => Lw h h11 → (((gi h a 1) = x12 → Q (.inl none) h11) ∧ (¬ (gi h a 1) = x12 → False))))))))) :
    MetQ mq_J5_inflateIfNeededFor_a7421 [.ref a, .ref b0] h Q :=
  met_ofQ oq_J5_inflateIfNeededFor_a7421 (Nat.le_of_ble_eq_true rfl) (vgq_ok kq_J5_inflateIfNeededFor_a7421 (stops := []) 60 0 0 _ [] h T)
set_option maxRecDepth 100000 in
set_option maxHeartbeats 4000000 in
theorem tq_J0_getBytes_840e7 {a : Nat} {b0 : Nat} {p1 : Int32} {p2 : Int32} {h : PH} {Q : Res → PH → Prop}
    (T : (rcvQ h a 3 ∧ MetQ mq_J0_coder_7d493 [.ref a] h (rI (fun _ _ => False) (fun x12 h11 => Lw h h11 → ((¬ x12 = p2 → ((qkd h11 a = 3 ∨ qkd h11 a = 35) ∧ (∀ b13 : Nat, gr h11 a 0 = some b13 → ((qkd h11 a = 3 ∨ qkd h11 a = 35) ∧ (∀ b14 : Nat, gr h11 a 0 = some b14 → (((16 ≤ qkd h11 b14 ∧ qkd h11 b14 ≤ 24) ∨ qkd h11 b14 = 48 ∨ qkd h11 b14 = 49 ∨ qkd h11 b14 = 55) ∧ False)) ∧ (gr h11 a 0 = none → False))) ∧ (gr h11 a 0 = none → ((qkd h11 a = 3 ∨ qkd h11 a = 35) ∧ (∀ b15 : Nat, gr h11 a 0 = some b15 → (((16 ≤ qkd h11 b15 ∧ qkd h11 b15 ≤ 24) ∨ qkd h11 b15 = 48 ∨ qkd h11 b15 = 49 ∨ qkd h11 b15 = 55) ∧ False)) ∧ (gr h11 a 0 = none → False))))) ∧ (x12 = p2 → ((qkd h11 a = 3 ∨ qkd h11 a = 35) ∧ (∀ b16 : Nat, gr h11 a 0 = some b16 → ((qkd h11 a = 3 ∨ qkd h11 a = 35) ∧ (∀ b17 : Nat, gr h11 a 0 = some b17 → (((16 ≤ qkd h11 b17 ∧ qkd h11 b17 ≤ 24) ∨ qkd h11 b17 = 48 ∨ qkd h11 b17 = 49 ∨ qkd h11 b17 = 55) ∧ (((qkd h11 b16 = 17 ∨ qkd h11 b16 = 49) ∧ qkd h11 b0 = 17) ∧ (¬ (nI 0) < 0 ∧ ¬ (p1 <<< (p2 &&& 31)) < 0 ∧ ¬ (nI (qln h11 b17)) < 0 ∧ (nI 0).toNatClampNeg + (nI (qln h11 b17)).toNatClampNeg ≤ qln h11 b16 ∧ (p1 <<< (p2 &&& 31)).toNatClampNeg + (nI (qln h11 b17)).toNatClampNeg ≤ qln h11 b0) ∧ (∀ i, i < (nI (qln h11 b17)).toNatClampNeg → fits .byte (.int (gi h11 b16 ((nI 0).toNatClampNeg + i))) = true) ∧ (let h18 : PH := (cpi h11 b16 (nI 0).toNatClampNeg b0 (p1 <<< (p2 &&& 31)).toNatClampNeg (nI (qln h11 b17)).toNatClampNeg); Q (.inl none) h18)))) ∧ (gr h11 a 0 = none → False))) ∧ (gr h11 a 0 = none → ((qkd h11 a = 3 ∨ qkd h11 a = 35) ∧ (∀ b19 : Nat, gr h11 a 0 = some b19 → (((16 ≤ qkd h11 b19 ∧ qkd h11 b19 ≤ 24) ∨ qkd h11 b19 = 48 ∨ qkd h11 b19 = 49 ∨ qkd h11 b19 = 55) ∧ False)) ∧ (gr h11 a 0 = none → False)))))))))) :
    MetQ mq_J0_getBytes_840e7 [.ref a, .ref b0, .int p1, .int p2] h Q :=
  met_ofQ oq_J0_getBytes_840e7 (Nat.le_of_ble_eq_true rfl) (vgq_ok kq_J0_getBytes_840e7 (stops := []) 76 0 0 _ [] h T)
set_option maxRecDepth 100000 in
set_option maxHeartbeats 4000000 in
theorem tq_J5_putStringAt_47b60 {a : Nat} {p0 : Int32} {b1 : Nat} {h : PH} {Q : Res → PH → Prop}
    (T : (rcvQ h a 4 ∧ MetQ mq_J5_inflateIfNeededFor_a7421 [.ref a, .ref b1] h (rV (fun _ _ => False) (fun h11 => Lw h h11 → (qkd h11 a = 4 ∧ (∀ b12 : Nat, gr h11 a 0 = some b12 → (qkd h11 a = 4 ∧ (rcvQ h11 b1 3 ∧ MetQ mq_J0_getBytes_840e7 [.ref b1, .ref b12, .int p0, .int (gi h11 a 1)] h11 (rV (fun _ _ => False) (fun h13 => Lw h11 h13 → Q (.inl none) h13))))) ∧ (gr h11 a 0 = none → (qkd h11 a = 4 ∧ (rcvQ h11 b1 3 ∧ MetQ mq_J0_getBytes_840e7 [.ref b1, .null, .int p0, .int (gi h11 a 1)] h11 (rV (fun _ _ => False) (fun h14 => Lw h11 h14 → Q (.inl none) h14)))))))))) :
    MetQ mq_J5_putStringAt_47b60 [.ref a, .int p0, .ref b1] h Q :=
  met_ofQ oq_J5_putStringAt_47b60 (Nat.le_of_ble_eq_true rfl) (vgq_ok kq_J5_putStringAt_47b60 (stops := []) 61 0 0 _ [] h T)
set_option maxRecDepth 100000 in
set_option maxHeartbeats 4000000 in
theorem tq_J5_append_cf1ce {a : Nat} {b0 : Nat} {h : PH} {Q : Res → PH → Prop}
    (T : (rcvQ h b0 3 ∧ MetQ mq_J0_length_8abf5 [.ref b0] h (rI (fun _ _ => False) (fun x12 h11 => Lw h h11 → (qkd h11 a = 4 ∧ (rcvQ h11 a 4 ∧ (101 ≤ 101 ∧ MetQ mq_J5_ensureCapacityInternal_d00df [.ref a, .int ((gi h11 a 3) + x12)] h11 (rV (fun _ _ => False) (fun h13 => Lw h11 h13 → (qkd h13 a = 4 ∧ (rcvQ h13 a 4 ∧ MetQ mq_J5_putStringAt_47b60 [.ref a, .int (gi h13 a 3), .ref b0] h13 (rV (fun _ _ => False) (fun h14 => Lw h13 h14 → (qkd h14 a = 4 ∧ (qkd h14 a = 4 ∧ Q (.inl (some (.ref a))) (si h14 a 3 ((gi h14 a 3) + x12))))))))))))))))) :
    MetQ mq_J5_append_cf1ce [.ref a, .ref b0] h Q :=
  met_ofQ oq_J5_append_cf1ce (Nat.le_of_ble_eq_true rfl) (vgq_ok kq_J5_append_cf1ce (stops := []) 77 0 0 _ [] h T)
set_option maxRecDepth 100000 in
set_option maxHeartbeats 4000000 in
theorem tq_J4_append_15ec4 {a : Nat} {b0 : Nat} {h : PH} {Q : Res → PH → Prop}
    (T : (rcvQ h a 4 ∧ (101 ≤ 101 ∧ MetQ mq_J5_append_cf1ce [.ref a, .ref b0] h (rR (fun b12 h11 => Lw h h11 → Q (.inl (some (.ref a))) h11))))) :
    MetQ mq_J4_append_15ec4 [.ref a, .ref b0] h Q :=
  met_ofQ oq_J4_append_15ec4 (Nat.le_of_ble_eq_true rfl) (vgq_ok kq_J4_append_15ec4 (stops := []) 56 0 0 _ [] h T)
set_option maxRecDepth 100000 in
set_option maxHeartbeats 4000000 in
theorem tq_J6_stringSize_0f7a4 {p0 : Int32} {h : PH} {Q : Res → PH → Prop}
    (T : ((p0 < 0 → Bt mq_J6_stringSize_0f7a4 Q 16 0 [some (.int p0), some (.int (nI 1)), some (.int (-(nI 10))), some (.int (nI 1))] [] h) ∧ (¬ p0 < 0 → Bt mq_J6_stringSize_0f7a4 Q 16 0 [some (.int (-p0)), some (.int (nI 0)), some (.int (-(nI 10))), some (.int (nI 1))] [] h))) :
    MetQ mq_J6_stringSize_0f7a4 [.int p0] h Q :=
  met_ofQ oq_J6_stringSize_0f7a4 (Nat.le_of_ble_eq_true rfl) (vgq_ok kq_J6_stringSize_0f7a4 (stops := [(16, [])]) 83 0 0 _ [] h T)
set_option maxRecDepth 100000 in
set_option maxHeartbeats 4000000 in
theorem sq_J6_stringSize_0f7a4_16 {v0 : Int32} {v1 : Int32} {v2 : Int32} {v3 : Int32} {c : Nat} {h : PH} {Q : Res → PH → Prop}
    (T : (((nI 10) ≤ v3 → Q (.inl (some (.int ((nI 10) + v1)))) h) ∧ (¬ (nI 10) ≤ v3 → ((v0 ≤ v2 → Bt mq_J6_stringSize_0f7a4 Q 16 c [some (.int v0), some (.int v1), some (.int ((nI 10) * v2)), some (.int (v3 + (nI 1)))] [] h) ∧ (¬ v0 ≤ v2 → Q (.inl (some (.int (v3 + v1)))) h))))) :
    Bt mq_J6_stringSize_0f7a4 Q 16 c [some (.int v0), some (.int v1), some (.int v2), some (.int v3)] [] h :=
  vgq_ok kq_J6_stringSize_0f7a4 (stops := [(16, [])]) 83 16 c _ _ h T
set_option maxRecDepth 100000 in
set_option maxHeartbeats 4000000 in
theorem tq_J5_isLatin1_aae02 {a : Nat} {h : PH} {Q : Res → PH → Prop}
    (T : (((1 : Int32) = 0 → (isB (nI 0) ∧ Q (.inl (some (.int (nI 0)))) h)) ∧ (¬ (1 : Int32) = 0 → (qkd h a = 4 ∧ ((¬ (gi h a 1) = 0 → (isB (nI 0) ∧ Q (.inl (some (.int (nI 0)))) h)) ∧ ((gi h a 1) = 0 → (isB (nI 1) ∧ Q (.inl (some (.int (nI 1)))) h))))))) :
    MetQ mq_J5_isLatin1_aae02 [.ref a] h Q :=
  met_ofQ oq_J5_isLatin1_aae02 (Nat.le_of_ble_eq_true rfl) (vgq_ok kq_J5_isLatin1_aae02 (stops := []) 59 0 0 _ [] h T)
set_option maxRecDepth 100000 in
set_option maxHeartbeats 4000000 in
theorem tq_J6_getChars_ba4f3 {p0 : Int32} {p1 : Int32} {b2 : Nat} {h : PH} {Q : Res → PH → Prop}
    (T : ((0 ≤ p0 → ((¬ (nI 0) = 0 → Bt mq_J6_getChars_ba4f3 Q 22 0 [some (.int p0), none, some (.ref b2), none, none, some (.int p1), some (.int (nI 0))] [] h) ∧ ((nI 0) = 0 → Bt mq_J6_getChars_ba4f3 Q 22 0 [some (.int (-p0)), none, some (.ref b2), none, none, some (.int p1), some (.int (nI 0))] [] h))) ∧ (¬ 0 ≤ p0 → ((¬ (nI 1) = 0 → Bt mq_J6_getChars_ba4f3 Q 22 0 [some (.int p0), none, some (.ref b2), none, none, some (.int p1), some (.int (nI 1))] [] h) ∧ ((nI 1) = 0 → Bt mq_J6_getChars_ba4f3 Q 22 0 [some (.int (-p0)), none, some (.ref b2), none, none, some (.int p1), some (.int (nI 1))] [] h))))) :
    MetQ mq_J6_getChars_ba4f3 [.int p0, .int p1, .ref b2] h Q :=
  met_ofQ oq_J6_getChars_ba4f3 (Nat.le_of_ble_eq_true rfl) (vgq_ok kq_J6_getChars_ba4f3 (stops := [(22, [1, 3, 4])]) 121 0 0 _ [] h T)
set_option maxRecDepth 100000 in
set_option maxHeartbeats 4000000 in
theorem sq_J6_getChars_ba4f3_22 {v0 : Int32} {v2 : Nat} {v5 : Int32} {v6 : Int32} {c : Nat} {h : PH} {Q : Res → PH → Prop}
    (T : (((-(nI 100)) < v0 → ((qkd h 1400 = 17 ∨ qkd h 1400 = 49) ∧ vp_in (-v0) (qln h 1400) ∧ (qkd h v2 = 17 ∧ vp_in (v5 + (-(nI 1))) (qln h v2) ∧ (((-(nI 9)) ≤ v0 → ((v6 = 0 → Q (.inl (some (.int (v5 + (-(nI 1)))))) (si h v2 (v5 + (-(nI 1))).toNatClampNeg (gi h 1400 (-v0).toNatClampNeg).toInt8.toInt32)) ∧ (¬ v6 = 0 → (qkd (si h v2 (v5 + (-(nI 1))).toNatClampNeg (gi h 1400 (-v0).toNatClampNeg).toInt8.toInt32) v2 = 17 ∧ vp_in ((v5 + (-(nI 1))) + (-(nI 1))) (qln (si h v2 (v5 + (-(nI 1))).toNatClampNeg (gi h 1400 (-v0).toNatClampNeg).toInt8.toInt32) v2) ∧ (let h11 : PH := (si (si h v2 (v5 + (-(nI 1))).toNatClampNeg (gi h 1400 (-v0).toNatClampNeg).toInt8.toInt32) v2 ((v5 + (-(nI 1))) + (-(nI 1))).toNatClampNeg (nI 45).toInt8.toInt32); Q (.inl (some (.int ((v5 + (-(nI 1))) + (-(nI 1)))))) h11))))) ∧ (¬ (-(nI 9)) ≤ v0 → ((qkd (si h v2 (v5 + (-(nI 1))).toNatClampNeg (gi h 1400 (-v0).toNatClampNeg).toInt8.toInt32) 1401 = 17 ∨ qkd (si h v2 (v5 + (-(nI 1))).toNatClampNeg (gi h 1400 (-v0).toNatClampNeg).toInt8.toInt32) 1401 = 49) ∧ vp_in (-v0) (qln (si h v2 (v5 + (-(nI 1))).toNatClampNeg (gi h 1400 (-v0).toNatClampNeg).toInt8.toInt32) 1401) ∧ (let y12 : Int32 := (gi (si h v2 (v5 + (-(nI 1))).toNatClampNeg (gi h 1400 (-v0).toNatClampNeg).toInt8.toInt32) 1401 (-v0).toNatClampNeg); (qkd (si h v2 (v5 + (-(nI 1))).toNatClampNeg (gi h 1400 (-v0).toNatClampNeg).toInt8.toInt32) v2 = 17 ∧ vp_in ((v5 + (-(nI 1))) + (-(nI 1))) (qln (si h v2 (v5 + (-(nI 1))).toNatClampNeg (gi h 1400 (-v0).toNatClampNeg).toInt8.toInt32) v2) ∧ (let h13 : PH := (si (si h v2 (v5 + (-(nI 1))).toNatClampNeg (gi h 1400 (-v0).toNatClampNeg).toInt8.toInt32) v2 ((v5 + (-(nI 1))) + (-(nI 1))).toNatClampNeg y12.toInt8.toInt32); ((v6 = 0 → Q (.inl (some (.int ((v5 + (-(nI 1))) + (-(nI 1)))))) h13) ∧ (¬ v6 = 0 → (qkd h13 v2 = 17 ∧ vp_in (((v5 + (-(nI 1))) + (-(nI 1))) + (-(nI 1))) (qln h13 v2) ∧ (let h14 : PH := (si h13 v2 (((v5 + (-(nI 1))) + (-(nI 1))) + (-(nI 1))).toNatClampNeg (nI 45).toInt8.toInt32); Q (.inl (some (.int (((v5 + (-(nI 1))) + (-(nI 1))) + (-(nI 1)))))) h14))))))))))))) ∧ (¬ (-(nI 100)) < v0 → ((¬ (nI 100) = 0) ∧ ((qkd h 1400 = 17 ∨ qkd h 1400 = 49) ∧ vp_in (((v0 / (nI 100)) * (nI 100)) - v0) (qln h 1400) ∧ (qkd h v2 = 17 ∧ vp_in (v5 + (-(nI 1))) (qln h v2) ∧ (let h15 : PH := (si h v2 (v5 + (-(nI 1))).toNatClampNeg (gi h 1400 (((v0 / (nI 100)) * (nI 100)) - v0).toNatClampNeg).toInt8.toInt32); ((qkd h15 1401 = 17 ∨ qkd h15 1401 = 49) ∧ vp_in (((v0 / (nI 100)) * (nI 100)) - v0) (qln h15 1401) ∧ (qkd h15 v2 = 17 ∧ vp_in ((v5 + (-(nI 1))) + (-(nI 1))) (qln h15 v2) ∧ (let h16 : PH := (si h15 v2 ((v5 + (-(nI 1))) + (-(nI 1))).toNatClampNeg (gi h15 1401 (((v0 / (nI 100)) * (nI 100)) - v0).toNatClampNeg).toInt8.toInt32); Bt mq_J6_getChars_ba4f3 Q 22 c [some (.int (v0 / (nI 100))), none, some (.ref v2), none, none, some (.int ((v5 + (-(nI 1))) + (-(nI 1)))), some (.int v6)] [] h16)))))))))) :
    Bt mq_J6_getChars_ba4f3 Q 22 c [some (.int v0), none, some (.ref v2), none, none, some (.int v5), some (.int v6)] [] h :=
  vgq_ok kq_J6_getChars_ba4f3 (stops := [(22, [1, 3, 4])]) 121 22 c _ _ h T
set_option maxRecDepth 100000 in
set_option maxHeartbeats 4000000 in
theorem tq_J5_append_c97b9 {a : Nat} {p0 : Int32} {h : PH} {Q : Res → PH → Prop}
    (T : (qkd h a = 4 ∧ MetQ mq_J6_stringSize_0f7a4 [.int p0] h (rI (fun _ _ => False) (fun x12 h11 => Lw h h11 → (rcvQ h11 a 4 ∧ (101 ≤ 101 ∧ MetQ mq_J5_ensureCapacityInternal_d00df [.ref a, .int ((gi h a 3) + x12)] h11 (rV (fun _ _ => False) (fun h13 => Lw h11 h13 → (rcvQ h13 a 4 ∧ MetQ mq_J5_isLatin1_aae02 [.ref a] h13 (rI (fun _ _ => False) (fun x15 h14 => Lw h13 h14 → ((x15 = 0 → (qkd h14 a = 4 ∧ (∀ b16 : Nat, gr h14 a 0 = some b16 → False) ∧ (gr h14 a 0 = none → False))) ∧ (¬ x15 = 0 → (qkd h14 a = 4 ∧ (∀ b17 : Nat, gr h14 a 0 = some b17 → MetQ mq_J6_getChars_ba4f3 [.int p0, .int ((gi h a 3) + x12), .ref b17] h14 (rI (fun _ _ => False) (fun x19 h18 => Lw h14 h18 → (qkd h18 a = 4 ∧ Q (.inl (some (.ref a))) (si h18 a 3 ((gi h a 3) + x12)))))) ∧ (gr h14 a 0 = none → MetQ mq_J6_getChars_ba4f3 [.int p0, .int ((gi h a 3) + x12), .null] h14 (rI (fun _ _ => False) (fun x21 h20 => Lw h14 h20 → (qkd h20 a = 4 ∧ Q (.inl (some (.ref a))) (si h20 a 3 ((gi h a 3) + x12)))))))))))))))))))) :
    MetQ mq_J5_append_c97b9 [.ref a, .int p0] h Q :=
  met_ofQ oq_J5_append_c97b9 (Nat.le_of_ble_eq_true rfl) (vgq_ok kq_J5_append_c97b9 (stops := []) 83 0 0 _ [] h T)
set_option maxRecDepth 100000 in
set_option maxHeartbeats 4000000 in
theorem tq_J4_append_bf812 {a : Nat} {p0 : Int32} {h : PH} {Q : Res → PH → Prop}
    (T : (rcvQ h a 4 ∧ (101 ≤ 101 ∧ MetQ mq_J5_append_c97b9 [.ref a, .int p0] h (rR (fun b12 h11 => Lw h h11 → Q (.inl (some (.ref a))) h11))))) :
    MetQ mq_J4_append_bf812 [.ref a, .int p0] h Q :=
  met_ofQ oq_J4_append_bf812 (Nat.le_of_ble_eq_true rfl) (vgq_ok kq_J4_append_bf812 (stops := []) 56 0 0 _ [] h T)
set_option maxRecDepth 100000 in
set_option maxHeartbeats 4000000 in
theorem tq_J1_canEncode_fc78d {p0 : Int32} {h : PH} {Q : Res → PH → Prop}
    (T : (((nI 255) < p0 → (isB (nI 0) ∧ Q (.inl (some (.int (nI 0)))) h)) ∧ (¬ (nI 255) < p0 → (isB (nI 1) ∧ Q (.inl (some (.int (nI 1)))) h)))) :
    MetQ mq_J1_canEncode_fc78d [.int p0] h Q :=
  met_ofQ oq_J1_canEncode_fc78d (Nat.le_of_ble_eq_true rfl) (vgq_ok kq_J1_canEncode_fc78d (stops := []) 57 0 0 _ [] h T)
set_option maxRecDepth 100000 in
set_option maxHeartbeats 4000000 in
theorem tq_J5_append_3fe6f {a : Nat} {p0 : Int32} {h : PH} {Q : Res → PH → Prop}
    (T : (qkd h a = 4 ∧ (rcvQ h a 4 ∧ (101 ≤ 101 ∧ MetQ mq_J5_ensureCapacityInternal_d00df [.ref a, .int ((gi h a 3) + (nI 1))] h (rV (fun _ _ => False) (fun h11 => Lw h h11 → (rcvQ h11 a 4 ∧ MetQ mq_J5_isLatin1_aae02 [.ref a] h11 (rI (fun _ _ => False) (fun x13 h12 => Lw h11 h12 → ((x13 = 0 → (rcvQ h12 a 4 ∧ MetQ mq_J5_isLatin1_aae02 [.ref a] h12 (rI (fun _ _ => False) (fun x15 h14 => Lw h12 h14 → ((x15 = 0 → (qkd h14 a = 4 ∧ (∀ b16 : Nat, gr h14 a 0 = some b16 → (qkd h14 a = 4 ∧ (((1 : Nat) = 1 ∧ (1 : Nat) = 1) ∧ (qkd h14 a = 4 ∧ False)))) ∧ (gr h14 a 0 = none → (qkd h14 a = 4 ∧ (((1 : Nat) = 1 ∧ (1 : Nat) = 1) ∧ (qkd h14 a = 4 ∧ False)))))) ∧ (¬ x15 = 0 → False)))))) ∧ (¬ x13 = 0 → MetQ mq_J1_canEncode_fc78d [.int p0] h12 (rI (fun _ _ => False) (fun x18 h17 => Lw h12 h17 → ((x18 = 0 → (rcvQ h17 a 4 ∧ MetQ mq_J5_isLatin1_aae02 [.ref a] h17 (rI (fun _ _ => False) (fun x20 h19 => Lw h17 h19 → ((x20 = 0 → (qkd h19 a = 4 ∧ (∀ b21 : Nat, gr h19 a 0 = some b21 → (qkd h19 a = 4 ∧ (((1 : Nat) = 1 ∧ (1 : Nat) = 1) ∧ (qkd h19 a = 4 ∧ False)))) ∧ (gr h19 a 0 = none → (qkd h19 a = 4 ∧ (((1 : Nat) = 1 ∧ (1 : Nat) = 1) ∧ (qkd h19 a = 4 ∧ False)))))) ∧ (¬ x20 = 0 → False)))))) ∧ (¬ x18 = 0 → (qkd h17 a = 4 ∧ (∀ b22 : Nat, gr h17 a 0 = some b22 → (qkd h17 a = 4 ∧ (((1 : Nat) = 1 ∧ (1 : Nat) = 1) ∧ (qkd h17 a = 4 ∧ (qkd (si h17 a 3 ((gi h17 a 3) + (nI 1))) b22 = 17 ∧ vp_in (gi h17 a 3) (qln (si h17 a 3 ((gi h17 a 3) + (nI 1))) b22) ∧ (let h23 : PH := (si (si h17 a 3 ((gi h17 a 3) + (nI 1))) b22 (gi h17 a 3).toNatClampNeg (p0.toInt8.toInt32).toInt8.toInt32); Q (.inl (some (.ref a))) h23)))))) ∧ (gr h17 a 0 = none → (qkd h17 a = 4 ∧ (((1 : Nat) = 1 ∧ (1 : Nat) = 1) ∧ (qkd h17 a = 4 ∧ False)))))))))))))))))))) :
    MetQ mq_J5_append_3fe6f [.ref a, .int p0] h Q :=
  met_ofQ oq_J5_append_3fe6f (Nat.le_of_ble_eq_true rfl) (vgq_ok kq_J5_append_3fe6f (stops := []) 93 0 0 _ [] h T)
set_option maxRecDepth 100000 in
set_option maxHeartbeats 4000000 in
theorem tq_J4_append_cf468 {a : Nat} {p0 : Int32} {h : PH} {Q : Res → PH → Prop}
    (T : (rcvQ h a 4 ∧ (101 ≤ 101 ∧ MetQ mq_J5_append_3fe6f [.ref a, .int p0] h (rR (fun b12 h11 => Lw h h11 → Q (.inl (some (.ref a))) h11))))) :
    MetQ mq_J4_append_cf468 [.ref a, .int p0] h Q :=
  met_ofQ oq_J4_append_cf468 (Nat.le_of_ble_eq_true rfl) (vgq_ok kq_J4_append_cf468 (stops := []) 56 0 0 _ [] h T)
set_option maxRecDepth 100000 in
set_option maxHeartbeats 4000000 in
theorem tq_J5_getValue_6d5f1 {a : Nat} {h : PH} {Q : Res → PH → Prop}
    (T : (qkd h a = 4 ∧ (∀ b11 : Nat, gr h a 0 = some b11 → Q (.inl (some (.ref b11))) h) ∧ (gr h a 0 = none → Q (.inl (some (.null))) h))) :
    MetQ mq_J5_getValue_6d5f1 [.ref a] h Q :=
  met_ofQ oq_J5_getValue_6d5f1 (Nat.le_of_ble_eq_true rfl) (vgq_ok kq_J5_getValue_6d5f1 (stops := []) 53 0 0 _ [] h T)
set_option maxRecDepth 100000 in
set_option maxHeartbeats 4000000 in
theorem tq_J5_length_8abf5 {a : Nat} {h : PH} {Q : Res → PH → Prop}
    (T : (qkd h a = 4 ∧ Q (.inl (some (.int (gi h a 3)))) h)) :
    MetQ mq_J5_length_8abf5 [.ref a] h Q :=
  met_ofQ oq_J5_length_8abf5 (Nat.le_of_ble_eq_true rfl) (vgq_ok kq_J5_length_8abf5 (stops := []) 53 0 0 _ [] h T)
set_option maxRecDepth 100000 in
set_option maxHeartbeats 4000000 in
theorem tq_J4_length_8abf5 {a : Nat} {h : PH} {Q : Res → PH → Prop}
    (T : (rcvQ h a 4 ∧ MetQ mq_J5_length_8abf5 [.ref a] h (rI (fun _ _ => False) (fun x12 h11 => Lw h h11 → Q (.inl (some (.int x12))) h11)))) :
    MetQ mq_J4_length_8abf5 [.ref a] h Q :=
  met_ofQ oq_J4_length_8abf5 (Nat.le_of_ble_eq_true rfl) (vgq_ok kq_J4_length_8abf5 (stops := []) 53 0 0 _ [] h T)
set_option maxRecDepth 100000 in
set_option maxHeartbeats 4000000 in
theorem tq_J7_checkLength_df160 {p0 : Int32} {p1 : Int32} {h : PH} {Q : Res → PH → Prop}
    (T : ((p0 ≤ p1 → Q (.inl none) h) ∧ (¬ p0 ≤ p1 → False))) :
    MetQ mq_J7_checkLength_df160 [.int p0, .int p1] h Q :=
  met_ofQ oq_J7_checkLength_df160 (Nat.le_of_ble_eq_true rfl) (vgq_ok kq_J7_checkLength_df160 (stops := []) 68 0 0 _ [] h T)
set_option maxRecDepth 100000 in
set_option maxHeartbeats 4000000 in
theorem tq_J7_copyOfRangeByte_39247 {b0 : Nat} {p1 : Int32} {p2 : Int32} {h : PH} {Q : Res → PH → Prop}
    (T : MetQ mq_J7_checkLength_df160 [.int p1, .int p2] h (rV (fun _ _ => False) (fun h11 => Lw h h11 → ((¬ (p2 - p1) < 0 ∧ (p2 - p1).toNatClampNeg ≤ 100000) ∧ (0 + (1 + (p2 - p1).toNatClampNeg / 12)) ≤ 101 ∧ ∀ q12 : Nat, 2000 ≤ q12 → qkd h11 q12 = 0 → (((16 ≤ qkd (nw h11 q12 17 (p2 - p1).toNatClampNeg) b0 ∧ qkd (nw h11 q12 17 (p2 - p1).toNatClampNeg) b0 ≤ 24) ∨ qkd (nw h11 q12 17 (p2 - p1).toNatClampNeg) b0 = 48 ∨ qkd (nw h11 q12 17 (p2 - p1).toNatClampNeg) b0 = 49 ∨ qkd (nw h11 q12 17 (p2 - p1).toNatClampNeg) b0 = 55) ∧ (let y13 : Int32 := (if (p2 - p1) < ((nI (qln (nw h11 q12 17 (p2 - p1).toNatClampNeg) b0)) - p1) then (p2 - p1) else ((nI (qln (nw h11 q12 17 (p2 - p1).toNatClampNeg) b0)) - p1)); (((qkd (nw h11 q12 17 (p2 - p1).toNatClampNeg) b0 = 17 ∨ qkd (nw h11 q12 17 (p2 - p1).toNatClampNeg) b0 = 49) ∧ qkd (nw h11 q12 17 (p2 - p1).toNatClampNeg) q12 = 17) ∧ (¬ p1 < 0 ∧ ¬ (nI 0) < 0 ∧ ¬ y13 < 0 ∧ p1.toNatClampNeg + y13.toNatClampNeg ≤ qln (nw h11 q12 17 (p2 - p1).toNatClampNeg) b0 ∧ (nI 0).toNatClampNeg + y13.toNatClampNeg ≤ qln (nw h11 q12 17 (p2 - p1).toNatClampNeg) q12) ∧ (∀ i, i < y13.toNatClampNeg → fits .byte (.int (gi (nw h11 q12 17 (p2 - p1).toNatClampNeg) b0 (p1.toNatClampNeg + i))) = true) ∧ (let h14 : PH := (cpi (nw h11 q12 17 (p2 - p1).toNatClampNeg) b0 p1.toNatClampNeg q12 (nI 0).toNatClampNeg y13.toNatClampNeg); Q (.inl (some (.ref q12))) h14)))))))) :
    MetQ mq_J7_copyOfRangeByte_39247 [.ref b0, .int p1, .int p2] h Q :=
  met_ofQ oq_J7_copyOfRangeByte_39247 (Nat.le_of_ble_eq_true rfl) (vgq_ok kq_J7_copyOfRangeByte_39247 (stops := []) 73 0 0 _ [] h T)
set_option maxRecDepth 100000 in
set_option maxHeartbeats 4000000 in
theorem tq_J7_copyOfRange_39247 {b0 : Nat} {p1 : Int32} {p2 : Int32} {h : PH} {Q : Res → PH → Prop}
    (T : ((¬ p1 = 0 → (101 ≤ 101 ∧ MetQ mq_J7_copyOfRangeByte_39247 [.ref b0, .int p1, .int p2] h (rR (fun b12 h11 => Lw h h11 → Q (.inl (some (.ref b12))) h11)))) ∧ (p1 = 0 → (((16 ≤ qkd h b0 ∧ qkd h b0 ≤ 24) ∨ qkd h b0 = 48 ∨ qkd h b0 = 49 ∨ qkd h b0 = 55) ∧ ((p2 = (nI (qln h b0)) → (qkd h b0 = 17 ∧ (∀ i, i < qln h b0 → fits .byte (.int (gi h b0 i)) = true) ∧ (0 + (1 + qln h b0 / 12)) ≤ 101 ∧ ∀ q13 : Nat, 2000 ≤ q13 → qkd h q13 = 0 → (qkd (cln' h q13 b0) q13 = 17 ∧ Q (.inl (some (.ref q13))) (cln' h q13 b0)))) ∧ (¬ p2 = (nI (qln h b0)) → (101 ≤ 101 ∧ MetQ mq_J7_copyOfRangeByte_39247 [.ref b0, .int p1, .int p2] h (rR (fun b15 h14 => Lw h h14 → Q (.inl (some (.ref b15))) h14))))))))) :
    MetQ mq_J7_copyOfRange_39247 [.ref b0, .int p1, .int p2] h Q :=
  met_ofQ oq_J7_copyOfRange_39247 (Nat.le_of_ble_eq_true rfl) (vgq_ok kq_J7_copyOfRange_39247 (stops := []) 65 0 0 _ [] h T)
set_option maxRecDepth 100000 in
set_option maxHeartbeats 4000000 in
theorem tq_J0_init_db425 {a : Nat} {b0 : Nat} {h : PH} {Q : Res → PH → Prop}
    (T : (rcvQ h b0 4 ∧ MetQ mq_J5_getValue_6d5f1 [.ref b0] h (rR (fun b12 h11 => Lw h h11 → (rcvQ h11 b0 4 ∧ MetQ mq_J4_length_8abf5 [.ref b0] h11 (rI (fun _ _ => False) (fun x14 h13 => Lw h11 h13 → (rcvQ h13 b0 4 ∧ MetQ mq_J5_isLatin1_aae02 [.ref b0] h13 (rI (fun _ _ => False) (fun x16 h15 => Lw h13 h15 → ((x16 = 0 → (((1 : Int32) = 0 → (qkd h15 a = 3 ∧ isB (nI 1) ∧ (101 ≤ 101 ∧ MetQ mq_J7_copyOfRange_39247 [.ref b12, .int (nI 0), .int (x14 <<< ((nI 1) &&& 31))] (si h15 a 1 (nI 1)) (rR (fun b18 h17 => Lw (si h15 a 1 (nI 1)) h17 → (qkd h17 a = 3 ∧ Q (.inl none) (sr h17 a 0 (some b18)))))))) ∧ (¬ (1 : Int32) = 0 → (qkd h15 b0 = 4 ∧ (((gi h15 b0 2) = 0 → (qkd h15 a = 3 ∧ isB (nI 1) ∧ (101 ≤ 101 ∧ MetQ mq_J7_copyOfRange_39247 [.ref b12, .int (nI 0), .int (x14 <<< ((nI 1) &&& 31))] (si h15 a 1 (nI 1)) (rR (fun b20 h19 => Lw (si h15 a 1 (nI 1)) h19 → (qkd h19 a = 3 ∧ Q (.inl none) (sr h19 a 0 (some b20)))))))) ∧ (¬ (gi h15 b0 2) = 0 → False)))))) ∧ (¬ x16 = 0 → (qkd h15 a = 3 ∧ isB (nI 0) ∧ (101 ≤ 101 ∧ MetQ mq_J7_copyOfRange_39247 [.ref b12, .int (nI 0), .int x14] (si h15 a 1 (nI 0)) (rR (fun b22 h21 => Lw (si h15 a 1 (nI 0)) h21 → (qkd h21 a = 3 ∧ Q (.inl none) (sr h21 a 0 (some b22))))))))))))))))))) :
    MetQ mq_J0_init_db425 [.ref a, .ref b0, .null] h Q :=
  met_ofQ oq_J0_init_db425 (Nat.le_of_ble_eq_true rfl) (vgq_ok kq_J0_init_db425 (stops := []) 101 0 0 _ [] h T)
set_option maxRecDepth 100000 in
set_option maxHeartbeats 4000000 in
theorem tq_J0_init_81219 {a : Nat} {b0 : Nat} {h : PH} {Q : Res → PH → Prop}
    (T : (101 ≤ 101 ∧ MetQ mq_J0_init_db425 [.ref a, .ref b0, .null] h (rV (fun _ _ => False) (fun h11 => Lw h h11 → Q (.inl none) h11)))) :
    MetQ mq_J0_init_81219 [.ref a, .ref b0] h Q :=
  met_ofQ oq_J0_init_81219 (Nat.le_of_ble_eq_true rfl) (vgq_ok kq_J0_init_81219 (stops := []) 55 0 0 _ [] h T)
set_option maxRecDepth 100000 in
set_option maxHeartbeats 4000000 in
theorem tq_J4_toString_0e30d {a : Nat} {h : PH} {Q : Res → PH → Prop}
    (T : (1 ≤ 102 ∧ ∀ q11 : Nat, 2000 ≤ q11 → qkd h q11 = 0 → (102 ≤ 102 ∧ MetQ mq_J0_init_81219 [.ref q11, .ref a] (nw h q11 3 0) (rV (fun _ _ => False) (fun h12 => Lw (nw h q11 3 0) h12 → Q (.inl (some (.ref q11))) h12))))) :
    MetQ mq_J4_toString_0e30d [.ref a] h Q :=
  met_ofQ oq_J4_toString_0e30d (Nat.le_of_ble_eq_true rfl) (vgq_ok kq_J4_toString_0e30d (stops := []) 55 0 0 _ [] h T)
