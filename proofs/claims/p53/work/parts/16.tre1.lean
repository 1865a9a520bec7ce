/-! ===== what each method does, step by step, 1 ===== -/
set_option maxRecDepth 100000 in
set_option maxHeartbeats 4000000 in
theorem t_X5_reset {h : PH} {Q : Res → PH → Prop}
    (T : (let h1 : PH := (si (si (si (si (si (si h 31 1 (nI 0)) 36 1 (nI 0)) 41 1 (nI 0)) 30 11 (nI 0)) 30 12 (nI 0)) 30 13 (nI 1)); Q (.inl none) (si (si (si (si h1 30 14 (nI 1)) 30 15 (nI 5)) 30 16 (nI 10)) 30 17 (nI 50)))) :
    MetPM m_X5_reset [.ref 30] h Q := by
  exact met_of o_X5_reset (Nat.le_of_ble_eq_true rfl) (fun q => absurd rfl q) (vg_ok k_X5_reset (stops := []) 84 0 0 _ [] h T)
set_option maxRecDepth 100000 in
set_option maxHeartbeats 4000000 in
theorem t_J0_coder_7d493 {a : Nat} {h : PH} {Q : Res → PH → Prop}
    (T : (((1 : Int32) = 0 → (narrow .byte (.int (nI 1)) = .int (nI 1) ∧ Q (.inl (some (.int (nI 1)))) h)) ∧ (¬ (1 : Int32) = 0 → (cOk a 22 ∧ (narrow .byte (.int (cfv a 1)) = .int (cfv a 1) ∧ Q (.inl (some (.int (cfv a 1)))) h))))) :
    MetPM m_J0_coder_7d493 [.ref a] h Q := by
  exact met_of o_J0_coder_7d493 (Nat.le_of_ble_eq_true rfl) (fun q => absurd rfl q) (vg_ok k_J0_coder_7d493 (stops := []) 57 0 0 _ [] h T)
set_option maxRecDepth 100000 in
set_option maxHeartbeats 4000000 in
theorem t_J0_length_8abf5 {a : Nat} {h : PH} {Q : Res → PH → Prop}
    (T : (cOk a 22 ∧ (cAr (cfr a) 1 ∧ (cOk a 22 ∧ MetPM m_J0_coder_7d493 [.ref a] h (rI (hnd Q (At m_J0_length_8abf5 Q) 0 [some (.ref a)] []) (fun x2 h1 => Q (.inl (some (.int ((nI (cln (cfr a))) >>> (x2 &&& 31))))) h1)))))) :
    MetPM m_J0_length_8abf5 [.ref a] h Q := by
  exact met_of o_J0_length_8abf5 (Nat.le_of_ble_eq_true rfl) (fun q => absurd rfl q) (vg_ok k_J0_length_8abf5 (stops := []) 57 0 0 _ [] h T)
set_option maxRecDepth 100000 in
set_option maxHeartbeats 4000000 in
theorem t_J0_isLatin1_aae02 {a : Nat} {h : PH} {Q : Res → PH → Prop}
    (T : (((1 : Int32) = 0 → (isB (nI 0) ∧ Q (.inl (some (.int (nI 0)))) h)) ∧ (¬ (1 : Int32) = 0 → (cOk a 22 ∧ ((¬ (cfv a 1) = 0 → (isB (nI 0) ∧ Q (.inl (some (.int (nI 0)))) h)) ∧ ((cfv a 1) = 0 → (isB (nI 1) ∧ Q (.inl (some (.int (nI 1)))) h))))))) :
    MetPM m_J0_isLatin1_aae02 [.ref a] h Q := by
  exact met_of o_J0_isLatin1_aae02 (Nat.le_of_ble_eq_true rfl) (fun q => absurd rfl q) (vg_ok k_J0_isLatin1_aae02 (stops := []) 59 0 0 _ [] h T)
set_option maxRecDepth 100000 in
set_option maxHeartbeats 4000000 in
theorem t_J3_checkIndex_8e157_n {p0 : Int32} {p1 : Int32} {h : PH} {Q : Res → PH → Prop}
    (T : ((p0 < 0 → False) ∧ (¬ p0 < 0 → ((p0 < p1 → Q (.inl (some (.int p0))) h) ∧ (¬ p0 < p1 → False))))) :
    MetPM m_J3_checkIndex_8e157 [.int p0, .int p1, .null] h Q := by
  exact met_of o_J3_checkIndex_8e157 (Nat.le_of_ble_eq_true rfl) (fun q => absurd rfl q) (vg_ok k_J3_checkIndex_8e157 (stops := []) 62 0 0 _ [] h T)
set_option maxRecDepth 100000 in
set_option maxHeartbeats 4000000 in
theorem t_J3_checkIndex_8e157_r {p0 : Int32} {p1 : Int32} {h : PH} {Q : Res → PH → Prop}
    (T : ((p0 < 0 → False) ∧ (¬ p0 < 0 → ((p0 < p1 → Q (.inl (some (.int p0))) h) ∧ (¬ p0 < p1 → False))))) :
    MetPM m_J3_checkIndex_8e157 [.int p0, .int p1, .ref 1090] h Q := by
  exact met_of o_J3_checkIndex_8e157 (Nat.le_of_ble_eq_true rfl) (fun q => absurd rfl q) (vg_ok k_J3_checkIndex_8e157 (stops := []) 62 0 0 _ [] h T)
set_option maxRecDepth 100000 in
set_option maxHeartbeats 4000000 in
theorem t_J0_checkIndex_df160 {p0 : Int32} {p1 : Int32} {h : PH} {Q : Res → PH → Prop}
    (T : (MetPM m_J3_checkIndex_8e157 [.int p0, .int p1, .null] h (rI (hnd Q (At m_J0_checkIndex_df160 Q) 0 [some (.int p0), some (.int p1)] []) (fun x2 h1 => Q (.inl none) h1)) ∧ MetPM m_J3_checkIndex_8e157 [.int p0, .int p1, .ref 1090] h (rI (hnd Q (At m_J0_checkIndex_df160 Q) 0 [some (.int p0), some (.int p1)] []) (fun x4 h3 => Q (.inl none) h3)))) :
    MetPM m_J0_checkIndex_df160 [.int p0, .int p1] h Q := by
  exact met_of o_J0_checkIndex_df160 (Nat.le_of_ble_eq_true rfl) (fun q => absurd rfl q) (vg_ok k_J0_checkIndex_df160 (stops := []) 56 0 0 _ [] h T)
set_option maxRecDepth 100000 in
set_option maxHeartbeats 4000000 in
theorem t_J1_charAt_3b067 {b0 : Nat} {p1 : Int32} {h : PH} {Q : Res → PH → Prop}
    (T : (cAr b0 1 ∧ MetPM m_J0_checkIndex_df160 [.int p1, .int (nI (cln b0))] h (rV (hnd Q (At m_J1_charAt_3b067 Q) 0 [some (.ref b0), some (.int p1)] []) (fun h1 => (cAr b0 1 ∧ vp_in p1 (cln b0) ∧ (narrow .char (.int ((((cby b0 p1.toNatClampNeg) &&& (nI 255)).toUInt32 % 65536).toInt32)) = .int ((((cby b0 p1.toNatClampNeg) &&& (nI 255)).toUInt32 % 65536).toInt32) ∧ Q (.inl (some (.int ((((cby b0 p1.toNatClampNeg) &&& (nI 255)).toUInt32 % 65536).toInt32)))) h1)))))) :
    MetPM m_J1_charAt_3b067 [.ref b0, .int p1] h Q := by
  exact met_of o_J1_charAt_3b067 (Nat.le_of_ble_eq_true rfl) (fun q => absurd rfl q) (vg_ok k_J1_charAt_3b067 (stops := []) 61 0 0 _ [] h T)
set_option maxRecDepth 100000 in
set_option maxHeartbeats 4000000 in
theorem t_J0_charAt_5068e {a : Nat} {p0 : Int32} {h : PH} {Q : Res → PH → Prop}
    (T : (cOk a 22 ∧ MetPM m_J0_isLatin1_aae02 [.ref a] h (rI (hnd Q (At m_J0_charAt_5068e Q) 0 [some (.ref a), some (.int p0)] []) (fun x2 h1 => ((x2 = 0 → (cOk a 22 ∧ MetPM m_J2_charAt_3b067 [.ref (cfr a), .int p0] h1 (rI (hnd Q (At m_J0_charAt_5068e Q) 0 [some (.ref a), some (.int p0)] []) (fun x4 h3 => (narrow .char (.int x4) = .int x4 ∧ Q (.inl (some (.int x4))) h3))))) ∧ (¬ x2 = 0 → (cOk a 22 ∧ MetPM m_J1_charAt_3b067 [.ref (cfr a), .int p0] h1 (rI (hnd Q (At m_J0_charAt_5068e Q) 0 [some (.ref a), some (.int p0)] []) (fun x6 h5 => (narrow .char (.int x6) = .int x6 ∧ Q (.inl (some (.int x6))) h5)))))))))) :
    MetPM m_J0_charAt_5068e [.ref a, .int p0] h Q := by
  exact met_of o_J0_charAt_5068e (Nat.le_of_ble_eq_true rfl) (fun q => absurd rfl q) (vg_ok k_J0_charAt_5068e (stops := []) 63 0 0 _ [] h T)
set_option maxRecDepth 100000 in
set_option maxHeartbeats 4000000 in
theorem t_X6_isFull_31 {h : PH} {Q : Res → PH → Prop}
    (T : (((gi h 31 1) < (nI 8) → (isB (nI 0) ∧ Q (.inl (some (.int (nI 0)))) h)) ∧ (¬ (gi h 31 1) < (nI 8) → (isB (nI 1) ∧ Q (.inl (some (.int (nI 1)))) h)))) :
    MetPM m_X6_isFull [.ref 31] h Q := by
  exact met_of o_X6_isFull (Nat.le_of_ble_eq_true rfl) (fun q => absurd rfl q) (vg_ok k_X6_isFull (stops := []) 60 0 0 _ [] h T)
set_option maxRecDepth 100000 in
set_option maxHeartbeats 4000000 in
theorem t_X6_isFull_36 {h : PH} {Q : Res → PH → Prop}
    (T : (((gi h 36 1) < (nI 5) → (isB (nI 0) ∧ Q (.inl (some (.int (nI 0)))) h)) ∧ (¬ (gi h 36 1) < (nI 5) → (isB (nI 1) ∧ Q (.inl (some (.int (nI 1)))) h)))) :
    MetPM m_X6_isFull [.ref 36] h Q := by
  exact met_of o_X6_isFull (Nat.le_of_ble_eq_true rfl) (fun q => absurd rfl q) (vg_ok k_X6_isFull (stops := []) 60 0 0 _ [] h T)
set_option maxRecDepth 100000 in
set_option maxHeartbeats 4000000 in
theorem t_X6_isFull_41 {h : PH} {Q : Res → PH → Prop}
    (T : (((gi h 41 1) < (nI 12) → (isB (nI 0) ∧ Q (.inl (some (.int (nI 0)))) h)) ∧ (¬ (gi h 41 1) < (nI 12) → (isB (nI 1) ∧ Q (.inl (some (.int (nI 1)))) h)))) :
    MetPM m_X6_isFull [.ref 41] h Q := by
  exact met_of o_X6_isFull (Nat.le_of_ble_eq_true rfl) (fun q => absurd rfl q) (vg_ok k_X6_isFull (stops := []) 60 0 0 _ [] h T)
set_option maxRecDepth 100000 in
set_option maxHeartbeats 4000000 in
theorem t_X6_numberOf_16 {p0 : Int64} {h : PH} {Q : Res → PH → Prop}
    (T : At m_X6_numberOf Q 2 0 [some (.ref 16), some (.long p0), none, some (.int (nI 0))] [] h) :
    MetPM m_X6_numberOf [.ref 16, .long p0] h Q := by
  exact met_of o_X6_numberOf (Nat.le_of_ble_eq_true rfl) (fun q => absurd rfl q) (vg_ok k_X6_numberOf (stops := [2]) 69 0 0 _ [] h T)
set_option maxRecDepth 100000 in
set_option maxHeartbeats 4000000 in
theorem u_X6_numberOf_2_16 {v1 : Int64} {v3 : Int32} {h : PH} {Q : Res → PH → Prop}
    (T : (((gi h 16 1) ≤ v3 → Q (.inl (some (.int (-(nI 1))))) h) ∧ (¬ (gi h 16 1) ≤ v3 → (vp_in v3 8 ∧ ((¬ (lg_cmp (gl h 17 v3.toNatClampNeg) v1) = 0 → At m_X6_numberOf Q 2 0 [some (.ref 16), some (.long v1), none, some (.int (v3 + (nI 1)))] [] h) ∧ ((lg_cmp (gl h 17 v3.toNatClampNeg) v1) = 0 → Q (.inl (some (.int v3))) h)))))) :
    At m_X6_numberOf Q 2 0 [some (.ref 16), some (.long v1), none, some (.int v3)] [] h := by
  exact vg_ok k_X6_numberOf (stops := [2]) 69 2 0 _ _ h T
set_option maxRecDepth 100000 in
set_option maxHeartbeats 4000000 in
theorem t_X6_numberOf_26 {p0 : Int64} {h : PH} {Q : Res → PH → Prop}
    (T : At m_X6_numberOf Q 2 0 [some (.ref 26), some (.long p0), none, some (.int (nI 0))] [] h) :
    MetPM m_X6_numberOf [.ref 26, .long p0] h Q := by
  exact met_of o_X6_numberOf (Nat.le_of_ble_eq_true rfl) (fun q => absurd rfl q) (vg_ok k_X6_numberOf (stops := [2]) 69 0 0 _ [] h T)
set_option maxRecDepth 100000 in
set_option maxHeartbeats 4000000 in
theorem u_X6_numberOf_2_26 {v1 : Int64} {v3 : Int32} {h : PH} {Q : Res → PH → Prop}
    (T : (((gi h 26 1) ≤ v3 → Q (.inl (some (.int (-(nI 1))))) h) ∧ (¬ (gi h 26 1) ≤ v3 → (vp_in v3 12 ∧ ((¬ (lg_cmp (gl h 27 v3.toNatClampNeg) v1) = 0 → At m_X6_numberOf Q 2 0 [some (.ref 26), some (.long v1), none, some (.int (v3 + (nI 1)))] [] h) ∧ ((lg_cmp (gl h 27 v3.toNatClampNeg) v1) = 0 → Q (.inl (some (.int v3))) h)))))) :
    At m_X6_numberOf Q 2 0 [some (.ref 26), some (.long v1), none, some (.int v3)] [] h := by
  exact vg_ok k_X6_numberOf (stops := [2]) 69 2 0 _ _ h T
set_option maxRecDepth 100000 in
set_option maxHeartbeats 4000000 in
theorem t_X6_numberOf_31 {p0 : Int64} {h : PH} {Q : Res → PH → Prop}
    (T : At m_X6_numberOf Q 2 0 [some (.ref 31), some (.long p0), none, some (.int (nI 0))] [] h) :
    MetPM m_X6_numberOf [.ref 31, .long p0] h Q := by
  exact met_of o_X6_numberOf (Nat.le_of_ble_eq_true rfl) (fun q => absurd rfl q) (vg_ok k_X6_numberOf (stops := [2]) 69 0 0 _ [] h T)
set_option maxRecDepth 100000 in
set_option maxHeartbeats 4000000 in
theorem u_X6_numberOf_2_31 {v1 : Int64} {v3 : Int32} {h : PH} {Q : Res → PH → Prop}
    (T : (((gi h 31 1) ≤ v3 → Q (.inl (some (.int (-(nI 1))))) h) ∧ (¬ (gi h 31 1) ≤ v3 → (vp_in v3 8 ∧ ((¬ (lg_cmp (gl h 32 v3.toNatClampNeg) v1) = 0 → At m_X6_numberOf Q 2 0 [some (.ref 31), some (.long v1), none, some (.int (v3 + (nI 1)))] [] h) ∧ ((lg_cmp (gl h 32 v3.toNatClampNeg) v1) = 0 → Q (.inl (some (.int v3))) h)))))) :
    At m_X6_numberOf Q 2 0 [some (.ref 31), some (.long v1), none, some (.int v3)] [] h := by
  exact vg_ok k_X6_numberOf (stops := [2]) 69 2 0 _ _ h T
set_option maxRecDepth 100000 in
set_option maxHeartbeats 4000000 in
theorem t_X6_numberOf_36 {p0 : Int64} {h : PH} {Q : Res → PH → Prop}
    (T : At m_X6_numberOf Q 2 0 [some (.ref 36), some (.long p0), none, some (.int (nI 0))] [] h) :
    MetPM m_X6_numberOf [.ref 36, .long p0] h Q := by
  exact met_of o_X6_numberOf (Nat.le_of_ble_eq_true rfl) (fun q => absurd rfl q) (vg_ok k_X6_numberOf (stops := [2]) 69 0 0 _ [] h T)
set_option maxRecDepth 100000 in
set_option maxHeartbeats 4000000 in
theorem u_X6_numberOf_2_36 {v1 : Int64} {v3 : Int32} {h : PH} {Q : Res → PH → Prop}
    (T : (((gi h 36 1) ≤ v3 → Q (.inl (some (.int (-(nI 1))))) h) ∧ (¬ (gi h 36 1) ≤ v3 → (vp_in v3 5 ∧ ((¬ (lg_cmp (gl h 37 v3.toNatClampNeg) v1) = 0 → At m_X6_numberOf Q 2 0 [some (.ref 36), some (.long v1), none, some (.int (v3 + (nI 1)))] [] h) ∧ ((lg_cmp (gl h 37 v3.toNatClampNeg) v1) = 0 → Q (.inl (some (.int v3))) h)))))) :
    At m_X6_numberOf Q 2 0 [some (.ref 36), some (.long v1), none, some (.int v3)] [] h := by
  exact vg_ok k_X6_numberOf (stops := [2]) 69 2 0 _ _ h T
set_option maxRecDepth 100000 in
set_option maxHeartbeats 4000000 in
theorem t_X6_numberOf_41 {p0 : Int64} {h : PH} {Q : Res → PH → Prop}
    (T : At m_X6_numberOf Q 2 0 [some (.ref 41), some (.long p0), none, some (.int (nI 0))] [] h) :
    MetPM m_X6_numberOf [.ref 41, .long p0] h Q := by
  exact met_of o_X6_numberOf (Nat.le_of_ble_eq_true rfl) (fun q => absurd rfl q) (vg_ok k_X6_numberOf (stops := [2]) 69 0 0 _ [] h T)
set_option maxRecDepth 100000 in
set_option maxHeartbeats 4000000 in
theorem u_X6_numberOf_2_41 {v1 : Int64} {v3 : Int32} {h : PH} {Q : Res → PH → Prop}
    (T : (((gi h 41 1) ≤ v3 → Q (.inl (some (.int (-(nI 1))))) h) ∧ (¬ (gi h 41 1) ≤ v3 → (vp_in v3 12 ∧ ((¬ (lg_cmp (gl h 42 v3.toNatClampNeg) v1) = 0 → At m_X6_numberOf Q 2 0 [some (.ref 41), some (.long v1), none, some (.int (v3 + (nI 1)))] [] h) ∧ ((lg_cmp (gl h 42 v3.toNatClampNeg) v1) = 0 → Q (.inl (some (.int v3))) h)))))) :
    At m_X6_numberOf Q 2 0 [some (.ref 41), some (.long v1), none, some (.int v3)] [] h := by
  exact vg_ok k_X6_numberOf (stops := [2]) 69 2 0 _ _ h T
set_option maxRecDepth 100000 in
set_option maxHeartbeats 4000000 in
theorem t_X6_add_31 {p0 : Int64} {h : PH} {Q : Res → PH → Prop}
    (T : (((nI 8) ≤ (gi h 31 1) → Q (.inl none) h) ∧ (¬ (nI 8) ≤ (gi h 31 1) → (vp_in (gi h 31 1) 8 ∧ (let h1 : PH := (si (sl h 32 (gi h 31 1).toNatClampNeg p0) 31 1 ((gi (sl h 32 (gi h 31 1).toNatClampNeg p0) 31 1) + (nI 1))); Q (.inl none) h1))))) :
    MetPM m_X6_add [.ref 31, .long p0] h Q := by
  exact met_of o_X6_add (Nat.le_of_ble_eq_true rfl) (fun q => absurd rfl q) (vg_ok k_X6_add (stops := []) 69 0 0 _ [] h T)
set_option maxRecDepth 100000 in
set_option maxHeartbeats 4000000 in
theorem t_X6_add_36 {p0 : Int64} {h : PH} {Q : Res → PH → Prop}
    (T : (((nI 5) ≤ (gi h 36 1) → Q (.inl none) h) ∧ (¬ (nI 5) ≤ (gi h 36 1) → (vp_in (gi h 36 1) 5 ∧ (let h1 : PH := (si (sl h 37 (gi h 36 1).toNatClampNeg p0) 36 1 ((gi (sl h 37 (gi h 36 1).toNatClampNeg p0) 36 1) + (nI 1))); Q (.inl none) h1))))) :
    MetPM m_X6_add [.ref 36, .long p0] h Q := by
  exact met_of o_X6_add (Nat.le_of_ble_eq_true rfl) (fun q => absurd rfl q) (vg_ok k_X6_add (stops := []) 69 0 0 _ [] h T)
set_option maxRecDepth 100000 in
set_option maxHeartbeats 4000000 in
theorem t_X6_add_41 {p0 : Int64} {h : PH} {Q : Res → PH → Prop}
    (T : (((nI 12) ≤ (gi h 41 1) → Q (.inl none) h) ∧ (¬ (nI 12) ≤ (gi h 41 1) → (vp_in (gi h 41 1) 12 ∧ (let h1 : PH := (si (sl h 42 (gi h 41 1).toNatClampNeg p0) 41 1 ((gi (sl h 42 (gi h 41 1).toNatClampNeg p0) 41 1) + (nI 1))); Q (.inl none) h1))))) :
    MetPM m_X6_add [.ref 41, .long p0] h Q := by
  exact met_of o_X6_add (Nat.le_of_ble_eq_true rfl) (fun q => absurd rfl q) (vg_ok k_X6_add (stops := []) 69 0 0 _ [] h T)
set_option maxRecDepth 100000 in
set_option maxHeartbeats 4000000 in
theorem t_X5_addVersion {p0 : Int64} {p1 : Int32} {p2 : Int32} {h : PH} {Q : Res → PH → Prop}
    (T : (((nI 8) ≤ (gi h 31 1) → Q (.inl none) h) ∧ (¬ (nI 8) ≤ (gi h 31 1) → MetPM m_X6_add [.ref 31, .long p0] h (rV (hnd Q (At m_X5_addVersion Q) 0 [some (.ref 30), some (.long p0), none, some (.int p1), some (.int p2), some (.int (gi h 31 1))] []) (fun h1 => (vp_in (gi h 31 1) 8 ∧ (vp_in (gi h 31 1) 8 ∧ (vp_in (gi h 31 1) 8 ∧ (let h2 : PH := (si (si (si h1 33 (gi h 31 1).toNatClampNeg p1) 34 (gi h 31 1).toNatClampNeg p2) 35 (gi h 31 1).toNatClampNeg ((nI 1) <<< ((gi h 31 1) &&& 31))); Q (.inl none) h2))))))))) :
    MetPM m_X5_addVersion [.ref 30, .long p0, .int p1, .int p2] h Q := by
  exact met_of o_X5_addVersion (Nat.le_of_ble_eq_true rfl) (fun q => absurd rfl q) (vg_ok k_X5_addVersion (stops := []) 79 0 0 _ [] h T)
set_option maxRecDepth 100000 in
set_option maxHeartbeats 4000000 in
theorem t_X5_talkersOf {a : Nat} (ha : a = 15 ∨ a = 30) {p0 : Int32} {h : PH} {Q : Res → PH → Prop}
    (T : ((p0 < 0 → Q (.inl (some (.int (nI 0)))) h) ∧ (¬ p0 < 0 → (((gi h (a + 1) 1) ≤ p0 → Q (.inl (some (.int (nI 0)))) h) ∧ (¬ (gi h (a + 1) 1) ≤ p0 → (vp_in p0 8 ∧ Q (.inl (some (.int (gi h (a + 5) p0.toNatClampNeg)))) h)))))) :
    MetPM m_X5_talkersOf [.ref a, .int p0] h Q := by
  rcases ha with rfl | rfl
  all_goals exact met_of o_X5_talkersOf (Nat.le_of_ble_eq_true rfl) (fun q => absurd rfl q) (vg_ok k_X5_talkersOf (stops := []) 64 0 0 _ [] h T)
set_option maxRecDepth 100000 in
set_option maxHeartbeats 4000000 in
theorem t_X11_isIn {p0 : Int32} {p1 : Int32} {h : PH} {Q : Res → PH → Prop}
    (T : ((((p0 >>> (p1 &&& 31)) &&& (nI 1)) = 0 → (isB (nI 0) ∧ Q (.inl (some (.int (nI 0)))) h)) ∧ (¬ ((p0 >>> (p1 &&& 31)) &&& (nI 1)) = 0 → (isB (nI 1) ∧ Q (.inl (some (.int (nI 1)))) h)))) :
    MetPM m_X11_isIn [.int p0, .int p1] h Q := by
  exact met_of o_X11_isIn (Nat.le_of_ble_eq_true rfl) (fun q => absurd rfl q) (vg_ok k_X11_isIn (stops := []) 60 0 0 _ [] h T)
set_option maxRecDepth 100000 in
set_option maxHeartbeats 4000000 in
theorem t_X5_addTalk {p0 : Int32} {p1 : Int32} {h : PH} {Q : Res → PH → Prop}
    (T : (vp_in p0 8 ∧ (vp_in p0 8 ∧ (vp_in p1 8 ∧ (let y1 : Int32 := (gi (si h 35 p0.toNatClampNeg ((gi h 35 p0.toNatClampNeg) ||| ((nI 1) <<< (p1 &&& 31)))) 35 p1.toNatClampNeg); (vp_in p1 8 ∧ (let h2 : PH := (si (si h 35 p0.toNatClampNeg ((gi h 35 p0.toNatClampNeg) ||| ((nI 1) <<< (p1 &&& 31)))) 35 p1.toNatClampNeg (y1 ||| ((nI 1) <<< (p0 &&& 31)))); Q (.inl none) h2))))))) :
    MetPM m_X5_addTalk [.ref 30, .int p0, .int p1] h Q := by
  exact met_of o_X5_addTalk (Nat.le_of_ble_eq_true rfl) (fun q => absurd rfl q) (vg_ok k_X5_addTalk (stops := []) 71 0 0 _ [] h T)
set_option maxRecDepth 100000 in
set_option maxHeartbeats 4000000 in
theorem t_X5_addPlace {p0 : Int64} {h : PH} {Q : Res → PH → Prop}
    (T : (((nI 5) ≤ (gi h 36 1) → Q (.inl none) h) ∧ (¬ (nI 5) ≤ (gi h 36 1) → MetPM m_X6_add [.ref 36, .long p0] h (rV (hnd Q (At m_X5_addPlace Q) 0 [some (.ref 30), some (.long p0), none, some (.int (gi h 36 1))] []) (fun h1 => (vp_in (gi h 36 1) 5 ∧ (vp_in (gi h 36 1) 5 ∧ Q (.inl none) (si (si h1 38 (gi h 36 1).toNatClampNeg (-(nI 1))) 39 (gi h 36 1).toNatClampNeg (nI 0))))))))) :
    MetPM m_X5_addPlace [.ref 30, .long p0] h Q := by
  exact met_of o_X5_addPlace (Nat.le_of_ble_eq_true rfl) (fun q => absurd rfl q) (vg_ok k_X5_addPlace (stops := []) 72 0 0 _ [] h T)
set_option maxRecDepth 100000 in
set_option maxHeartbeats 4000000 in
theorem t_X5_isReader {a : Nat} (ha : a = 15 ∨ a = 30) {p0 : Int32} {p1 : Int32} {h : PH} {Q : Res → PH → Prop}
    (T : ((p0 < 0 → (isB (nI 0) ∧ Q (.inl (some (.int (nI 0)))) h)) ∧ (¬ p0 < 0 → (((gi h (a + 1) 1) ≤ p0 → (isB (nI 0) ∧ Q (.inl (some (.int (nI 0)))) h)) ∧ (¬ (gi h (a + 1) 1) ≤ p0 → (vp_in p0 8 ∧ ((p1 < (gi h (a + 3) p0.toNatClampNeg) → (isB (nI 0) ∧ Q (.inl (some (.int (nI 0)))) h)) ∧ (¬ p1 < (gi h (a + 3) p0.toNatClampNeg) → (vp_in p0 8 ∧ (((gi h (a + 4) p0.toNatClampNeg) < p1 → (isB (nI 0) ∧ Q (.inl (some (.int (nI 0)))) h)) ∧ (¬ (gi h (a + 4) p0.toNatClampNeg) < p1 → (isB (nI 1) ∧ Q (.inl (some (.int (nI 1)))) h)))))))))))) :
    MetPM m_X5_isReader [.ref a, .int p0, .int p1] h Q := by
  rcases ha with rfl | rfl
  all_goals exact met_of o_X5_isReader (Nat.le_of_ble_eq_true rfl) (fun q => absurd rfl q) (vg_ok k_X5_isReader (stops := []) 73 0 0 _ [] h T)
set_option maxRecDepth 100000 in
set_option maxHeartbeats 4000000 in
theorem t_X5_join {p0 : Int32} {p1 : Int32} {h : PH} {Q : Res → PH → Prop}
    (T : (vp_in p0 12 ∧ (vp_in p0 12 ∧ (vp_in p1 12 ∧ (let y1 : Int32 := (gi (si h 44 p0.toNatClampNeg ((gi h 44 p0.toNatClampNeg) ||| ((nI 1) <<< (p1 &&& 31)))) 44 p1.toNatClampNeg); (vp_in p1 12 ∧ (let h2 : PH := (si (si h 44 p0.toNatClampNeg ((gi h 44 p0.toNatClampNeg) ||| ((nI 1) <<< (p1 &&& 31)))) 44 p1.toNatClampNeg (y1 ||| ((nI 1) <<< (p0 &&& 31)))); Q (.inl none) h2))))))) :
    MetPM m_X5_join [.ref 30, .int p0, .int p1] h Q := by
  exact met_of o_X5_join (Nat.le_of_ble_eq_true rfl) (fun q => absurd rfl q) (vg_ok k_X5_join (stops := []) 71 0 0 _ [] h T)
set_option maxRecDepth 100000 in
set_option maxHeartbeats 4000000 in
theorem t_X5_addMember {p0 : Int64} {p1 : Int32} {h : PH} {Q : Res → PH → Prop}
    (T : (((gi h 41 1) < (nI 12) → MetPM m_X6_add [.ref 41, .long p0] h (rV (hnd Q (At m_X5_addMember Q) 0 [some (.ref 30), some (.long p0), none, some (.int p1), some (.int (gi h 41 1)), none] []) (fun h1 => (vp_in (gi h 41 1) 12 ∧ (vp_in (gi h 41 1) 12 ∧ At m_X5_addMember Q 44 0 [some (.ref 30), some (.long p0), none, some (.int p1), some (.int (gi h 41 1)), some (.int (nI 0))] [] (si (si h1 43 (gi h 41 1).toNatClampNeg p1) 44 (gi h 41 1).toNatClampNeg (nI 0))))))) ∧ (¬ (gi h 41 1) < (nI 12) → Q (.inl none) h))) :
    MetPM m_X5_addMember [.ref 30, .long p0, .int p1] h Q := by
  exact met_of o_X5_addMember (Nat.le_of_ble_eq_true rfl) (fun q => absurd rfl q) (vg_ok k_X5_addMember (stops := [44, 70, 125]) 121 0 0 _ [] h T)
set_option maxRecDepth 100000 in
set_option maxHeartbeats 4000000 in
theorem u_X5_addMember_44 {v1 : Int64} {v3 : Int32} {v4 : Int32} {v5 : Int32} {h : PH} {Q : Res → PH → Prop}
    (T : ((v4 ≤ v5 → (vp_in v3 5 ∧ (vp_in v3 5 ∧ (vp_in v3 5 ∧ (let y1 : Int32 := (gi (si h 39 v3.toNatClampNeg ((gi h 39 v3.toNatClampNeg) ||| ((nI 1) <<< (v4 &&& 31)))) 38 v3.toNatClampNeg); ((y1 < 0 → At m_X5_addMember Q 125 0 [some (.ref 30), some (.long v1), none, some (.int v3), some (.int v4), some (.int y1)] [] (si h 39 v3.toNatClampNeg ((gi h 39 v3.toNatClampNeg) ||| ((nI 1) <<< (v4 &&& 31))))) ∧ (¬ y1 < 0 → (let y2 : Int32 := (gi (si h 39 v3.toNatClampNeg ((gi h 39 v3.toNatClampNeg) ||| ((nI 1) <<< (v4 &&& 31)))) 30 12); ((y2 ≤ y1 → At m_X5_addMember Q 125 0 [some (.ref 30), some (.long v1), none, some (.int v3), some (.int v4), some (.int y1)] [] (si h 39 v3.toNatClampNeg ((gi h 39 v3.toNatClampNeg) ||| ((nI 1) <<< (v4 &&& 31))))) ∧ (¬ y2 ≤ y1 → (vp_in y1 5 ∧ (let y3 : Int32 := (gi (si h 39 v3.toNatClampNeg ((gi h 39 v3.toNatClampNeg) ||| ((nI 1) <<< (v4 &&& 31)))) 40 y1.toNatClampNeg); (vp_in y1 5 ∧ (let h4 : PH := (si (si h 39 v3.toNatClampNeg ((gi h 39 v3.toNatClampNeg) ||| ((nI 1) <<< (v4 &&& 31)))) 40 y1.toNatClampNeg (y3 ||| ((nI 1) <<< (v4 &&& 31)))); At m_X5_addMember Q 125 0 [some (.ref 30), some (.long v1), none, some (.int v3), some (.int v4), some (.int y1)] [] h4)))))))))))))) ∧ (¬ v4 ≤ v5 → (vp_in v5 12 ∧ ((¬ (gi h 43 v5.toNatClampNeg) = v3 → At m_X5_addMember Q 70 0 [some (.ref 30), some (.long v1), none, some (.int v3), some (.int v4), some (.int v5)] [] h) ∧ ((gi h 43 v5.toNatClampNeg) = v3 → MetPM m_X5_join [.ref 30, .int v4, .int v5] h (rV (hnd Q (At m_X5_addMember Q) 0 [some (.ref 30), some (.long v1), none, some (.int v3), some (.int v4), some (.int v5)] []) (fun h5 => At m_X5_addMember Q 70 0 [some (.ref 30), some (.long v1), none, some (.int v3), some (.int v4), some (.int v5)] [] h5)))))))) :
    At m_X5_addMember Q 44 0 [some (.ref 30), some (.long v1), none, some (.int v3), some (.int v4), some (.int v5)] [] h := by
  exact vg_ok k_X5_addMember (stops := [44, 70, 125]) 121 44 0 _ _ h T
set_option maxRecDepth 100000 in
set_option maxHeartbeats 4000000 in
theorem u_X5_addMember_70 {v1 : Int64} {v3 : Int32} {v4 : Int32} {v5 : Int32} {h : PH} {Q : Res → PH → Prop}
    (T : At m_X5_addMember Q 44 0 [some (.ref 30), some (.long v1), none, some (.int v3), some (.int v4), some (.int (v5 + (nI 1)))] [] h) :
    At m_X5_addMember Q 70 0 [some (.ref 30), some (.long v1), none, some (.int v3), some (.int v4), some (.int v5)] [] h := by
  exact vg_ok k_X5_addMember (stops := [44, 70, 125]) 121 70 0 _ _ h T
set_option maxRecDepth 100000 in
set_option maxHeartbeats 4000000 in
theorem u_X5_addMember_125 {v1 : Int64} {v3 : Int32} {v4 : Int32} {v5 : Int32} {h : PH} {Q : Res → PH → Prop}
    (T : Q (.inl none) h) :
    At m_X5_addMember Q 125 0 [some (.ref 30), some (.long v1), none, some (.int v3), some (.int v4), some (.int v5)] [] h := by
  exact vg_ok k_X5_addMember (stops := [44, 70, 125]) 121 125 0 _ _ h T
set_option maxRecDepth 100000 in
set_option maxHeartbeats 4000000 in
theorem t_X5_addLink {p0 : Int32} {p1 : Int32} {h : PH} {Q : Res → PH → Prop}
    (T : MetPM m_X5_join [.ref 30, .int p0, .int p1] h (rV (hnd Q (At m_X5_addLink Q) 0 [some (.ref 30), some (.int p0), some (.int p1)] []) (fun h1 => Q (.inl none) (si h1 30 11 ((gi h1 30 11) + (nI 1)))))) :
    MetPM m_X5_addLink [.ref 30, .int p0, .int p1] h Q := by
  exact met_of o_X5_addLink (Nat.le_of_ble_eq_true rfl) (fun q => absurd rfl q) (vg_ok k_X5_addLink (stops := []) 61 0 0 _ [] h T)
set_option maxRecDepth 100000 in
set_option maxHeartbeats 4000000 in
theorem t_X5_addWave {h : PH} {Q : Res → PH → Prop}
    (T : (((nI 5) ≤ (gi h 30 12) → Q (.inl none) h) ∧ (¬ (nI 5) ≤ (gi h 30 12) → (vp_in (gi h 30 12) 5 ∧ (let h1 : PH := (si (si h 40 (gi h 30 12).toNatClampNeg (nI 0)) 30 12 ((gi (si h 40 (gi h 30 12).toNatClampNeg (nI 0)) 30 12) + (nI 1))); Q (.inl none) h1))))) :
    MetPM m_X5_addWave [.ref 30] h Q := by
  exact met_of o_X5_addWave (Nat.le_of_ble_eq_true rfl) (fun q => absurd rfl q) (vg_ok k_X5_addWave (stops := []) 67 0 0 _ [] h T)
set_option maxRecDepth 100000 in
set_option maxHeartbeats 4000000 in
theorem t_X5_addToWave {p0 : Int32} {p1 : Int32} {h : PH} {Q : Res → PH → Prop}
    (T : (vp_in p0 5 ∧ (vp_in p1 5 ∧ (vp_in p0 5 ∧ (let y1 : Int32 := ((gi (si h 38 p0.toNatClampNeg p1) 40 p1.toNatClampNeg) ||| (gi (si h 38 p0.toNatClampNeg p1) 39 p0.toNatClampNeg)); (vp_in p1 5 ∧ Q (.inl none) (si (si h 38 p0.toNatClampNeg p1) 40 p1.toNatClampNeg y1))))))) :
    MetPM m_X5_addToWave [.ref 30, .int p0, .int p1] h Q := by
  exact met_of o_X5_addToWave (Nat.le_of_ble_eq_true rfl) (fun q => absurd rfl q) (vg_ok k_X5_addToWave (stops := []) 67 0 0 _ [] h T)
set_option maxRecDepth 100000 in
set_option maxHeartbeats 4000000 in
theorem t_X6_copyFrom_16_31 {h : PH} {Q : Res → PH → Prop}
    (T : ((¬ (nI 0) < 0 ∧ ¬ (nI 0) < 0 ∧ ¬ (if (nI 8) < (nI 8) then (nI 8) else (nI 8)) < 0 ∧ (nI 0).toNatClampNeg + (if (nI 8) < (nI 8) then (nI 8) else (nI 8)).toNatClampNeg ≤ 8 ∧ (nI 0).toNatClampNeg + (if (nI 8) < (nI 8) then (nI 8) else (nI 8)).toNatClampNeg ≤ 8) ∧ (let h1 : PH := (cpl h 32 (nI 0).toNatClampNeg 17 (nI 0).toNatClampNeg (if (nI 8) < (nI 8) then (nI 8) else (nI 8)).toNatClampNeg); Q (.inl none) (si h1 16 1 (gi h1 31 1))))) :
    MetPM m_X6_copyFrom [.ref 16, .ref 31] h Q := by
  exact met_of o_X6_copyFrom (Nat.le_of_ble_eq_true rfl) (fun q => absurd rfl q) (vg_ok k_X6_copyFrom (stops := []) 69 0 0 _ [] h T)
set_option maxRecDepth 100000 in
set_option maxHeartbeats 4000000 in
theorem t_X6_copyFrom_21_36 {h : PH} {Q : Res → PH → Prop}
    (T : ((¬ (nI 0) < 0 ∧ ¬ (nI 0) < 0 ∧ ¬ (if (nI 5) < (nI 5) then (nI 5) else (nI 5)) < 0 ∧ (nI 0).toNatClampNeg + (if (nI 5) < (nI 5) then (nI 5) else (nI 5)).toNatClampNeg ≤ 5 ∧ (nI 0).toNatClampNeg + (if (nI 5) < (nI 5) then (nI 5) else (nI 5)).toNatClampNeg ≤ 5) ∧ (let h1 : PH := (cpl h 37 (nI 0).toNatClampNeg 22 (nI 0).toNatClampNeg (if (nI 5) < (nI 5) then (nI 5) else (nI 5)).toNatClampNeg); Q (.inl none) (si h1 21 1 (gi h1 36 1))))) :
    MetPM m_X6_copyFrom [.ref 21, .ref 36] h Q := by
  exact met_of o_X6_copyFrom (Nat.le_of_ble_eq_true rfl) (fun q => absurd rfl q) (vg_ok k_X6_copyFrom (stops := []) 69 0 0 _ [] h T)
set_option maxRecDepth 100000 in
set_option maxHeartbeats 4000000 in
theorem t_X6_copyFrom_26_41 {h : PH} {Q : Res → PH → Prop}
    (T : ((¬ (nI 0) < 0 ∧ ¬ (nI 0) < 0 ∧ ¬ (if (nI 12) < (nI 12) then (nI 12) else (nI 12)) < 0 ∧ (nI 0).toNatClampNeg + (if (nI 12) < (nI 12) then (nI 12) else (nI 12)).toNatClampNeg ≤ 12 ∧ (nI 0).toNatClampNeg + (if (nI 12) < (nI 12) then (nI 12) else (nI 12)).toNatClampNeg ≤ 12) ∧ (let h1 : PH := (cpl h 42 (nI 0).toNatClampNeg 27 (nI 0).toNatClampNeg (if (nI 12) < (nI 12) then (nI 12) else (nI 12)).toNatClampNeg); Q (.inl none) (si h1 26 1 (gi h1 41 1))))) :
    MetPM m_X6_copyFrom [.ref 26, .ref 41] h Q := by
  exact met_of o_X6_copyFrom (Nat.le_of_ble_eq_true rfl) (fun q => absurd rfl q) (vg_ok k_X6_copyFrom (stops := []) 69 0 0 _ [] h T)
set_option maxRecDepth 100000 in
set_option maxHeartbeats 4000000 in
theorem t_X6_copyFrom_46_16 {h : PH} {Q : Res → PH → Prop}
    (T : ((¬ (nI 0) < 0 ∧ ¬ (nI 0) < 0 ∧ ¬ (if (nI 8) < (nI 8) then (nI 8) else (nI 8)) < 0 ∧ (nI 0).toNatClampNeg + (if (nI 8) < (nI 8) then (nI 8) else (nI 8)).toNatClampNeg ≤ 8 ∧ (nI 0).toNatClampNeg + (if (nI 8) < (nI 8) then (nI 8) else (nI 8)).toNatClampNeg ≤ 8) ∧ (let h1 : PH := (cpl h 17 (nI 0).toNatClampNeg 47 (nI 0).toNatClampNeg (if (nI 8) < (nI 8) then (nI 8) else (nI 8)).toNatClampNeg); Q (.inl none) (si h1 46 1 (gi h1 16 1))))) :
    MetPM m_X6_copyFrom [.ref 46, .ref 16] h Q := by
  exact met_of o_X6_copyFrom (Nat.le_of_ble_eq_true rfl) (fun q => absurd rfl q) (vg_ok k_X6_copyFrom (stops := []) 69 0 0 _ [] h T)
set_option maxRecDepth 100000 in
set_option maxHeartbeats 4000000 in
theorem t_X6_copyFrom_51_21 {h : PH} {Q : Res → PH → Prop}
    (T : ((¬ (nI 0) < 0 ∧ ¬ (nI 0) < 0 ∧ ¬ (if (nI 5) < (nI 5) then (nI 5) else (nI 5)) < 0 ∧ (nI 0).toNatClampNeg + (if (nI 5) < (nI 5) then (nI 5) else (nI 5)).toNatClampNeg ≤ 5 ∧ (nI 0).toNatClampNeg + (if (nI 5) < (nI 5) then (nI 5) else (nI 5)).toNatClampNeg ≤ 5) ∧ (let h1 : PH := (cpl h 22 (nI 0).toNatClampNeg 52 (nI 0).toNatClampNeg (if (nI 5) < (nI 5) then (nI 5) else (nI 5)).toNatClampNeg); Q (.inl none) (si h1 51 1 (gi h1 21 1))))) :
    MetPM m_X6_copyFrom [.ref 51, .ref 21] h Q := by
  exact met_of o_X6_copyFrom (Nat.le_of_ble_eq_true rfl) (fun q => absurd rfl q) (vg_ok k_X6_copyFrom (stops := []) 69 0 0 _ [] h T)
set_option maxRecDepth 100000 in
set_option maxHeartbeats 4000000 in
theorem t_X6_copyFrom_56_26 {h : PH} {Q : Res → PH → Prop}
    (T : ((¬ (nI 0) < 0 ∧ ¬ (nI 0) < 0 ∧ ¬ (if (nI 12) < (nI 12) then (nI 12) else (nI 12)) < 0 ∧ (nI 0).toNatClampNeg + (if (nI 12) < (nI 12) then (nI 12) else (nI 12)).toNatClampNeg ≤ 12 ∧ (nI 0).toNatClampNeg + (if (nI 12) < (nI 12) then (nI 12) else (nI 12)).toNatClampNeg ≤ 12) ∧ (let h1 : PH := (cpl h 27 (nI 0).toNatClampNeg 57 (nI 0).toNatClampNeg (if (nI 12) < (nI 12) then (nI 12) else (nI 12)).toNatClampNeg); Q (.inl none) (si h1 56 1 (gi h1 26 1))))) :
    MetPM m_X6_copyFrom [.ref 56, .ref 26] h Q := by
  exact met_of o_X6_copyFrom (Nat.le_of_ble_eq_true rfl) (fun q => absurd rfl q) (vg_ok k_X6_copyFrom (stops := []) 69 0 0 _ [] h T)
set_option maxRecDepth 100000 in
set_option maxHeartbeats 4000000 in
theorem t_X6_copyFrom_16_46 {h : PH} {Q : Res → PH → Prop}
    (T : ((¬ (nI 0) < 0 ∧ ¬ (nI 0) < 0 ∧ ¬ (if (nI 8) < (nI 8) then (nI 8) else (nI 8)) < 0 ∧ (nI 0).toNatClampNeg + (if (nI 8) < (nI 8) then (nI 8) else (nI 8)).toNatClampNeg ≤ 8 ∧ (nI 0).toNatClampNeg + (if (nI 8) < (nI 8) then (nI 8) else (nI 8)).toNatClampNeg ≤ 8) ∧ (let h1 : PH := (cpl h 47 (nI 0).toNatClampNeg 17 (nI 0).toNatClampNeg (if (nI 8) < (nI 8) then (nI 8) else (nI 8)).toNatClampNeg); Q (.inl none) (si h1 16 1 (gi h1 46 1))))) :
    MetPM m_X6_copyFrom [.ref 16, .ref 46] h Q := by
  exact met_of o_X6_copyFrom (Nat.le_of_ble_eq_true rfl) (fun q => absurd rfl q) (vg_ok k_X6_copyFrom (stops := []) 69 0 0 _ [] h T)
set_option maxRecDepth 100000 in
set_option maxHeartbeats 4000000 in
theorem t_X6_copyFrom_21_51 {h : PH} {Q : Res → PH → Prop}
    (T : ((¬ (nI 0) < 0 ∧ ¬ (nI 0) < 0 ∧ ¬ (if (nI 5) < (nI 5) then (nI 5) else (nI 5)) < 0 ∧ (nI 0).toNatClampNeg + (if (nI 5) < (nI 5) then (nI 5) else (nI 5)).toNatClampNeg ≤ 5 ∧ (nI 0).toNatClampNeg + (if (nI 5) < (nI 5) then (nI 5) else (nI 5)).toNatClampNeg ≤ 5) ∧ (let h1 : PH := (cpl h 52 (nI 0).toNatClampNeg 22 (nI 0).toNatClampNeg (if (nI 5) < (nI 5) then (nI 5) else (nI 5)).toNatClampNeg); Q (.inl none) (si h1 21 1 (gi h1 51 1))))) :
    MetPM m_X6_copyFrom [.ref 21, .ref 51] h Q := by
  exact met_of o_X6_copyFrom (Nat.le_of_ble_eq_true rfl) (fun q => absurd rfl q) (vg_ok k_X6_copyFrom (stops := []) 69 0 0 _ [] h T)
set_option maxRecDepth 100000 in
set_option maxHeartbeats 4000000 in
theorem t_X6_copyFrom_26_56 {h : PH} {Q : Res → PH → Prop}
    (T : ((¬ (nI 0) < 0 ∧ ¬ (nI 0) < 0 ∧ ¬ (if (nI 12) < (nI 12) then (nI 12) else (nI 12)) < 0 ∧ (nI 0).toNatClampNeg + (if (nI 12) < (nI 12) then (nI 12) else (nI 12)).toNatClampNeg ≤ 12 ∧ (nI 0).toNatClampNeg + (if (nI 12) < (nI 12) then (nI 12) else (nI 12)).toNatClampNeg ≤ 12) ∧ (let h1 : PH := (cpl h 57 (nI 0).toNatClampNeg 27 (nI 0).toNatClampNeg (if (nI 12) < (nI 12) then (nI 12) else (nI 12)).toNatClampNeg); Q (.inl none) (si h1 26 1 (gi h1 56 1))))) :
    MetPM m_X6_copyFrom [.ref 26, .ref 56] h Q := by
  exact met_of o_X6_copyFrom (Nat.le_of_ble_eq_true rfl) (fun q => absurd rfl q) (vg_ok k_X6_copyFrom (stops := []) 69 0 0 _ [] h T)
set_option maxRecDepth 100000 in
set_option maxHeartbeats 4000000 in
theorem t_X5_copyFrom {a b0 : Nat} (hab : (a = 15 ∧ b0 = 30) ∨ (a = 45 ∧ b0 = 15) ∨ (a = 15 ∧ b0 = 45)) {h : PH} {Q : Res → PH → Prop}
    (T : MetPM m_X6_copyFrom [.ref (a + 1), .ref (b0 + 1)] h (rV (hnd Q (At m_X5_copyFrom Q) 0 [some (.ref a), some (.ref b0)] []) (fun h1 => MetPM m_X11_copyRow [.ref (b0 + 3), .ref (a + 3)] h1 (rV (hnd Q (At m_X5_copyFrom Q) 0 [some (.ref a), some (.ref b0)] []) (fun h2 => MetPM m_X11_copyRow [.ref (b0 + 4), .ref (a + 4)] h2 (rV (hnd Q (At m_X5_copyFrom Q) 0 [some (.ref a), some (.ref b0)] []) (fun h3 => MetPM m_X11_copyRow [.ref (b0 + 5), .ref (a + 5)] h3 (rV (hnd Q (At m_X5_copyFrom Q) 0 [some (.ref a), some (.ref b0)] []) (fun h4 => MetPM m_X6_copyFrom [.ref (a + 6), .ref (b0 + 6)] h4 (rV (hnd Q (At m_X5_copyFrom Q) 0 [some (.ref a), some (.ref b0)] []) (fun h5 => MetPM m_X11_copyRow [.ref (b0 + 8), .ref (a + 8)] h5 (rV (hnd Q (At m_X5_copyFrom Q) 0 [some (.ref a), some (.ref b0)] []) (fun h6 => MetPM m_X11_copyRow [.ref (b0 + 9), .ref (a + 9)] h6 (rV (hnd Q (At m_X5_copyFrom Q) 0 [some (.ref a), some (.ref b0)] []) (fun h7 => MetPM m_X11_copyRow [.ref (b0 + 10), .ref (a + 10)] h7 (rV (hnd Q (At m_X5_copyFrom Q) 0 [some (.ref a), some (.ref b0)] []) (fun h8 => MetPM m_X6_copyFrom [.ref (a + 11), .ref (b0 + 11)] h8 (rV (hnd Q (At m_X5_copyFrom Q) 0 [some (.ref a), some (.ref b0)] []) (fun h9 => MetPM m_X11_copyRow [.ref (b0 + 13), .ref (a + 13)] h9 (rV (hnd Q (At m_X5_copyFrom Q) 0 [some (.ref a), some (.ref b0)] []) (fun h10 => MetPM m_X11_copyRow [.ref (b0 + 14), .ref (a + 14)] h10 (rV (hnd Q (At m_X5_copyFrom Q) 0 [some (.ref a), some (.ref b0)] []) (fun h11 => (let h12 : PH := (si (si (si h11 a 11 (gi h11 b0 11)) a 12 (gi (si h11 a 11 (gi h11 b0 11)) b0 12)) a 13 (gi (si (si h11 a 11 (gi h11 b0 11)) a 12 (gi (si h11 a 11 (gi h11 b0 11)) b0 12)) b0 13)); (let h13 : PH := (si (si (si h12 a 14 (gi h12 b0 14)) a 15 (gi (si h12 a 14 (gi h12 b0 14)) b0 15)) a 16 (gi (si (si h12 a 14 (gi h12 b0 14)) a 15 (gi (si h12 a 14 (gi h12 b0 14)) b0 15)) b0 16)); Q (.inl none) (si h13 a 17 (gi h13 b0 17))))))))))))))))))))))))))) :
    MetPM m_X5_copyFrom [.ref a, .ref b0] h Q := by
  rcases hab with ⟨rfl, rfl⟩ | ⟨rfl, rfl⟩ | ⟨rfl, rfl⟩
  all_goals exact met_of o_X5_copyFrom (Nat.le_of_ble_eq_true rfl) (fun q => absurd rfl q) (vg_ok k_X5_copyFrom (stops := []) 134 0 0 _ [] h T)
set_option maxRecDepth 100000 in
set_option maxHeartbeats 4000000 in
theorem t_X3_copyFrom {a b0 : Nat} (hab : (a = 72 ∧ b0 = 65) ∨ (a = 65 ∧ b0 = 79) ∨ (a = 86 ∧ b0 = 65) ∨ (a = 65 ∧ b0 = 86) ∨ (a = 93 ∧ b0 = 65) ∨ (a = 100 ∧ b0 = 65) ∨ (a = 107 ∧ b0 = 65) ∨ (a = 114 ∧ b0 = 65) ∨ (a = 121 ∧ b0 = 65) ∨ (a = 128 ∧ b0 = 65) ∨ (a = 65 ∧ b0 = 93) ∨ (a = 65 ∧ b0 = 100) ∨ (a = 65 ∧ b0 = 107) ∨ (a = 65 ∧ b0 = 114) ∨ (a = 65 ∧ b0 = 121) ∨ (a = 65 ∧ b0 = 128)) {h : PH} {Q : Res → PH → Prop}
    (T : MetPM m_X11_copyRow [.ref (b0 + 1), .ref (a + 1)] h (rV (hnd Q (At m_X3_copyFrom Q) 0 [some (.ref a), some (.ref b0)] []) (fun h1 => Q (.inl none) (si (si h1 a 1 (gi h1 b0 1)) a 2 (gi (si h1 a 1 (gi h1 b0 1)) b0 2))))) :
    MetPM m_X3_copyFrom [.ref a, .ref b0] h Q := by
  rcases hab with ⟨rfl, rfl⟩ | ⟨rfl, rfl⟩ | ⟨rfl, rfl⟩ | ⟨rfl, rfl⟩ | ⟨rfl, rfl⟩ | ⟨rfl, rfl⟩ | ⟨rfl, rfl⟩ | ⟨rfl, rfl⟩ | ⟨rfl, rfl⟩ | ⟨rfl, rfl⟩ | ⟨rfl, rfl⟩ | ⟨rfl, rfl⟩ | ⟨rfl, rfl⟩ | ⟨rfl, rfl⟩ | ⟨rfl, rfl⟩ | ⟨rfl, rfl⟩
  all_goals exact met_of o_X3_copyFrom (Nat.le_of_ble_eq_true rfl) (fun q => absurd rfl q) (vg_ok k_X3_copyFrom (stops := []) 64 0 0 _ [] h T)
set_option maxRecDepth 100000 in
set_option maxHeartbeats 4000000 in
theorem t_X5_numberOf {p0 : Int32} {h : PH} {Q : Res → PH → Prop}
    (T : (((∀ j : Nat, 0 ≤ j → j < 11 → ¬ p0 = nI j) → Q (.inl (some (.int (-(nI 1))))) h) ∧ (p0 = nI 0 → Q (.inl (some (.int (gi h 16 1)))) h) ∧ (p0 = nI 1 → Q (.inl (some (.int (gi h 21 1)))) h) ∧ (p0 = nI 2 → Q (.inl (some (.int (gi h 26 1)))) h) ∧ (p0 = nI 3 → Q (.inl (some (.int (gi h 15 12)))) h) ∧ (p0 = nI 4 → Q (.inl (some (.int (gi h 15 11)))) h) ∧ (p0 = nI 5 → Q (.inl (some (.int (-(nI 1))))) h) ∧ (p0 = nI 6 → Q (.inl (some (.int (gi h 15 13)))) h) ∧ (p0 = nI 7 → Q (.inl (some (.int (gi h 15 14)))) h) ∧ (p0 = nI 8 → Q (.inl (some (.int (gi h 15 15)))) h) ∧ (p0 = nI 9 → Q (.inl (some (.int (gi h 15 16)))) h) ∧ (p0 = nI 10 → Q (.inl (some (.int (gi h 15 17)))) h) ∧ True)) :
    MetPM m_X5_numberOf [.ref 15, .int p0] h Q := by
  exact met_of o_X5_numberOf (Nat.le_of_ble_eq_true rfl) (fun q => absurd rfl q) (vg_ok k_X5_numberOf (stops := []) 87 0 0 _ [] h T)
set_option maxRecDepth 100000 in
set_option maxHeartbeats 4000000 in
theorem t_X11_needFormat {p0 : Int32} {h : PH} {Q : Res → PH → Prop}
    (T : ((p0 < (nI 1) → (0 + 1 ≤ m_X11_needFormat.cap ∧ Q (.inr 1) h)) ∧ (¬ p0 < (nI 1) → ((p0 ≤ (nI 9) → Q (.inl none) h) ∧ (¬ p0 ≤ (nI 9) → (0 + 1 ≤ m_X11_needFormat.cap ∧ Q (.inr 1) h)))))) :
    MetPM m_X11_needFormat [.int p0] h Q := by
  exact met_of o_X11_needFormat (Nat.le_of_ble_eq_true rfl) (fun q => absurd rfl q) (vg_ok k_X11_needFormat (stops := []) 61 0 0 _ [] h T)
set_option maxRecDepth 100000 in
set_option maxHeartbeats 4000000 in
theorem t_X5_readersOf {p0 : Int32} {h : PH} {Q : Res → PH → Prop}
    (T : At m_X5_readersOf Q 4 0 [some (.ref 15), some (.int p0), some (.int (nI 0)), some (.int (nI 0))] [] h) :
    MetPM m_X5_readersOf [.ref 15, .int p0] h Q := by
  exact met_of o_X5_readersOf (Nat.le_of_ble_eq_true rfl) (fun q => absurd rfl q) (vg_ok k_X5_readersOf (stops := [4]) 74 0 0 _ [] h T)
set_option maxRecDepth 100000 in
set_option maxHeartbeats 4000000 in
theorem u_X5_readersOf_4 {v1 : Int32} {v2 : Int32} {v3 : Int32} {h : PH} {Q : Res → PH → Prop}
    (T : (((gi h 16 1) ≤ v3 → Q (.inl (some (.int v2))) h) ∧ (¬ (gi h 16 1) ≤ v3 → MetPM m_X5_isReader [.ref 15, .int v3, .int v1] h (rI (hnd Q (At m_X5_readersOf Q) 0 [some (.ref 15), some (.int v1), some (.int v2), some (.int v3)] []) (fun x2 h1 => ((x2 = 0 → At m_X5_readersOf Q 4 0 [some (.ref 15), some (.int v1), some (.int v2), some (.int (v3 + (nI 1)))] [] h1) ∧ (¬ x2 = 0 → At m_X5_readersOf Q 4 0 [some (.ref 15), some (.int v1), some (.int (v2 ||| ((nI 1) <<< (v3 &&& 31)))), some (.int (v3 + (nI 1)))] [] h1))))))) :
    At m_X5_readersOf Q 4 0 [some (.ref 15), some (.int v1), some (.int v2), some (.int v3)] [] h := by
  exact vg_ok k_X5_readersOf (stops := [4]) 74 4 0 _ _ h T
set_option maxRecDepth 100000 in
set_option maxHeartbeats 4000000 in
theorem t_X5_waveOf {p0 : Int32} {h : PH} {Q : Res → PH → Prop}
    (T : (vp_in p0 12 ∧ (((gi h 28 p0.toNatClampNeg) < 0 → Q (.inl (some (.int (-(nI 1))))) h) ∧ (¬ (gi h 28 p0.toNatClampNeg) < 0 → (((gi h 21 1) ≤ (gi h 28 p0.toNatClampNeg) → Q (.inl (some (.int (-(nI 1))))) h) ∧ (¬ (gi h 21 1) ≤ (gi h 28 p0.toNatClampNeg) → (vp_in (gi h 28 p0.toNatClampNeg) 5 ∧ Q (.inl (some (.int (gi h 23 (gi h 28 p0.toNatClampNeg).toNatClampNeg)))) h))))))) :
    MetPM m_X5_waveOf [.ref 15, .int p0] h Q := by
  exact met_of o_X5_waveOf (Nat.le_of_ble_eq_true rfl) (fun q => absurd rfl q) (vg_ok k_X5_waveOf (stops := []) 69 0 0 _ [] h T)
set_option maxRecDepth 100000 in
set_option maxHeartbeats 4000000 in
theorem t_X5_everyMember {h : PH} {Q : Res → PH → Prop}
    (T : Q (.inl (some (.int (((nI 1) <<< ((gi h 26 1) &&& 31)) - (nI 1))))) h) :
    MetPM m_X5_everyMember [.ref 15] h Q := by
  exact met_of o_X5_everyMember (Nat.le_of_ble_eq_true rfl) (fun q => absurd rfl q) (vg_ok k_X5_everyMember (stops := []) 58 0 0 _ [] h T)
set_option maxRecDepth 100000 in
set_option maxHeartbeats 4000000 in
theorem t_X5_neighboursOf {p0 : Int32} {h : PH} {Q : Res → PH → Prop}
    (T : (vp_in p0 12 ∧ (((gi h 28 p0.toNatClampNeg) < 0 → Q (.inl (some (.int (nI 0)))) h) ∧ (¬ (gi h 28 p0.toNatClampNeg) < 0 → (((gi h 21 1) ≤ (gi h 28 p0.toNatClampNeg) → Q (.inl (some (.int (nI 0)))) h) ∧ (¬ (gi h 21 1) ≤ (gi h 28 p0.toNatClampNeg) → (vp_in (gi h 28 p0.toNatClampNeg) 5 ∧ Q (.inl (some (.int (gi h 24 (gi h 28 p0.toNatClampNeg).toNatClampNeg)))) h))))))) :
    MetPM m_X5_neighboursOf [.ref 15, .int p0] h Q := by
  exact met_of o_X5_neighboursOf (Nat.le_of_ble_eq_true rfl) (fun q => absurd rfl q) (vg_ok k_X5_neighboursOf (stops := []) 69 0 0 _ [] h T)
set_option maxRecDepth 100000 in
set_option maxHeartbeats 4000000 in
theorem t_J6_bitCount_0f7a4 {p0 : Int32} {h : PH} {Q : Res → PH → Prop}
    (T : (let y1 : Int32 := (p0 - (((p0.toUInt32 >>> ((nI 1).toUInt32 &&& Int32.toUInt32 31)).toInt32) &&& (nI 1431655765))); (let y2 : Int32 := ((y1 &&& (nI 858993459)) + (((y1.toUInt32 >>> ((nI 2).toUInt32 &&& Int32.toUInt32 31)).toInt32) &&& (nI 858993459))); (let y3 : Int32 := ((y2 + ((y2.toUInt32 >>> ((nI 4).toUInt32 &&& Int32.toUInt32 31)).toInt32)) &&& (nI 252645135)); (let y4 : Int32 := (((y3 + ((y3.toUInt32 >>> ((nI 8).toUInt32 &&& Int32.toUInt32 31)).toInt32)).toUInt32 >>> ((nI 16).toUInt32 &&& Int32.toUInt32 31)).toInt32); (let y5 : Int32 := (((y3 + ((y3.toUInt32 >>> ((nI 8).toUInt32 &&& Int32.toUInt32 31)).toInt32)) + y4) &&& (nI 63)); Q (.inl (some (.int y5))) h)))))) :
    MetPM m_J6_bitCount_0f7a4 [.int p0] h Q := by
  exact met_of o_J6_bitCount_0f7a4 (Nat.le_of_ble_eq_true rfl) (fun q => absurd rfl q) (vg_ok k_J6_bitCount_0f7a4 (stops := []) 92 0 0 _ [] h T)
set_option maxRecDepth 100000 in
set_option maxHeartbeats 4000000 in
theorem t_X11_needAhead {p0 : Int32} {h : PH} {Q : Res → PH → Prop}
    (T : ((p0 < 0 → (0 + 1 ≤ m_X11_needAhead.cap ∧ Q (.inr 1) h)) ∧ (¬ p0 < 0 → ((p0 ≤ (nI 2000) → Q (.inl none) h) ∧ (¬ p0 ≤ (nI 2000) → (0 + 1 ≤ m_X11_needAhead.cap ∧ Q (.inr 1) h)))))) :
    MetPM m_X11_needAhead [.int p0] h Q := by
  exact met_of o_X11_needAhead (Nat.le_of_ble_eq_true rfl) (fun q => absurd rfl q) (vg_ok k_X11_needAhead (stops := []) 60 0 0 _ [] h T)
set_option maxRecDepth 100000 in
set_option maxHeartbeats 4000000 in
theorem t_X3_add {a : Nat} (ha : a = 65 ∨ a = 72) {p0 : Int32} {p1 : Int32} {p2 : Int32} {p3 : Int32} {h : PH} {Q : Res → PH → Prop}
    (T : ((¬ (nI 30) = 0) ∧ (let y1 : Int32 := ((gi (si h a 2 (((gi h a 2) + (nI 1)) - ((gi h a 2) + (nI 1)) / (nI 30) * (nI 30))) a 2) * (nI 4)); (vp_in y1 120 ∧ (let h2 : PH := (si (si h a 2 (((gi h a 2) + (nI 1)) - ((gi h a 2) + (nI 1)) / (nI 30) * (nI 30))) (a + 1) y1.toNatClampNeg p0); (vp_in (y1 + (nI 1)) 120 ∧ (vp_in (y1 + (nI 2)) 120 ∧ (vp_in (y1 + (nI 3)) 120 ∧ (let h3 : PH := (si (si (si h2 (a + 1) (y1 + (nI 1)).toNatClampNeg p1) (a + 1) (y1 + (nI 2)).toNatClampNeg p2) (a + 1) (y1 + (nI 3)).toNatClampNeg p3); Q (.inl none) (si h3 a 1 (if (nI 30) < ((gi h3 a 1) + (nI 1)) then (nI 30) else ((gi h3 a 1) + (nI 1))))))))))))) :
    MetPM m_X3_add [.ref a, .int p0, .int p1, .int p2, .int p3] h Q := by
  rcases ha with rfl | rfl
  all_goals exact met_of o_X3_add (Nat.le_of_ble_eq_true rfl) (fun q => absurd rfl q) (vg_ok k_X3_add (stops := []) 98 0 0 _ [] h T)
set_option maxRecDepth 100000 in
set_option maxHeartbeats 4000000 in
theorem t_X5_plannedMembers {h : PH} {Q : Res → PH → Prop}
    (T : At m_X5_plannedMembers Q 4 0 [some (.ref 15), some (.int (nI 0)), some (.int (nI 0))] [] h) :
    MetPM m_X5_plannedMembers [.ref 15] h Q := by
  exact met_of o_X5_plannedMembers (Nat.le_of_ble_eq_true rfl) (fun q => absurd rfl q) (vg_ok k_X5_plannedMembers (stops := [4]) 69 0 0 _ [] h T)
set_option maxRecDepth 100000 in
set_option maxHeartbeats 4000000 in
theorem u_X5_plannedMembers_4 {v1 : Int32} {v2 : Int32} {h : PH} {Q : Res → PH → Prop}
    (T : (((gi h 15 12) ≤ v2 → Q (.inl (some (.int v1))) h) ∧ (¬ (gi h 15 12) ≤ v2 → (vp_in v2 5 ∧ At m_X5_plannedMembers Q 4 0 [some (.ref 15), some (.int (v1 ||| (gi h 25 v2.toNatClampNeg))), some (.int (v2 + (nI 1)))] [] h)))) :
    At m_X5_plannedMembers Q 4 0 [some (.ref 15), some (.int v1), some (.int v2)] [] h := by
  exact vg_ok k_X5_plannedMembers (stops := [4]) 69 4 0 _ _ h T
set_option maxRecDepth 100000 in
set_option maxHeartbeats 4000000 in
theorem t_X3_cellOf {p0 : Int32} {p1 : Int32} {h : PH} {Q : Res → PH → Prop}
    (T : ((¬ (nI 30) = 0) ∧ (vp_in (((fmV ((gi h 65 2) - p0) (nI 30)) * (nI 4)) + p1) 120 ∧ Q (.inl (some (.int (gi h 66 (((fmV ((gi h 65 2) - p0) (nI 30)) * (nI 4)) + p1).toNatClampNeg)))) h))) :
    MetPM m_X3_cellOf [.ref 65, .int p0, .int p1] h Q := by
  exact met_of o_X3_cellOf (Nat.le_of_ble_eq_true rfl) (fun q => absurd rfl q) (vg_ok k_X3_cellOf (stops := []) 66 0 0 _ [] h T)
set_option maxRecDepth 100000 in
set_option maxHeartbeats 4000000 in
theorem t_X11_needMeasure {p0 : Int32} {h : PH} {Q : Res → PH → Prop}
    (T : ((p0 < 0 → (0 + 1 ≤ m_X11_needMeasure.cap ∧ Q (.inr 1) h)) ∧ (¬ p0 < 0 → ((p0 ≤ (nI 999) → Q (.inl none) h) ∧ (¬ p0 ≤ (nI 999) → (0 + 1 ≤ m_X11_needMeasure.cap ∧ Q (.inr 1) h)))))) :
    MetPM m_X11_needMeasure [.int p0] h Q := by
  exact met_of o_X11_needMeasure (Nat.le_of_ble_eq_true rfl) (fun q => absurd rfl q) (vg_ok k_X11_needMeasure (stops := []) 60 0 0 _ [] h T)
