/-! ===== what each method does, step by step, 3 ===== -/
set_option maxRecDepth 100000 in
set_option maxHeartbeats 4000000 in
theorem t_X10_append {p0 : Int32} {h : PH} {Q : Res → PH → Prop}
    (T : At m_X10_append Q 3 0 [some (.ref 1), some (.int p0), some (.int (nI 24))] [] h) :
    MetPM m_X10_append [.ref 1, .int p0] h Q := by
  exact met_of o_X10_append (Nat.le_of_ble_eq_true rfl) (fun q => absurd rfl q) (vg_ok k_X10_append (stops := [3]) 78 0 0 _ [] h T)
set_option maxRecDepth 100000 in
set_option maxHeartbeats 4000000 in
theorem u_X10_append_3 {v1 : Int32} {v2 : Int32} {h : PH} {Q : Res → PH → Prop}
    (T : ((v2 < 0 → Q (.inl none) h) ∧ (¬ v2 < 0 → (((nI 900) ≤ (gi h 1 1) → Q (.inl none) h) ∧ (¬ (nI 900) ≤ (gi h 1 1) → (vp_in (gi h 1 1) 900 ∧ (let y1 : Int32 := (gi (si h 2 (gi h 1 1).toNatClampNeg ((v1 >>> (v2 &&& 31)).toInt8.toInt32).toInt8.toInt32) 1 1); (let h2 : PH := (si (si h 2 (gi h 1 1).toNatClampNeg ((v1 >>> (v2 &&& 31)).toInt8.toInt32).toInt8.toInt32) 1 1 (y1 + (nI 1))); At m_X10_append Q 3 0 [some (.ref 1), some (.int v1), some (.int (v2 + (-(nI 8))))] [] h2)))))))) :
    At m_X10_append Q 3 0 [some (.ref 1), some (.int v1), some (.int v2)] [] h := by
  exact vg_ok k_X10_append (stops := [3]) 78 3 0 _ _ h T
set_option maxRecDepth 100000 in
set_option maxHeartbeats 4000000 in
theorem t_X10_scanWord {h : PH} {Q : Res → PH → Prop}
    (T : At m_X10_scanWord Q 5 0 [some (.ref 1)] [] (sl h 1 6 (lN 0))) :
    MetPM m_X10_scanWord [.ref 1] h Q := by
  exact met_of o_X10_scanWord (Nat.le_of_ble_eq_true rfl) (fun q => absurd rfl q) (vg_ok k_X10_scanWord (stops := [5]) 105 0 0 _ [] h T)
set_option maxRecDepth 100000 in
set_option maxHeartbeats 4000000 in
theorem u_X10_scanWord_5 {h : PH} {Q : Res → PH → Prop}
    (T : (((gi h 1 1) ≤ (gi h 1 8) → (((nI 8) < ((gi h 1 8) - (gi h 1 5)) → Q (.inl none) (si h 1 4 (nI 6))) ∧ (¬ (nI 8) < ((gi h 1 8) - (gi h 1 5)) → Q (.inl none) (si h 1 4 (nI 1))))) ∧ (¬ (gi h 1 1) ≤ (gi h 1 8) → (vp_in (gi h 1 8) 900 ∧ (((gi h 2 (gi h 1 8).toNatClampNeg) < (nI 97) → (((nI 8) < ((gi h 1 8) - (gi h 1 5)) → Q (.inl none) (si h 1 4 (nI 6))) ∧ (¬ (nI 8) < ((gi h 1 8) - (gi h 1 5)) → Q (.inl none) (si h 1 4 (nI 1))))) ∧ (¬ (gi h 2 (gi h 1 8).toNatClampNeg) < (nI 97) → (vp_in (gi h 1 8) 900 ∧ (((nI 122) < (gi h 2 (gi h 1 8).toNatClampNeg) → (((nI 8) < ((gi h 1 8) - (gi h 1 5)) → Q (.inl none) (si h 1 4 (nI 6))) ∧ (¬ (nI 8) < ((gi h 1 8) - (gi h 1 5)) → Q (.inl none) (si h 1 4 (nI 1))))) ∧ (¬ (nI 122) < (gi h 2 (gi h 1 8).toNatClampNeg) → (vp_in (gi h 1 8) 900 ∧ (let h1 : PH := (sl h 1 6 (((gl h 1 6) <<< ((nI 8).toInt64 &&& 63)) ||| ((gi h 2 (gi h 1 8).toNatClampNeg).toInt64))); At m_X10_scanWord Q 5 0 [some (.ref 1)] [] (si h1 1 8 ((gi h1 1 8) + (nI 1)))))))))))))) :
    At m_X10_scanWord Q 5 0 [some (.ref 1)] [] h := by
  exact vg_ok k_X10_scanWord (stops := [5]) 105 5 0 _ _ h T
set_option maxRecDepth 100000 in
set_option maxHeartbeats 4000000 in
theorem t_X10_scanNumber {h : PH} {Q : Res → PH → Prop}
    (T : At m_X10_scanNumber Q 5 0 [some (.ref 1)] [] (si h 1 7 (nI 0))) :
    MetPM m_X10_scanNumber [.ref 1] h Q := by
  exact met_of o_X10_scanNumber (Nat.le_of_ble_eq_true rfl) (fun q => absurd rfl q) (vg_ok k_X10_scanNumber (stops := [5]) 106 0 0 _ [] h T)
set_option maxRecDepth 100000 in
set_option maxHeartbeats 4000000 in
theorem u_X10_scanNumber_5 {h : PH} {Q : Res → PH → Prop}
    (T : (((gi h 1 1) ≤ (gi h 1 8) → (((nI 3) < ((gi h 1 8) - (gi h 1 5)) → Q (.inl none) (si h 1 4 (nI 6))) ∧ (¬ (nI 3) < ((gi h 1 8) - (gi h 1 5)) → Q (.inl none) (si h 1 4 (nI 2))))) ∧ (¬ (gi h 1 1) ≤ (gi h 1 8) → (vp_in (gi h 1 8) 900 ∧ (((gi h 2 (gi h 1 8).toNatClampNeg) < (nI 48) → (((nI 3) < ((gi h 1 8) - (gi h 1 5)) → Q (.inl none) (si h 1 4 (nI 6))) ∧ (¬ (nI 3) < ((gi h 1 8) - (gi h 1 5)) → Q (.inl none) (si h 1 4 (nI 2))))) ∧ (¬ (gi h 2 (gi h 1 8).toNatClampNeg) < (nI 48) → (vp_in (gi h 1 8) 900 ∧ (((nI 57) < (gi h 2 (gi h 1 8).toNatClampNeg) → (((nI 3) < ((gi h 1 8) - (gi h 1 5)) → Q (.inl none) (si h 1 4 (nI 6))) ∧ (¬ (nI 3) < ((gi h 1 8) - (gi h 1 5)) → Q (.inl none) (si h 1 4 (nI 2))))) ∧ (¬ (nI 57) < (gi h 2 (gi h 1 8).toNatClampNeg) → (vp_in (gi h 1 8) 900 ∧ (let y1 : Int32 := (gi (si h 1 7 (((gi h 1 7) * (nI 10)) + ((gi h 2 (gi h 1 8).toNatClampNeg) - (nI 48)))) 1 8); (let h2 : PH := (si (si h 1 7 (((gi h 1 7) * (nI 10)) + ((gi h 2 (gi h 1 8).toNatClampNeg) - (nI 48)))) 1 8 (y1 + (nI 1))); At m_X10_scanNumber Q 5 0 [some (.ref 1)] [] h2)))))))))))) :
    At m_X10_scanNumber Q 5 0 [some (.ref 1)] [] h := by
  exact vg_ok k_X10_scanNumber (stops := [5]) 106 5 0 _ _ h T
set_option maxRecDepth 100000 in
set_option maxHeartbeats 4000000 in
theorem t_X10_advance {h : PH} {Q : Res → PH → Prop}
    (T : (((gi h 1 1) ≤ (gi h 1 8) → At m_X10_advance Q 52 0 [some (.ref 1), none] [] h) ∧ (¬ (gi h 1 1) ≤ (gi h 1 8) → (vp_in (gi h 1 8) 900 ∧ (((gi h 2 (gi h 1 8).toNatClampNeg) = (nI 32) → At m_X10_advance Q 39 0 [some (.ref 1), none] [] h) ∧ (¬ (gi h 2 (gi h 1 8).toNatClampNeg) = (nI 32) → (vp_in (gi h 1 8) 900 ∧ ((¬ (gi h 2 (gi h 1 8).toNatClampNeg) = (nI 10) → At m_X10_advance Q 52 0 [some (.ref 1), none] [] h) ∧ ((gi h 2 (gi h 1 8).toNatClampNeg) = (nI 10) → At m_X10_advance Q 39 0 [some (.ref 1), none] [] h))))))))) :
    MetPM m_X10_advance [.ref 1] h Q := by
  exact met_of o_X10_advance (Nat.le_of_ble_eq_true rfl) (fun q => absurd rfl q) (vg_ok k_X10_advance (stops := [0, 39, 52, 106, 125, 171]) 138 0 0 _ [] h T)
set_option maxRecDepth 100000 in
set_option maxHeartbeats 4000000 in
theorem u_X10_advance_0 {h : PH} {Q : Res → PH → Prop}
    (T : (((gi h 1 1) ≤ (gi h 1 8) → At m_X10_advance Q 52 0 [some (.ref 1), none] [] h) ∧ (¬ (gi h 1 1) ≤ (gi h 1 8) → (vp_in (gi h 1 8) 900 ∧ (((gi h 2 (gi h 1 8).toNatClampNeg) = (nI 32) → At m_X10_advance Q 39 0 [some (.ref 1), none] [] h) ∧ (¬ (gi h 2 (gi h 1 8).toNatClampNeg) = (nI 32) → (vp_in (gi h 1 8) 900 ∧ ((¬ (gi h 2 (gi h 1 8).toNatClampNeg) = (nI 10) → At m_X10_advance Q 52 0 [some (.ref 1), none] [] h) ∧ ((gi h 2 (gi h 1 8).toNatClampNeg) = (nI 10) → At m_X10_advance Q 39 0 [some (.ref 1), none] [] h))))))))) :
    At m_X10_advance Q 0 0 [some (.ref 1), none] [] h := by
  exact vg_ok k_X10_advance (stops := [0, 39, 52, 106, 125, 171]) 138 0 0 _ _ h T
set_option maxRecDepth 100000 in
set_option maxHeartbeats 4000000 in
theorem u_X10_advance_39 {h : PH} {Q : Res → PH → Prop}
    (T : At m_X10_advance Q 0 0 [some (.ref 1), none] [] (si h 1 8 ((gi h 1 8) + (nI 1)))) :
    At m_X10_advance Q 39 0 [some (.ref 1), none] [] h := by
  exact vg_ok k_X10_advance (stops := [0, 39, 52, 106, 125, 171]) 138 39 0 _ _ h T
set_option maxRecDepth 100000 in
set_option maxHeartbeats 4000000 in
theorem u_X10_advance_52 {h : PH} {Q : Res → PH → Prop}
    (T : (((gi (si h 1 5 (gi h 1 8)) 1 8) < (gi (si h 1 5 (gi h 1 8)) 1 1) → (vp_in (gi (si h 1 5 (gi h 1 8)) 1 8) 900 ∧ (((gi (si h 1 5 (gi h 1 8)) 2 (gi (si h 1 5 (gi h 1 8)) 1 8).toNatClampNeg) < (nI 97) → At m_X10_advance Q 106 0 [some (.ref 1), some (.int (gi (si h 1 5 (gi h 1 8)) 2 (gi (si h 1 5 (gi h 1 8)) 1 8).toNatClampNeg))] [] (si h 1 5 (gi h 1 8))) ∧ (¬ (gi (si h 1 5 (gi h 1 8)) 2 (gi (si h 1 5 (gi h 1 8)) 1 8).toNatClampNeg) < (nI 97) → (((nI 122) < (gi (si h 1 5 (gi h 1 8)) 2 (gi (si h 1 5 (gi h 1 8)) 1 8).toNatClampNeg) → At m_X10_advance Q 106 0 [some (.ref 1), some (.int (gi (si h 1 5 (gi h 1 8)) 2 (gi (si h 1 5 (gi h 1 8)) 1 8).toNatClampNeg))] [] (si h 1 5 (gi h 1 8))) ∧ (¬ (nI 122) < (gi (si h 1 5 (gi h 1 8)) 2 (gi (si h 1 5 (gi h 1 8)) 1 8).toNatClampNeg) → MetPM m_X10_scanWord [.ref 1] (si h 1 5 (gi h 1 8)) (rV (hnd Q (At m_X10_advance Q) 0 [some (.ref 1), some (.int (gi (si h 1 5 (gi h 1 8)) 2 (gi (si h 1 5 (gi h 1 8)) 1 8).toNatClampNeg))] []) (fun h1 => At m_X10_advance Q 171 0 [some (.ref 1), some (.int (gi (si h 1 5 (gi h 1 8)) 2 (gi (si h 1 5 (gi h 1 8)) 1 8).toNatClampNeg))] [] h1)))))))) ∧ (¬ (gi (si h 1 5 (gi h 1 8)) 1 8) < (gi (si h 1 5 (gi h 1 8)) 1 1) → Q (.inl none) (si (si h 1 5 (gi h 1 8)) 1 4 (nI 0))))) :
    At m_X10_advance Q 52 0 [some (.ref 1), none] [] h := by
  exact vg_ok k_X10_advance (stops := [0, 39, 52, 106, 125, 171]) 138 52 0 _ _ h T
set_option maxRecDepth 100000 in
set_option maxHeartbeats 4000000 in
theorem u_X10_advance_106 {v1 : Int32} {h : PH} {Q : Res → PH → Prop}
    (T : ((v1 < (nI 48) → At m_X10_advance Q 125 0 [some (.ref 1), some (.int v1)] [] h) ∧ (¬ v1 < (nI 48) → (((nI 57) < v1 → At m_X10_advance Q 125 0 [some (.ref 1), some (.int v1)] [] h) ∧ (¬ (nI 57) < v1 → MetPM m_X10_scanNumber [.ref 1] h (rV (hnd Q (At m_X10_advance Q) 0 [some (.ref 1), some (.int v1)] []) (fun h1 => At m_X10_advance Q 171 0 [some (.ref 1), some (.int v1)] [] h1))))))) :
    At m_X10_advance Q 106 0 [some (.ref 1), some (.int v1)] [] h := by
  exact vg_ok k_X10_advance (stops := [0, 39, 52, 106, 125, 171]) 138 106 0 _ _ h T
set_option maxRecDepth 100000 in
set_option maxHeartbeats 4000000 in
theorem u_X10_advance_125 {v1 : Int32} {h : PH} {Q : Res → PH → Prop}
    (T : ((¬ v1 = (nI 59) → ((¬ v1 = (nI 40) → ((¬ v1 = (nI 41) → At m_X10_advance Q 171 0 [some (.ref 1), some (.int v1)] [] (si (si h 1 4 (nI 6)) 1 8 ((gi (si h 1 4 (nI 6)) 1 8) + (nI 1)))) ∧ (v1 = (nI 41) → At m_X10_advance Q 171 0 [some (.ref 1), some (.int v1)] [] (si (si h 1 4 (nI 5)) 1 8 ((gi (si h 1 4 (nI 5)) 1 8) + (nI 1)))))) ∧ (v1 = (nI 40) → At m_X10_advance Q 171 0 [some (.ref 1), some (.int v1)] [] (si (si h 1 4 (nI 4)) 1 8 ((gi (si h 1 4 (nI 4)) 1 8) + (nI 1)))))) ∧ (v1 = (nI 59) → At m_X10_advance Q 171 0 [some (.ref 1), some (.int v1)] [] (si (si h 1 4 (nI 3)) 1 8 ((gi (si h 1 4 (nI 3)) 1 8) + (nI 1)))))) :
    At m_X10_advance Q 125 0 [some (.ref 1), some (.int v1)] [] h := by
  exact vg_ok k_X10_advance (stops := [0, 39, 52, 106, 125, 171]) 138 125 0 _ _ h T
set_option maxRecDepth 100000 in
set_option maxHeartbeats 4000000 in
theorem u_X10_advance_171 {v1 : Int32} {h : PH} {Q : Res → PH → Prop}
    (T : Q (.inl none) h) :
    At m_X10_advance Q 171 0 [some (.ref 1), some (.int v1)] [] h := by
  exact vg_ok k_X10_advance (stops := [0, 39, 52, 106, 125, 171]) 138 171 0 _ _ h T
set_option maxRecDepth 100000 in
set_option maxHeartbeats 4000000 in
theorem t_X10_begin {h : PH} {Q : Res → PH → Prop}
    (T : MetPM m_X10_advance [.ref 1] (si (si (si h 1 2 (nI 0)) 1 3 (-(nI 1))) 1 8 (nI 0)) (rV (hnd Q (At m_X10_begin Q) 0 [some (.ref 1)] []) (fun h1 => Q (.inl none) h1))) :
    MetPM m_X10_begin [.ref 1] h Q := by
  exact met_of o_X10_begin (Nat.le_of_ble_eq_true rfl) (fun q => absurd rfl q) (vg_ok k_X10_begin (stops := []) 62 0 0 _ [] h T)
set_option maxRecDepth 100000 in
set_option maxHeartbeats 4000000 in
theorem t_X10_isWord {b0 : Nat} {h : PH} {Q : Res → PH → Prop}
    (T : At m_X10_isWord Q 5 0 [some (.ref 1), some (.ref b0), some (.long (lN 0)), none, some (.int (nI 0))] [] h) :
    MetPM m_X10_isWord [.ref 1, .ref b0] h Q := by
  exact met_of o_X10_isWord (Nat.le_of_ble_eq_true rfl) (fun q => absurd rfl q) (vg_ok k_X10_isWord (stops := [5]) 82 0 0 _ [] h T)
set_option maxRecDepth 100000 in
set_option maxHeartbeats 4000000 in
theorem u_X10_isWord_5 {b0 : Nat} {v2 : Int64} {v4 : Int32} {h : PH} {Q : Res → PH → Prop}
    (T : (cOk b0 22 ∧ MetPM m_J0_length_8abf5 [.ref b0] h (rI (hnd Q (At m_X10_isWord Q) 0 [some (.ref 1), some (.ref b0), some (.long v2), none, some (.int v4)] []) (fun x2 h1 => ((x2 ≤ v4 → ((¬ (gi h1 1 4) = (nI 1) → (isB (nI 0) ∧ Q (.inl (some (.int (nI 0)))) h1)) ∧ ((gi h1 1 4) = (nI 1) → ((¬ (lg_cmp (gl h1 1 6) v2) = 0 → (isB (nI 0) ∧ Q (.inl (some (.int (nI 0)))) h1)) ∧ ((lg_cmp (gl h1 1 6) v2) = 0 → (isB (nI 1) ∧ Q (.inl (some (.int (nI 1)))) h1)))))) ∧ (¬ x2 ≤ v4 → (cOk b0 22 ∧ MetPM m_J0_charAt_5068e [.ref b0, .int v4] h1 (rI (hnd Q (At m_X10_isWord Q) 0 [some (.ref 1), some (.ref b0), some (.long v2), none, some (.int v4)] []) (fun x4 h3 => At m_X10_isWord Q 5 0 [some (.ref 1), some (.ref b0), some (.long ((v2 <<< ((nI 8).toInt64 &&& 63)) ||| (x4.toInt64))), none, some (.int (v4 + (nI 1)))] [] h3))))))))) :
    At m_X10_isWord Q 5 0 [some (.ref 1), some (.ref b0), some (.long v2), none, some (.int v4)] [] h := by
  exact vg_ok k_X10_isWord (stops := [5]) 82 5 0 _ _ h T
set_option maxRecDepth 100000 in
set_option maxHeartbeats 4000000 in
theorem t_X9_at {h : PH} {Q : Res → PH → Prop}
    (T : (cAr 1080 4 ∧ At m_X9_at Q 9 0 [some (.ref 1), some (.ref 1080), some (.int (nI (cln 1080))), some (.int (nI 0)), none] [] h)) :
    MetPM m_X9_at [.ref 1] h Q := by
  exact met_of o_X9_at (Nat.le_of_ble_eq_true rfl) (fun q => absurd rfl q) (vg_ok k_X9_at (stops := [9]) 75 0 0 _ [] h T)
set_option maxRecDepth 100000 in
set_option maxHeartbeats 4000000 in
theorem u_X9_at_9 {v2 : Int32} {v3 : Int32} {o4 : Option Value} {h : PH} {Q : Res → PH → Prop}
    (T : ((v2 ≤ v3 → Q (.inl (some (.null))) h) ∧ (¬ v2 ≤ v3 → (cAr 1080 4 ∧ vp_in v3 (cln 1080) ∧ (cOk (cel 1080 v3.toNatClampNeg) 20 ∧ MetPM m_X10_isWord [.ref 1, .ref (cfr (cel 1080 v3.toNatClampNeg))] h (rI (hnd Q (At m_X9_at Q) 0 [some (.ref 1), some (.ref 1080), some (.int v2), some (.int v3), some (.ref (cel 1080 v3.toNatClampNeg))] []) (fun x2 h1 => ((x2 = 0 → At m_X9_at Q 9 0 [some (.ref 1), some (.ref 1080), some (.int v2), some (.int (v3 + (nI 1))), some (.ref (cel 1080 v3.toNatClampNeg))] [] h1) ∧ (¬ x2 = 0 → Q (.inl (some (.ref (cel 1080 v3.toNatClampNeg)))) h1))))))))) :
    At m_X9_at Q 9 0 [some (.ref 1), some (.ref 1080), some (.int v2), some (.int v3), o4] [] h := by
  exact vg_ok k_X9_at (stops := [9]) 75 9 0 _ _ h T
set_option maxRecDepth 100000 in
set_option maxHeartbeats 4000000 in
theorem t_X10_fail {p0 : Int32} {h : PH} {Q : Res → PH → Prop}
    (T : (isB (nI 0) ∧ Q (.inl (some (.int (nI 0)))) (si (si h 1 2 p0) 1 3 (gi (si h 1 2 p0) 1 5)))) :
    MetPM m_X10_fail [.ref 1, .int p0] h Q := by
  exact met_of o_X10_fail (Nat.le_of_ble_eq_true rfl) (fun q => absurd rfl q) (vg_ok k_X10_fail (stops := []) 59 0 0 _ [] h T)
set_option maxRecDepth 100000 in
set_option maxHeartbeats 4000000 in
theorem t_X1_errorOfFirstWord {b0 : Nat} {h : PH} {Q : Res → PH → Prop}
    (T : (cOk b0 20 ∧ (cAr 1082 0 ∧ vp_in (cfv b0 9) (cln 1082) ∧ (((∀ j : Nat, 1 ≤ j → j < 8 → ¬ (csw 1082 (cfv b0 9).toNatClampNeg) = nI j) → (cOk b0 20 ∧ ((((gi h 4 3) &&& (cfv b0 1)) = 0 → Q (.inl (some (.int (nI 0)))) h) ∧ (¬ ((gi h 4 3) &&& (cfv b0 1)) = 0 → Q (.inl (some (.int (nI 4)))) h)))) ∧ ((csw 1082 (cfv b0 9).toNatClampNeg) = nI 1 → MetPM m_X6_isFull [.ref 31] h (rI (hnd Q (At m_X1_errorOfFirstWord Q) 0 [some (.ref 4), some (.ref b0)] []) (fun x2 h1 => ((x2 = 0 → Q (.inl (some (.int (nI 0)))) h1) ∧ (¬ x2 = 0 → Q (.inl (some (.int (nI 6)))) h1))))) ∧ ((csw 1082 (cfv b0 9).toNatClampNeg) = nI 2 → MetPM m_X6_isFull [.ref 36] h (rI (hnd Q (At m_X1_errorOfFirstWord Q) 0 [some (.ref 4), some (.ref b0)] []) (fun x4 h3 => ((x4 = 0 → Q (.inl (some (.int (nI 0)))) h3) ∧ (¬ x4 = 0 → Q (.inl (some (.int (nI 6)))) h3))))) ∧ ((csw 1082 (cfv b0 9).toNatClampNeg) = nI 3 → MetPM m_X6_isFull [.ref 41] h (rI (hnd Q (At m_X1_errorOfFirstWord Q) 0 [some (.ref 4), some (.ref b0)] []) (fun x6 h5 => ((x6 = 0 → Q (.inl (some (.int (nI 0)))) h5) ∧ (¬ x6 = 0 → Q (.inl (some (.int (nI 6)))) h5))))) ∧ ((csw 1082 (cfv b0 9).toNatClampNeg) = nI 4 → (((gi h 30 12) < (nI 5) → Q (.inl (some (.int (nI 0)))) h) ∧ (¬ (gi h 30 12) < (nI 5) → Q (.inl (some (.int (nI 6)))) h))) ∧ ((csw 1082 (cfv b0 9).toNatClampNeg) = nI 5 → (((gi h 30 11) < (nI 20) → Q (.inl (some (.int (nI 0)))) h) ∧ (¬ (gi h 30 11) < (nI 20) → Q (.inl (some (.int (nI 6)))) h))) ∧ ((csw 1082 (cfv b0 9).toNatClampNeg) = nI 6 → (cOk b0 20 ∧ ((¬ ((gi h 4 3) &&& (cfv b0 1)) = 0 → Q (.inl (some (.int (nI 4)))) h) ∧ (((gi h 4 3) &&& (cfv b0 1)) = 0 → (((gi h 41 1) ≤ 0 → Q (.inl (some (.int (nI 0)))) h) ∧ (¬ (gi h 41 1) ≤ 0 → Q (.inl (some (.int (nI 4)))) h)))))) ∧ ((csw 1082 (cfv b0 9).toNatClampNeg) = nI 7 → (cOk b0 20 ∧ ((¬ ((gi h 4 3) &&& (cfv b0 1)) = 0 → Q (.inl (some (.int (nI 4)))) h) ∧ (((gi h 4 3) &&& (cfv b0 1)) = 0 → (((gi h 41 1) ≤ 0 → Q (.inl (some (.int (nI 0)))) h) ∧ (¬ (gi h 41 1) ≤ 0 → Q (.inl (some (.int (nI 4)))) h)))))) ∧ True)))) :
    MetPM m_X1_errorOfFirstWord [.ref 4, .ref b0] h Q := by
  exact met_of o_X1_errorOfFirstWord (Nat.le_of_ble_eq_true rfl) (fun q => absurd rfl q) (vg_ok k_X1_errorOfFirstWord (stops := []) 125 0 0 _ [] h T)
set_option maxRecDepth 100000 in
set_option maxHeartbeats 4000000 in
theorem t_X10_takeNewName {b0 : Nat} (hb0 : b0 = 31 ∨ b0 = 36 ∨ b0 = 41) {h : PH} {Q : Res → PH → Prop}
    (T : (((gi h 1 4) = (nI 1) → MetPM m_X6_numberOf [.ref b0, .long (gl h 1 6)] h (rI (hnd Q (At m_X10_takeNewName Q) 0 [some (.ref 1), some (.ref b0), none, none] []) (fun x2 h1 => ((x2 = (-(nI 1)) → MetPM m_X10_advance [.ref 1] h1 (rV (hnd Q (At m_X10_takeNewName Q) 0 [some (.ref 1), some (.ref b0), some (.long (gl h1 1 6)), none] []) (fun h3 => Q (.inl (some (.long (gl h1 1 6)))) h3))) ∧ (¬ x2 = (-(nI 1)) → MetPM m_X10_fail [.ref 1, .int (nI 3)] h1 (rI (hnd Q (At m_X10_takeNewName Q) 0 [some (.ref 1), some (.ref b0), none, none] []) (fun x5 h4 => Q (.inl (some (.long (lN 0)))) h4))))))) ∧ (¬ (gi h 1 4) = (nI 1) → MetPM m_X10_fail [.ref 1, .int (nI 1)] h (rI (hnd Q (At m_X10_takeNewName Q) 0 [some (.ref 1), some (.ref b0), none, none] []) (fun x7 h6 => Q (.inl (some (.long (lN 0)))) h6))))) :
    MetPM m_X10_takeNewName [.ref 1, .ref b0] h Q := by
  rcases hb0 with rfl | rfl | rfl
  all_goals exact met_of o_X10_takeNewName (Nat.le_of_ble_eq_true rfl) (fun q => absurd rfl q) (vg_ok k_X10_takeNewName (stops := []) 79 0 0 _ [] h T)
set_option maxRecDepth 100000 in
set_option maxHeartbeats 4000000 in
theorem t_X10_takeNumber {p0 : Int32} {p1 : Int32} {h : PH} {Q : Res → PH → Prop}
    (T : (((gi h 1 4) = (nI 2) → (((gi h 1 7) < p0 → MetPM m_X10_fail [.ref 1, .int (nI 2)] h (rI (hnd Q (At m_X10_takeNumber Q) 0 [some (.ref 1), some (.int p0), some (.int p1), none] []) (fun x2 h1 => Q (.inl (some (.int (-(nI 1))))) h1))) ∧ (¬ (gi h 1 7) < p0 → (((gi h 1 7) ≤ p1 → MetPM m_X10_advance [.ref 1] h (rV (hnd Q (At m_X10_takeNumber Q) 0 [some (.ref 1), some (.int p0), some (.int p1), some (.int (gi h 1 7))] []) (fun h3 => Q (.inl (some (.int (gi h 1 7)))) h3))) ∧ (¬ (gi h 1 7) ≤ p1 → MetPM m_X10_fail [.ref 1, .int (nI 2)] h (rI (hnd Q (At m_X10_takeNumber Q) 0 [some (.ref 1), some (.int p0), some (.int p1), none] []) (fun x5 h4 => Q (.inl (some (.int (-(nI 1))))) h4))))))) ∧ (¬ (gi h 1 4) = (nI 2) → MetPM m_X10_fail [.ref 1, .int (nI 1)] h (rI (hnd Q (At m_X10_takeNumber Q) 0 [some (.ref 1), some (.int p0), some (.int p1), none] []) (fun x7 h6 => Q (.inl (some (.int (-(nI 1))))) h6))))) :
    MetPM m_X10_takeNumber [.ref 1, .int p0, .int p1] h Q := by
  exact met_of o_X10_takeNumber (Nat.le_of_ble_eq_true rfl) (fun q => absurd rfl q) (vg_ok k_X10_takeNumber (stops := []) 81 0 0 _ [] h T)
set_option maxRecDepth 100000 in
set_option maxHeartbeats 4000000 in
theorem t_X1_readVersion {h : PH} {Q : Res → PH → Prop}
    (T : MetPM m_X10_takeNewName [.ref 1, .ref 31] h (rL (hnd Q (At m_X1_readVersion Q) 0 [some (.ref 4), none, none, none, none] []) (fun x2 h1 => ((¬ (lg_cmp x2 (lN 0)) = 0 → MetPM m_X10_takeNumber [.ref 1, .int (nI 1), .int (nI 9)] h1 (rI (hnd Q (At m_X1_readVersion Q) 0 [some (.ref 4), some (.long x2), none, none, none] []) (fun x4 h3 => ((¬ x4 = (-(nI 1)) → MetPM m_X10_takeNumber [.ref 1, .int x4, .int (nI 9)] h3 (rI (hnd Q (At m_X1_readVersion Q) 0 [some (.ref 4), some (.long x2), none, some (.int x4), none] []) (fun x6 h5 => ((¬ x6 = (-(nI 1)) → MetPM m_X5_addVersion [.ref 30, .long x2, .int x4, .int x6] h5 (rV (hnd Q (At m_X1_readVersion Q) 0 [some (.ref 4), some (.long x2), none, some (.int x4), some (.int x6)] []) (fun h7 => (isB (nI 1) ∧ Q (.inl (some (.int (nI 1)))) h7)))) ∧ (x6 = (-(nI 1)) → (isB (nI 0) ∧ Q (.inl (some (.int (nI 0)))) h5)))))) ∧ (x4 = (-(nI 1)) → (isB (nI 0) ∧ Q (.inl (some (.int (nI 0)))) h3)))))) ∧ ((lg_cmp x2 (lN 0)) = 0 → (isB (nI 0) ∧ Q (.inl (some (.int (nI 0)))) h1)))))) :
    MetPM m_X1_readVersion [.ref 4] h Q := by
  exact met_of o_X1_readVersion (Nat.le_of_ble_eq_true rfl) (fun q => absurd rfl q) (vg_ok k_X1_readVersion (stops := []) 93 0 0 _ [] h T)
set_option maxRecDepth 100000 in
set_option maxHeartbeats 4000000 in
theorem t_X10_findName {b0 : Nat} (hb0 : b0 = 16 ∨ b0 = 26 ∨ b0 = 31 ∨ b0 = 36 ∨ b0 = 41) {h : PH} {Q : Res → PH → Prop}
    (T : (((gi h 1 4) = (nI 1) → MetPM m_X6_numberOf [.ref b0, .long (gl h 1 6)] h (rI (hnd Q (At m_X10_findName Q) 0 [some (.ref 1), some (.ref b0), none] []) (fun x2 h1 => ((¬ x2 = (-(nI 1)) → Q (.inl (some (.int x2))) h1) ∧ (x2 = (-(nI 1)) → MetPM m_X10_fail [.ref 1, .int (nI 3)] h1 (rI (hnd Q (At m_X10_findName Q) 0 [some (.ref 1), some (.ref b0), some (.int x2)] []) (fun x4 h3 => Q (.inl (some (.int x2))) h3))))))) ∧ (¬ (gi h 1 4) = (nI 1) → MetPM m_X10_fail [.ref 1, .int (nI 1)] h (rI (hnd Q (At m_X10_findName Q) 0 [some (.ref 1), some (.ref b0), none] []) (fun x6 h5 => Q (.inl (some (.int (-(nI 1))))) h5))))) :
    MetPM m_X10_findName [.ref 1, .ref b0] h Q := by
  rcases hb0 with rfl | rfl | rfl | rfl | rfl
  all_goals exact met_of o_X10_findName (Nat.le_of_ble_eq_true rfl) (fun q => absurd rfl q) (vg_ok k_X10_findName (stops := []) 74 0 0 _ [] h T)
set_option maxRecDepth 100000 in
set_option maxHeartbeats 4000000 in
theorem t_X1_readTalks {h : PH} {Q : Res → PH → Prop}
    (T : MetPM m_X10_findName [.ref 1, .ref 31] h (rI (hnd Q (At m_X1_readTalks Q) 0 [some (.ref 4), none, none] []) (fun x2 h1 => ((¬ x2 = (-(nI 1)) → MetPM m_X10_advance [.ref 1] h1 (rV (hnd Q (At m_X1_readTalks Q) 0 [some (.ref 4), some (.int x2), none] []) (fun h3 => MetPM m_X10_findName [.ref 1, .ref 31] h3 (rI (hnd Q (At m_X1_readTalks Q) 0 [some (.ref 4), some (.int x2), none] []) (fun x5 h4 => ((¬ x5 = (-(nI 1)) → ((¬ x5 = x2 → MetPM m_X5_talkersOf [.ref 30, .int x2] h4 (rI (hnd Q (At m_X1_readTalks Q) 0 [some (.ref 4), some (.int x2), some (.int x5)] []) (fun x7 h6 => MetPM m_X11_isIn [.int x7, .int x5] h6 (rI (hnd Q (At m_X1_readTalks Q) 0 [some (.ref 4), some (.int x2), some (.int x5)] []) (fun x9 h8 => ((x9 = 0 → MetPM m_X10_advance [.ref 1] h8 (rV (hnd Q (At m_X1_readTalks Q) 0 [some (.ref 4), some (.int x2), some (.int x5)] []) (fun h10 => MetPM m_X5_addTalk [.ref 30, .int x2, .int x5] h10 (rV (hnd Q (At m_X1_readTalks Q) 0 [some (.ref 4), some (.int x2), some (.int x5)] []) (fun h11 => (isB (nI 1) ∧ Q (.inl (some (.int (nI 1)))) h11)))))) ∧ (¬ x9 = 0 → MetPM m_X10_fail [.ref 1, .int (nI 4)] h8 (rI (hnd Q (At m_X1_readTalks Q) 0 [some (.ref 4), some (.int x2), some (.int x5)] []) (fun x13 h12 => (isB x13 ∧ Q (.inl (some (.int x13))) h12)))))))))) ∧ (x5 = x2 → MetPM m_X10_fail [.ref 1, .int (nI 3)] h4 (rI (hnd Q (At m_X1_readTalks Q) 0 [some (.ref 4), some (.int x2), some (.int x5)] []) (fun x15 h14 => (isB x15 ∧ Q (.inl (some (.int x15))) h14)))))) ∧ (x5 = (-(nI 1)) → (isB (nI 0) ∧ Q (.inl (some (.int (nI 0)))) h4)))))))) ∧ (x2 = (-(nI 1)) → (isB (nI 0) ∧ Q (.inl (some (.int (nI 0)))) h1)))))) :
    MetPM m_X1_readTalks [.ref 4] h Q := by
  exact met_of o_X1_readTalks (Nat.le_of_ble_eq_true rfl) (fun q => absurd rfl q) (vg_ok k_X1_readTalks (stops := []) 107 0 0 _ [] h T)
set_option maxRecDepth 100000 in
set_option maxHeartbeats 4000000 in
theorem t_X1_readPlace {h : PH} {Q : Res → PH → Prop}
    (T : MetPM m_X10_takeNewName [.ref 1, .ref 36] h (rL (hnd Q (At m_X1_readPlace Q) 0 [some (.ref 4), none, none] []) (fun x2 h1 => ((¬ (lg_cmp x2 (lN 0)) = 0 → MetPM m_X5_addPlace [.ref 30, .long x2] h1 (rV (hnd Q (At m_X1_readPlace Q) 0 [some (.ref 4), some (.long x2), none] []) (fun h3 => (isB (nI 1) ∧ Q (.inl (some (.int (nI 1)))) h3)))) ∧ ((lg_cmp x2 (lN 0)) = 0 → (isB (nI 0) ∧ Q (.inl (some (.int (nI 0)))) h1)))))) :
    MetPM m_X1_readPlace [.ref 4] h Q := by
  exact met_of o_X1_readPlace (Nat.le_of_ble_eq_true rfl) (fun q => absurd rfl q) (vg_ok k_X1_readPlace (stops := []) 69 0 0 _ [] h T)
set_option maxRecDepth 100000 in
set_option maxHeartbeats 4000000 in
theorem t_X1_readMember {h : PH} {Q : Res → PH → Prop}
    (T : MetPM m_X10_takeNewName [.ref 1, .ref 41] h (rL (hnd Q (At m_X1_readMember Q) 0 [some (.ref 4), none, none, none, none, none] []) (fun x2 h1 => ((¬ (lg_cmp x2 (lN 0)) = 0 → MetPM m_X10_findName [.ref 1, .ref 36] h1 (rI (hnd Q (At m_X1_readMember Q) 0 [some (.ref 4), some (.long x2), none, none, none, none] []) (fun x4 h3 => ((¬ x4 = (-(nI 1)) → MetPM m_X10_advance [.ref 1] h3 (rV (hnd Q (At m_X1_readMember Q) 0 [some (.ref 4), some (.long x2), none, some (.int x4), none, none] []) (fun h5 => MetPM m_X10_findName [.ref 1, .ref 31] h5 (rI (hnd Q (At m_X1_readMember Q) 0 [some (.ref 4), some (.long x2), none, some (.int x4), none, none] []) (fun x7 h6 => ((¬ x7 = (-(nI 1)) → MetPM m_X8_canJoin [.ref 74, .int x4, .int x7] h6 (rI (hnd Q (At m_X1_readMember Q) 0 [some (.ref 4), some (.long x2), none, some (.int x4), some (.int x7), none] []) (fun x9 h8 => ((¬ x9 = 0 → MetPM m_X10_advance [.ref 1] h8 (rV (hnd Q (At m_X1_readMember Q) 0 [some (.ref 4), some (.long x2), none, some (.int x4), some (.int x7), none] []) (fun h10 => MetPM m_X10_isWord [.ref 1, .ref 1084] h10 (rI (hnd Q (At m_X1_readMember Q) 0 [some (.ref 4), some (.long x2), none, some (.int x4), some (.int x7), none] []) (fun x12 h11 => ((x12 = 0 → At m_X1_readMember Q 128 0 [some (.ref 4), some (.long x2), none, some (.int x4), some (.int x7), some (.int x12)] [] h11) ∧ (¬ x12 = 0 → MetPM m_X10_advance [.ref 1] h11 (rV (hnd Q (At m_X1_readMember Q) 0 [some (.ref 4), some (.long x2), none, some (.int x4), some (.int x7), some (.int x12)] []) (fun h13 => At m_X1_readMember Q 128 0 [some (.ref 4), some (.long x2), none, some (.int x4), some (.int x7), some (.int x12)] [] h13))))))))) ∧ (x9 = 0 → MetPM m_X10_fail [.ref 1, .int (nI 5)] h8 (rI (hnd Q (At m_X1_readMember Q) 0 [some (.ref 4), some (.long x2), none, some (.int x4), some (.int x7), none] []) (fun x15 h14 => (isB x15 ∧ Q (.inl (some (.int x15))) h14)))))))) ∧ (x7 = (-(nI 1)) → (isB (nI 0) ∧ Q (.inl (some (.int (nI 0)))) h6)))))))) ∧ (x4 = (-(nI 1)) → (isB (nI 0) ∧ Q (.inl (some (.int (nI 0)))) h3)))))) ∧ ((lg_cmp x2 (lN 0)) = 0 → (isB (nI 0) ∧ Q (.inl (some (.int (nI 0)))) h1)))))) :
    MetPM m_X1_readMember [.ref 4] h Q := by
  exact met_of o_X1_readMember (Nat.le_of_ble_eq_true rfl) (fun q => absurd rfl q) (vg_ok k_X1_readMember (stops := [128]) 123 0 0 _ [] h T)
set_option maxRecDepth 100000 in
set_option maxHeartbeats 4000000 in
theorem u_X1_readMember_128 {v1 : Int64} {v3 : Int32} {v4 : Int32} {v5 : Int32} {h : PH} {Q : Res → PH → Prop}
    (T : MetPM m_X8_addMember [.ref 74, .long v1, .int v3, .int v4, .int v5] h (rV (hnd Q (At m_X1_readMember Q) 0 [some (.ref 4), some (.long v1), none, some (.int v3), some (.int v4), some (.int v5)] []) (fun h1 => (isB (nI 1) ∧ Q (.inl (some (.int (nI 1)))) h1)))) :
    At m_X1_readMember Q 128 0 [some (.ref 4), some (.long v1), none, some (.int v3), some (.int v4), some (.int v5)] [] h := by
  exact vg_ok k_X1_readMember (stops := [128]) 123 128 0 _ _ h T
set_option maxRecDepth 100000 in
set_option maxHeartbeats 4000000 in
theorem t_X1_readLink {h : PH} {Q : Res → PH → Prop}
    (T : MetPM m_X10_findName [.ref 1, .ref 41] h (rI (hnd Q (At m_X1_readLink Q) 0 [some (.ref 4), none, none] []) (fun x2 h1 => ((¬ x2 = (-(nI 1)) → MetPM m_X10_advance [.ref 1] h1 (rV (hnd Q (At m_X1_readLink Q) 0 [some (.ref 4), some (.int x2), none] []) (fun h3 => MetPM m_X10_findName [.ref 1, .ref 41] h3 (rI (hnd Q (At m_X1_readLink Q) 0 [some (.ref 4), some (.int x2), none] []) (fun x5 h4 => ((¬ x5 = (-(nI 1)) → (vp_in x2 12 ∧ (vp_in x5 12 ∧ ((¬ (gi h4 43 x2.toNatClampNeg) = (gi h4 43 x5.toNatClampNeg) → (vp_in x2 12 ∧ MetPM m_X11_isIn [.int (gi h4 44 x2.toNatClampNeg), .int x5] h4 (rI (hnd Q (At m_X1_readLink Q) 0 [some (.ref 4), some (.int x2), some (.int x5)] []) (fun x7 h6 => ((x7 = 0 → (vp_in x2 12 ∧ MetPM m_X5_talkersOf [.ref 30, .int (gi h6 75 x2.toNatClampNeg)] h6 (rI (hnd Q (At m_X1_readLink Q) 0 [some (.ref 4), some (.int x2), some (.int x5)] []) (fun x9 h8 => (vp_in x5 12 ∧ MetPM m_X11_isIn [.int x9, .int (gi h8 75 x5.toNatClampNeg)] h8 (rI (hnd Q (At m_X1_readLink Q) 0 [some (.ref 4), some (.int x2), some (.int x5)] []) (fun x11 h10 => ((¬ x11 = 0 → MetPM m_X10_advance [.ref 1] h10 (rV (hnd Q (At m_X1_readLink Q) 0 [some (.ref 4), some (.int x2), some (.int x5)] []) (fun h12 => MetPM m_X5_addLink [.ref 30, .int x2, .int x5] h12 (rV (hnd Q (At m_X1_readLink Q) 0 [some (.ref 4), some (.int x2), some (.int x5)] []) (fun h13 => (isB (nI 1) ∧ Q (.inl (some (.int (nI 1)))) h13)))))) ∧ (x11 = 0 → MetPM m_X10_fail [.ref 1, .int (nI 5)] h10 (rI (hnd Q (At m_X1_readLink Q) 0 [some (.ref 4), some (.int x2), some (.int x5)] []) (fun x15 h14 => (isB x15 ∧ Q (.inl (some (.int x15))) h14)))))))))))) ∧ (¬ x7 = 0 → MetPM m_X10_fail [.ref 1, .int (nI 4)] h6 (rI (hnd Q (At m_X1_readLink Q) 0 [some (.ref 4), some (.int x2), some (.int x5)] []) (fun x17 h16 => (isB x17 ∧ Q (.inl (some (.int x17))) h16))))))))) ∧ ((gi h4 43 x2.toNatClampNeg) = (gi h4 43 x5.toNatClampNeg) → MetPM m_X10_fail [.ref 1, .int (nI 3)] h4 (rI (hnd Q (At m_X1_readLink Q) 0 [some (.ref 4), some (.int x2), some (.int x5)] []) (fun x19 h18 => (isB x19 ∧ Q (.inl (some (.int x19))) h18)))))))) ∧ (x5 = (-(nI 1)) → (isB (nI 0) ∧ Q (.inl (some (.int (nI 0)))) h4)))))))) ∧ (x2 = (-(nI 1)) → (isB (nI 0) ∧ Q (.inl (some (.int (nI 0)))) h1)))))) :
    MetPM m_X1_readLink [.ref 4] h Q := by
  exact met_of o_X1_readLink (Nat.le_of_ble_eq_true rfl) (fun q => absurd rfl q) (vg_ok k_X1_readLink (stops := []) 136 0 0 _ [] h T)
set_option maxRecDepth 100000 in
set_option maxHeartbeats 4000000 in
theorem t_X1_readPlaceOfWave {p0 : Int32} {h : PH} {Q : Res → PH → Prop}
    (T : MetPM m_X10_findName [.ref 1, .ref 36] h (rI (hnd Q (At m_X1_readPlaceOfWave Q) 0 [some (.ref 4), some (.int p0), none] []) (fun x2 h1 => ((¬ x2 = (-(nI 1)) → (vp_in x2 5 ∧ (((gi h1 38 x2.toNatClampNeg) = (-(nI 1)) → MetPM m_X10_advance [.ref 1] h1 (rV (hnd Q (At m_X1_readPlaceOfWave Q) 0 [some (.ref 4), some (.int p0), some (.int x2)] []) (fun h3 => MetPM m_X5_addToWave [.ref 30, .int x2, .int p0] h3 (rV (hnd Q (At m_X1_readPlaceOfWave Q) 0 [some (.ref 4), some (.int p0), some (.int x2)] []) (fun h4 => (isB (nI 1) ∧ Q (.inl (some (.int (nI 1)))) h4)))))) ∧ (¬ (gi h1 38 x2.toNatClampNeg) = (-(nI 1)) → MetPM m_X10_fail [.ref 1, .int (nI 4)] h1 (rI (hnd Q (At m_X1_readPlaceOfWave Q) 0 [some (.ref 4), some (.int p0), some (.int x2)] []) (fun x6 h5 => (isB x6 ∧ Q (.inl (some (.int x6))) h5))))))) ∧ (x2 = (-(nI 1)) → (isB (nI 0) ∧ Q (.inl (some (.int (nI 0)))) h1)))))) :
    MetPM m_X1_readPlaceOfWave [.ref 4, .int p0] h Q := by
  exact met_of o_X1_readPlaceOfWave (Nat.le_of_ble_eq_true rfl) (fun q => absurd rfl q) (vg_ok k_X1_readPlaceOfWave (stops := []) 84 0 0 _ [] h T)
set_option maxRecDepth 100000 in
set_option maxHeartbeats 4000000 in
theorem t_X1_readWave {h : PH} {Q : Res → PH → Prop}
    (T : MetPM m_X5_addWave [.ref 30] h (rV (hnd Q (At m_X1_readWave Q) 0 [some (.ref 4), some (.int (gi h 30 12)), none, none] []) (fun h1 => MetPM m_X1_readPlaceOfWave [.ref 4, .int (gi h 30 12)] h1 (rI (hnd Q (At m_X1_readWave Q) 0 [some (.ref 4), some (.int (gi h 30 12)), none, none] []) (fun x3 h2 => At m_X1_readWave Q 23 0 [some (.ref 4), some (.int (gi h 30 12)), some (.int x3), some (.int (nI 0))] [] h2))))) :
    MetPM m_X1_readWave [.ref 4] h Q := by
  exact met_of o_X1_readWave (Nat.le_of_ble_eq_true rfl) (fun q => absurd rfl q) (vg_ok k_X1_readWave (stops := [23]) 81 0 0 _ [] h T)
set_option maxRecDepth 100000 in
set_option maxHeartbeats 4000000 in
theorem u_X1_readWave_23 {v1 : Int32} {v2 : Int32} {v3 : Int32} {h : PH} {Q : Res → PH → Prop}
    (T : (((nI 5) ≤ v3 → (isB v2 ∧ Q (.inl (some (.int v2))) h)) ∧ (¬ (nI 5) ≤ v3 → ((v2 = 0 → (isB v2 ∧ Q (.inl (some (.int v2))) h)) ∧ (¬ v2 = 0 → ((¬ (gi h 1 4) = (nI 1) → (isB v2 ∧ Q (.inl (some (.int v2))) h)) ∧ ((gi h 1 4) = (nI 1) → MetPM m_X1_readPlaceOfWave [.ref 4, .int v1] h (rI (hnd Q (At m_X1_readWave Q) 0 [some (.ref 4), some (.int v1), some (.int v2), some (.int v3)] []) (fun x2 h1 => At m_X1_readWave Q 23 0 [some (.ref 4), some (.int v1), some (.int x2), some (.int (v3 + (nI 1)))] [] h1))))))))) :
    At m_X1_readWave Q 23 0 [some (.ref 4), some (.int v1), some (.int v2), some (.int v3)] [] h := by
  exact vg_ok k_X1_readWave (stops := [23]) 81 23 0 _ _ h T
set_option maxRecDepth 100000 in
set_option maxHeartbeats 4000000 in
theorem t_X1_readSetting {b0 : Nat} {h : PH} {Q : Res → PH → Prop}
    (T : (cOk b0 20 ∧ (cOk b0 20 ∧ MetPM m_X10_takeNumber [.ref 1, .int (cfv b0 2), .int (cfv b0 3)] h (rI (hnd Q (At m_X1_readSetting Q) 0 [some (.ref 4), some (.ref b0), none] []) (fun x2 h1 => ((¬ x2 = (-(nI 1)) → (cOk b0 20 ∧ (cOk b0 20 ∧ (cAr 1082 0 ∧ vp_in (cfv b0 9) (cln 1082) ∧ (((∀ j : Nat, 6 ≤ j → j < 12 → ¬ (csw 1082 (cfv b0 9).toNatClampNeg) = nI j) → (isB (nI 1) ∧ Q (.inl (some (.int (nI 1)))) (si (si h1 4 3 ((gi h1 4 3) ||| (cfv b0 1))) 30 17 x2))) ∧ ((csw 1082 (cfv b0 9).toNatClampNeg) = nI 6 → (isB (nI 1) ∧ Q (.inl (some (.int (nI 1)))) (si (si h1 4 3 ((gi h1 4 3) ||| (cfv b0 1))) 74 2 x2))) ∧ ((csw 1082 (cfv b0 9).toNatClampNeg) = nI 7 → (isB (nI 1) ∧ Q (.inl (some (.int (nI 1)))) (si (si h1 4 3 ((gi h1 4 3) ||| (cfv b0 1))) 30 13 x2))) ∧ ((csw 1082 (cfv b0 9).toNatClampNeg) = nI 8 → (isB (nI 1) ∧ Q (.inl (some (.int (nI 1)))) (si (si h1 4 3 ((gi h1 4 3) ||| (cfv b0 1))) 30 17 x2))) ∧ ((csw 1082 (cfv b0 9).toNatClampNeg) = nI 9 → (isB (nI 1) ∧ Q (.inl (some (.int (nI 1)))) (si (si h1 4 3 ((gi h1 4 3) ||| (cfv b0 1))) 30 14 x2))) ∧ ((csw 1082 (cfv b0 9).toNatClampNeg) = nI 10 → (isB (nI 1) ∧ Q (.inl (some (.int (nI 1)))) (si (si h1 4 3 ((gi h1 4 3) ||| (cfv b0 1))) 30 15 x2))) ∧ ((csw 1082 (cfv b0 9).toNatClampNeg) = nI 11 → (isB (nI 1) ∧ Q (.inl (some (.int (nI 1)))) (si (si h1 4 3 ((gi h1 4 3) ||| (cfv b0 1))) 30 16 x2))) ∧ True))))) ∧ (x2 = (-(nI 1)) → (isB (nI 0) ∧ Q (.inl (some (.int (nI 0)))) h1)))))))) :
    MetPM m_X1_readSetting [.ref 4, .ref b0] h Q := by
  exact met_of o_X1_readSetting (Nat.le_of_ble_eq_true rfl) (fun q => absurd rfl q) (vg_ok k_X1_readSetting (stops := []) 106 0 0 _ [] h T)
set_option maxRecDepth 100000 in
set_option maxHeartbeats 4000000 in
theorem t_X1_readRest {b0 : Nat} {h : PH} {Q : Res → PH → Prop}
    (T : (cOk b0 20 ∧ (cAr 1082 0 ∧ vp_in (cfv b0 9) (cln 1082) ∧ (((∀ j : Nat, 1 ≤ j → j < 9 → ¬ (csw 1082 (cfv b0 9).toNatClampNeg) = nI j) → MetPM m_X1_readSetting [.ref 4, .ref b0] h (rI (hnd Q (At m_X1_readRest Q) 0 [some (.ref 4), some (.ref b0)] []) (fun x2 h1 => (isB x2 ∧ Q (.inl (some (.int x2))) h1)))) ∧ ((csw 1082 (cfv b0 9).toNatClampNeg) = nI 1 → MetPM m_X1_readVersion [.ref 4] h (rI (hnd Q (At m_X1_readRest Q) 0 [some (.ref 4), some (.ref b0)] []) (fun x4 h3 => (isB x4 ∧ Q (.inl (some (.int x4))) h3)))) ∧ ((csw 1082 (cfv b0 9).toNatClampNeg) = nI 2 → MetPM m_X1_readPlace [.ref 4] h (rI (hnd Q (At m_X1_readRest Q) 0 [some (.ref 4), some (.ref b0)] []) (fun x6 h5 => (isB x6 ∧ Q (.inl (some (.int x6))) h5)))) ∧ ((csw 1082 (cfv b0 9).toNatClampNeg) = nI 3 → MetPM m_X1_readMember [.ref 4] h (rI (hnd Q (At m_X1_readRest Q) 0 [some (.ref 4), some (.ref b0)] []) (fun x8 h7 => (isB x8 ∧ Q (.inl (some (.int x8))) h7)))) ∧ ((csw 1082 (cfv b0 9).toNatClampNeg) = nI 4 → MetPM m_X1_readWave [.ref 4] h (rI (hnd Q (At m_X1_readRest Q) 0 [some (.ref 4), some (.ref b0)] []) (fun x10 h9 => (isB x10 ∧ Q (.inl (some (.int x10))) h9)))) ∧ ((csw 1082 (cfv b0 9).toNatClampNeg) = nI 5 → MetPM m_X1_readLink [.ref 4] h (rI (hnd Q (At m_X1_readRest Q) 0 [some (.ref 4), some (.ref b0)] []) (fun x12 h11 => (isB x12 ∧ Q (.inl (some (.int x12))) h11)))) ∧ ((csw 1082 (cfv b0 9).toNatClampNeg) = nI 6 → MetPM m_X1_readSetting [.ref 4, .ref b0] h (rI (hnd Q (At m_X1_readRest Q) 0 [some (.ref 4), some (.ref b0)] []) (fun x14 h13 => (isB x14 ∧ Q (.inl (some (.int x14))) h13)))) ∧ ((csw 1082 (cfv b0 9).toNatClampNeg) = nI 7 → MetPM m_X1_readSetting [.ref 4, .ref b0] h (rI (hnd Q (At m_X1_readRest Q) 0 [some (.ref 4), some (.ref b0)] []) (fun x16 h15 => (isB x16 ∧ Q (.inl (some (.int x16))) h15)))) ∧ ((csw 1082 (cfv b0 9).toNatClampNeg) = nI 8 → MetPM m_X1_readTalks [.ref 4] h (rI (hnd Q (At m_X1_readRest Q) 0 [some (.ref 4), some (.ref b0)] []) (fun x18 h17 => (isB x18 ∧ Q (.inl (some (.int x18))) h17)))) ∧ True)))) :
    MetPM m_X1_readRest [.ref 4, .ref b0] h Q := by
  exact met_of o_X1_readRest (Nat.le_of_ble_eq_true rfl) (fun q => absurd rfl q) (vg_ok k_X1_readRest (stops := []) 77 0 0 _ [] h T)
set_option maxRecDepth 100000 in
set_option maxHeartbeats 4000000 in
theorem t_X10_takeSign {p0 : Int32} {h : PH} {Q : Res → PH → Prop}
    (T : (((gi h 1 4) = p0 → MetPM m_X10_advance [.ref 1] h (rV (hnd Q (At m_X10_takeSign Q) 0 [some (.ref 1), some (.int p0)] []) (fun h1 => (isB (nI 1) ∧ Q (.inl (some (.int (nI 1)))) h1)))) ∧ (¬ (gi h 1 4) = p0 → MetPM m_X10_fail [.ref 1, .int (nI 1)] h (rI (hnd Q (At m_X10_takeSign Q) 0 [some (.ref 1), some (.int p0)] []) (fun x3 h2 => (isB x3 ∧ Q (.inl (some (.int x3))) h2)))))) :
    MetPM m_X10_takeSign [.ref 1, .int p0] h Q := by
  exact met_of o_X10_takeSign (Nat.le_of_ble_eq_true rfl) (fun q => absurd rfl q) (vg_ok k_X10_takeSign (stops := []) 62 0 0 _ [] h T)
set_option maxRecDepth 100000 in
set_option maxHeartbeats 4000000 in
theorem t_X1_readStatement {h : PH} {Q : Res → PH → Prop}
    (T : MetPM m_X9_at [.ref 1] h (rA (hnd Q (At m_X1_readStatement Q) 0 [some (.ref 4), none, none] []) (fun b2 h1 => MetPM m_X1_errorOfFirstWord [.ref 4, .ref b2] h1 (rI (hnd Q (At m_X1_readStatement Q) 0 [some (.ref 4), some (.ref b2), none] []) (fun x4 h3 => ((x4 = 0 → MetPM m_X10_advance [.ref 1] h3 (rV (hnd Q (At m_X1_readStatement Q) 0 [some (.ref 4), some (.ref b2), some (.int x4)] []) (fun h5 => MetPM m_X1_readRest [.ref 4, .ref b2] h5 (rI (hnd Q (At m_X1_readStatement Q) 0 [some (.ref 4), some (.ref b2), some (.int x4)] []) (fun x7 h6 => ((x7 = 0 → (isB (nI 0) ∧ Q (.inl (some (.int (nI 0)))) h6)) ∧ (¬ x7 = 0 → MetPM m_X10_takeSign [.ref 1, .int (nI 3)] h6 (rI (hnd Q (At m_X1_readStatement Q) 0 [some (.ref 4), some (.ref b2), some (.int x4)] []) (fun x9 h8 => ((x9 = 0 → (isB (nI 0) ∧ Q (.inl (some (.int (nI 0)))) h8)) ∧ (¬ x9 = 0 → (isB (nI 1) ∧ Q (.inl (some (.int (nI 1)))) h8)))))))))))) ∧ (¬ x4 = 0 → MetPM m_X10_fail [.ref 1, .int x4] h3 (rI (hnd Q (At m_X1_readStatement Q) 0 [some (.ref 4), some (.ref b2), some (.int x4)] []) (fun x11 h10 => (isB x11 ∧ Q (.inl (some (.int x11))) h10)))))))) (fun h1 => MetPM m_X10_fail [.ref 1, .int (nI 1)] h1 (rI (hnd Q (At m_X1_readStatement Q) 0 [some (.ref 4), some (.null), none] []) (fun x13 h12 => (isB x13 ∧ Q (.inl (some (.int x13))) h12)))))) :
    MetPM m_X1_readStatement [.ref 4] h Q := by
  exact met_of o_X1_readStatement (Nat.le_of_ble_eq_true rfl) (fun q => absurd rfl q) (vg_ok k_X1_readStatement (stops := []) 88 0 0 _ [] h T)
set_option maxRecDepth 100000 in
set_option maxHeartbeats 4000000 in
theorem t_X1_readAll {h : PH} {Q : Res → PH → Prop}
    (T : MetPM m_X5_reset [.ref 30] h (rV (hnd Q (At m_X1_readAll Q) 0 [some (.ref 4), none] []) (fun h1 => MetPM m_X8_reset [.ref 74] h1 (rV (hnd Q (At m_X1_readAll Q) 0 [some (.ref 4), none] []) (fun h2 => MetPM m_X10_begin [.ref 1] (si h2 4 3 (nI 0)) (rV (hnd Q (At m_X1_readAll Q) 0 [some (.ref 4), none] []) (fun h3 => At m_X1_readAll Q 28 0 [some (.ref 4), some (.int (nI 0))] [] h3))))))) :
    MetPM m_X1_readAll [.ref 4] h Q := by
  exact met_of o_X1_readAll (Nat.le_of_ble_eq_true rfl) (fun q => absurd rfl q) (vg_ok k_X1_readAll (stops := [28]) 80 0 0 _ [] h T)
set_option maxRecDepth 100000 in
set_option maxHeartbeats 4000000 in
theorem u_X1_readAll_28 {v1 : Int32} {h : PH} {Q : Res → PH → Prop}
    (T : (((nI 900) ≤ v1 → (isB (nI 1) ∧ Q (.inl (some (.int (nI 1)))) h)) ∧ (¬ (nI 900) ≤ v1 → (((gi h 1 4) = 0 → (isB (nI 1) ∧ Q (.inl (some (.int (nI 1)))) h)) ∧ (¬ (gi h 1 4) = 0 → MetPM m_X1_readStatement [.ref 4] h (rI (hnd Q (At m_X1_readAll Q) 0 [some (.ref 4), some (.int v1)] []) (fun x2 h1 => ((¬ x2 = 0 → At m_X1_readAll Q 28 0 [some (.ref 4), some (.int (v1 + (nI 1)))] [] h1) ∧ (x2 = 0 → (isB (nI 0) ∧ Q (.inl (some (.int (nI 0)))) h1)))))))))) :
    At m_X1_readAll Q 28 0 [some (.ref 4), some (.int v1)] [] h := by
  exact vg_ok k_X1_readAll (stops := [28]) 80 28 0 _ _ h T
set_option maxRecDepth 100000 in
set_option maxHeartbeats 4000000 in
theorem t_X4_forget {h : PH} {Q : Res → PH → Prop}
    (T : Q (.inl none) (si h 13 1 (nI 0))) :
    MetPM m_X4_forget [.ref 13] h Q := by
  exact met_of o_X4_forget (Nat.le_of_ble_eq_true rfl) (fun q => absurd rfl q) (vg_ok k_X4_forget (stops := []) 54 0 0 _ [] h T)
set_option maxRecDepth 100000 in
set_option maxHeartbeats 4000000 in
theorem t_X4_keep {h : PH} {Q : Res → PH → Prop}
    (T : ((¬ (nI 6) = 0) ∧ (vp_in (gi (si h 13 2 (((gi h 13 2) + (nI 1)) - ((gi h 13 2) + (nI 1)) / (nI 6) * (nI 6))) 13 2) 6 ∧ ((∀ b1 : Nat, gr (si h 13 2 (((gi h 13 2) + (nI 1)) - ((gi h 13 2) + (nI 1)) / (nI 6) * (nI 6))) 14 (gi (si h 13 2 (((gi h 13 2) + (nI 1)) - ((gi h 13 2) + (nI 1)) / (nI 6) * (nI 6))) 13 2).toNatClampNeg = some b1 → obIf b1 6 (MetPM m_X8_copyFrom [.ref b1, .ref 60] (si h 13 2 (((gi h 13 2) + (nI 1)) - ((gi h 13 2) + (nI 1)) / (nI 6) * (nI 6))) (rV (hnd Q (At m_X4_keep Q) 0 [some (.ref 13), some (.ref 60), some (.ref b1)] []) (fun h2 => (let h3 : PH := (si h2 13 1 (if (nI 6) < ((gi h2 13 1) + (nI 1)) then (nI 6) else ((gi h2 13 1) + (nI 1)))); Q (.inl none) h3))))) ∧ (gr (si h 13 2 (((gi h 13 2) + (nI 1)) - ((gi h 13 2) + (nI 1)) / (nI 6) * (nI 6))) 14 (gi (si h 13 2 (((gi h 13 2) + (nI 1)) - ((gi h 13 2) + (nI 1)) / (nI 6) * (nI 6))) 13 2).toNatClampNeg = none → Q (.inl none) (si h 13 2 (((gi h 13 2) + (nI 1)) - ((gi h 13 2) + (nI 1)) / (nI 6) * (nI 6)))))))) :
    MetPM m_X4_keep [.ref 13, .ref 60] h Q := by
  exact met_of o_X4_keep (Nat.le_of_ble_eq_true rfl) (fun q => absurd rfl q) (vg_ok k_X4_keep (stops := []) 78 0 0 _ [] h T)
set_option maxRecDepth 100000 in
set_option maxHeartbeats 4000000 in
theorem t_X4_takeBack {h : PH} {Q : Res → PH → Prop}
    (T : (vp_in (gi h 13 2) 6 ∧ ((∀ b1 : Nat, gr h 14 (gi h 13 2).toNatClampNeg = some b1 → (((gi h 13 1) ≤ 0 → Q (.inl none) h) ∧ (¬ (gi h 13 1) ≤ 0 → MetPM m_X8_copyFrom [.ref 60, .ref b1] h (rV (hnd Q (At m_X4_takeBack Q) 0 [some (.ref 13), some (.ref 60), some (.ref b1)] []) (fun h2 => ((¬ (nI 6) = 0) ∧ (let h3 : PH := (si (si h2 13 2 (fmV ((gi h2 13 2) - (nI 1)) (nI 6))) 13 1 ((gi (si h2 13 2 (fmV ((gi h2 13 2) - (nI 1)) (nI 6))) 13 1) - (nI 1))); Q (.inl none) h3))))))) ∧ (gr h 14 (gi h 13 2).toNatClampNeg = none → Q (.inl none) h)))) :
    MetPM m_X4_takeBack [.ref 13, .ref 60] h Q := by
  exact met_of o_X4_takeBack (Nat.le_of_ble_eq_true rfl) (fun q => absurd rfl q) (vg_ok k_X4_takeBack (stops := []) 79 0 0 _ [] h T)
