/-! try -/
set_option maxRecDepth 100000 in
set_option maxHeartbeats 4000000 in
theorem t_X8_obey {p1 : Int32} {h : PH} {Q : Res → PH → Prop}
    (T : (vp_in p1 30 ∧ ((∀ b1 : Nat, gr h 6 p1.toNatClampNeg = some b1 → (vp_in p1 30 ∧ (vp_in p1 30 ∧ (vp_in p1 30 ∧ MetPM m_X8_isAllowed [.ref 60, .ref b1, .int (gi h 7 p1.toNatClampNeg), .int (gi h 8 p1.toNatClampNeg), .int (gi h 9 p1.toNatClampNeg)] h (rI (hnd Q (At m_X8_obey Q) 0 [some (.ref 60), some (.ref 5), some (.int p1), some (.ref b1), some (.int (gi h 7 p1.toNatClampNeg)), some (.int (gi h 8 p1.toNatClampNeg)), some (.int (gi h 9 p1.toNatClampNeg))] []) (fun x3 h2 => ((¬ x3 = 0 → At m_X8_obey Q 51 0 [some (.ref 60), some (.ref 5), some (.int p1), some (.ref b1), some (.int (gi h 7 p1.toNatClampNeg)), some (.int (gi h 8 p1.toNatClampNeg)), some (.int (gi h 9 p1.toNatClampNeg))] [] h2) ∧ (x3 = 0 → At m_X8_obey Q 49 0 [some (.ref 60), some (.ref 5), some (.int p1), some (.ref b1), some (.int (gi h 7 p1.toNatClampNeg)), some (.int (gi h 8 p1.toNatClampNeg)), some (.int (gi h 9 p1.toNatClampNeg))] [] h2)))))))) ∧ (gr h 6 p1.toNatClampNeg = none → (vp_in p1 30 ∧ (vp_in p1 30 ∧ (vp_in p1 30 ∧ At m_X8_obey Q 49 0 [some (.ref 60), some (.ref 5), some (.int p1), some (.null), some (.int (gi h 7 p1.toNatClampNeg)), some (.int (gi h 8 p1.toNatClampNeg)), some (.int (gi h 9 p1.toNatClampNeg))] [] h))))))) :
    MetPM m_X8_obey [.ref 60, .ref 5, .int p1] h Q := by
  exact met_of o_X8_obey (Nat.le_of_ble_eq_true rfl) (fun q => absurd rfl q) (vg_ok k_X8_obey (stops := [49, 51, 108, 118, 128, 136, 144, 155, 166, 178, 190, 202]) 137 0 0 _ [] h T)
set_option maxRecDepth 100000 in
set_option maxHeartbeats 4000000 in
theorem u_X8_obey_49 {v2 : Int32} {o3 : Option Value} {v4 : Int32} {v5 : Int32} {v6 : Int32} {h : PH} {Q : Res → PH → Prop}
    (T : (isB (nI 0) ∧ Q (.inl (some (.int (nI 0)))) h)) :
    At m_X8_obey Q 49 0 [some (.ref 60), some (.ref 5), some (.int v2), o3, some (.int v4), some (.int v5), some (.int v6)] [] h := by
  exact vg_ok k_X8_obey (stops := [49, 51, 108, 118, 128, 136, 144, 155, 166, 178, 190, 202]) 137 49 0 _ _ h T
set_option maxRecDepth 100000 in
set_option maxHeartbeats 4000000 in
theorem u_X8_obey_51 {v2 : Int32} {v3 : Nat} {v4 : Int32} {v5 : Int32} {v6 : Int32} {h : PH} {Q : Res → PH → Prop}
    (T : (cOk v3 21 ∧ (cAr 1083 0 ∧ vp_in (cfv v3 9) (cln 1083) ∧ (((∀ j : Nat, 1 ≤ j → j < 10 → ¬ (csw 1083 (cfv v3 9).toNatClampNeg) = nI j) → (isB (nI 0) ∧ Q (.inl (some (.int (nI 0)))) h)) ∧ ((csw 1083 (cfv v3 9).toNatClampNeg) = nI 1 → At m_X8_obey Q 108 0 [some (.ref 60), some (.ref 5), some (.int v2), some (.ref v3), some (.int v4), some (.int v5), some (.int v6)] [] h) ∧ ((csw 1083 (cfv v3 9).toNatClampNeg) = nI 2 → At m_X8_obey Q 118 0 [some (.ref 60), some (.ref 5), some (.int v2), some (.ref v3), some (.int v4), some (.int v5), some (.int v6)] [] h) ∧ ((csw 1083 (cfv v3 9).toNatClampNeg) = nI 3 → At m_X8_obey Q 128 0 [some (.ref 60), some (.ref 5), some (.int v2), some (.ref v3), some (.int v4), some (.int v5), some (.int v6)] [] h) ∧ ((csw 1083 (cfv v3 9).toNatClampNeg) = nI 4 → At m_X8_obey Q 136 0 [some (.ref 60), some (.ref 5), some (.int v2), some (.ref v3), some (.int v4), some (.int v5), some (.int v6)] [] h) ∧ ((csw 1083 (cfv v3 9).toNatClampNeg) = nI 5 → At m_X8_obey Q 144 0 [some (.ref 60), some (.ref 5), some (.int v2), some (.ref v3), some (.int v4), some (.int v5), some (.int v6)] [] h) ∧ ((csw 1083 (cfv v3 9).toNatClampNeg) = nI 6 → At m_X8_obey Q 155 0 [some (.ref 60), some (.ref 5), some (.int v2), some (.ref v3), some (.int v4), some (.int v5), some (.int v6)] [] h) ∧ ((csw 1083 (cfv v3 9).toNatClampNeg) = nI 7 → At m_X8_obey Q 166 0 [some (.ref 60), some (.ref 5), some (.int v2), some (.ref v3), some (.int v4), some (.int v5), some (.int v6)] [] h) ∧ ((csw 1083 (cfv v3 9).toNatClampNeg) = nI 8 → At m_X8_obey Q 178 0 [some (.ref 60), some (.ref 5), some (.int v2), some (.ref v3), some (.int v4), some (.int v5), some (.int v6)] [] h) ∧ ((csw 1083 (cfv v3 9).toNatClampNeg) = nI 9 → At m_X8_obey Q 190 0 [some (.ref 60), some (.ref 5), some (.int v2), some (.ref v3), some (.int v4), some (.int v5), some (.int v6)] [] h) ∧ True)))) :
    At m_X8_obey Q 51 0 [some (.ref 60), some (.ref 5), some (.int v2), some (.ref v3), some (.int v4), some (.int v5), some (.int v6)] [] h := by
  exact vg_ok k_X8_obey (stops := [49, 51, 108, 118, 128, 136, 144, 155, 166, 178, 190, 202]) 137 51 0 _ _ h T
set_option maxRecDepth 100000 in
set_option maxHeartbeats 4000000 in
theorem u_X8_obey_108 {v2 : Int32} {v3 : Nat} {v4 : Int32} {v5 : Int32} {v6 : Int32} {h : PH} {Q : Res → PH → Prop}
    (T : MetPM m_X8_passMinutes [.ref 60, .int v6] h (rI (hnd Q (At m_X8_obey Q) 0 [some (.ref 60), some (.ref 5), some (.int v2), some (.ref v3), some (.int v4), some (.int v5), some (.int v6)] []) (fun x2 h1 => At m_X8_obey Q 202 0 [some (.ref 60), some (.ref 5), some (.int v2), some (.ref v3), some (.int v4), some (.int v5), some (.int v6)] [] h1))) :
    At m_X8_obey Q 108 0 [some (.ref 60), some (.ref 5), some (.int v2), some (.ref v3), some (.int v4), some (.int v5), some (.int v6)] [] h := by
  exact vg_ok k_X8_obey (stops := [49, 51, 108, 118, 128, 136, 144, 155, 166, 178, 190, 202]) 137 108 0 _ _ h T
set_option maxRecDepth 100000 in
set_option maxHeartbeats 4000000 in
theorem u_X8_obey_118 {v2 : Int32} {v3 : Nat} {v4 : Int32} {v5 : Int32} {v6 : Int32} {h : PH} {Q : Res → PH → Prop}
    (T : MetPM m_X8_startPlan [.ref 60, .int v5] h (rI (hnd Q (At m_X8_obey Q) 0 [some (.ref 60), some (.ref 5), some (.int v2), some (.ref v3), some (.int v4), some (.int v5), some (.int v6)] []) (fun x2 h1 => At m_X8_obey Q 202 0 [some (.ref 60), some (.ref 5), some (.int v2), some (.ref v3), some (.int v4), some (.int v5), some (.int v6)] [] h1))) :
    At m_X8_obey Q 118 0 [some (.ref 60), some (.ref 5), some (.int v2), some (.ref v3), some (.int v4), some (.int v5), some (.int v6)] [] h := by
  exact vg_ok k_X8_obey (stops := [49, 51, 108, 118, 128, 136, 144, 155, 166, 178, 190, 202]) 137 118 0 _ _ h T
set_option maxRecDepth 100000 in
set_option maxHeartbeats 4000000 in
theorem u_X8_obey_128 {v2 : Int32} {v3 : Nat} {v4 : Int32} {v5 : Int32} {v6 : Int32} {h : PH} {Q : Res → PH → Prop}
    (T : MetPM m_X8_stopPlan [.ref 60] h (rI (hnd Q (At m_X8_obey Q) 0 [some (.ref 60), some (.ref 5), some (.int v2), some (.ref v3), some (.int v4), some (.int v5), some (.int v6)] []) (fun x2 h1 => At m_X8_obey Q 202 0 [some (.ref 60), some (.ref 5), some (.int v2), some (.ref v3), some (.int v4), some (.int v5), some (.int v6)] [] h1))) :
    At m_X8_obey Q 128 0 [some (.ref 60), some (.ref 5), some (.int v2), some (.ref v3), some (.int v4), some (.int v5), some (.int v6)] [] h := by
  exact vg_ok k_X8_obey (stops := [49, 51, 108, 118, 128, 136, 144, 155, 166, 178, 190, 202]) 137 128 0 _ _ h T
set_option maxRecDepth 100000 in
set_option maxHeartbeats 4000000 in
theorem u_X8_obey_136 {v2 : Int32} {v3 : Nat} {v4 : Int32} {v5 : Int32} {v6 : Int32} {h : PH} {Q : Res → PH → Prop}
    (T : MetPM m_X8_resumePlan [.ref 60] h (rI (hnd Q (At m_X8_obey Q) 0 [some (.ref 60), some (.ref 5), some (.int v2), some (.ref v3), some (.int v4), some (.int v5), some (.int v6)] []) (fun x2 h1 => At m_X8_obey Q 202 0 [some (.ref 60), some (.ref 5), some (.int v2), some (.ref v3), some (.int v4), some (.int v5), some (.int v6)] [] h1))) :
    At m_X8_obey Q 136 0 [some (.ref 60), some (.ref 5), some (.int v2), some (.ref v3), some (.int v4), some (.int v5), some (.int v6)] [] h := by
  exact vg_ok k_X8_obey (stops := [49, 51, 108, 118, 128, 136, 144, 155, 166, 178, 190, 202]) 137 136 0 _ _ h T
set_option maxRecDepth 100000 in
set_option maxHeartbeats 4000000 in
theorem u_X8_obey_144 {v2 : Int32} {v3 : Nat} {v4 : Int32} {v5 : Int32} {v6 : Int32} {h : PH} {Q : Res → PH → Prop}
    (T : MetPM m_X8_setHeld [.ref 60, .int v4, .int (nI 1)] h (rI (hnd Q (At m_X8_obey Q) 0 [some (.ref 60), some (.ref 5), some (.int v2), some (.ref v3), some (.int v4), some (.int v5), some (.int v6)] []) (fun x2 h1 => At m_X8_obey Q 202 0 [some (.ref 60), some (.ref 5), some (.int v2), some (.ref v3), some (.int v4), some (.int v5), some (.int v6)] [] h1))) :
    At m_X8_obey Q 144 0 [some (.ref 60), some (.ref 5), some (.int v2), some (.ref v3), some (.int v4), some (.int v5), some (.int v6)] [] h := by
  exact vg_ok k_X8_obey (stops := [49, 51, 108, 118, 128, 136, 144, 155, 166, 178, 190, 202]) 137 144 0 _ _ h T
set_option maxRecDepth 100000 in
set_option maxHeartbeats 4000000 in
theorem u_X8_obey_155 {v2 : Int32} {v3 : Nat} {v4 : Int32} {v5 : Int32} {v6 : Int32} {h : PH} {Q : Res → PH → Prop}
    (T : MetPM m_X8_setHeld [.ref 60, .int v4, .int (nI 0)] h (rI (hnd Q (At m_X8_obey Q) 0 [some (.ref 60), some (.ref 5), some (.int v2), some (.ref v3), some (.int v4), some (.int v5), some (.int v6)] []) (fun x2 h1 => At m_X8_obey Q 202 0 [some (.ref 60), some (.ref 5), some (.int v2), some (.ref v3), some (.int v4), some (.int v5), some (.int v6)] [] h1))) :
    At m_X8_obey Q 155 0 [some (.ref 60), some (.ref 5), some (.int v2), some (.ref v3), some (.int v4), some (.int v5), some (.int v6)] [] h := by
  exact vg_ok k_X8_obey (stops := [49, 51, 108, 118, 128, 136, 144, 155, 166, 178, 190, 202]) 137 155 0 _ _ h T
set_option maxRecDepth 100000 in
set_option maxHeartbeats 4000000 in
theorem u_X8_obey_166 {v2 : Int32} {v3 : Nat} {v4 : Int32} {v5 : Int32} {v6 : Int32} {h : PH} {Q : Res → PH → Prop}
    (T : MetPM m_X8_setMeasure [.ref 60, .int v4, .int v6] h (rI (hnd Q (At m_X8_obey Q) 0 [some (.ref 60), some (.ref 5), some (.int v2), some (.ref v3), some (.int v4), some (.int v5), some (.int v6)] []) (fun x2 h1 => At m_X8_obey Q 202 0 [some (.ref 60), some (.ref 5), some (.int v2), some (.ref v3), some (.int v4), some (.int v5), some (.int v6)] [] h1))) :
    At m_X8_obey Q 166 0 [some (.ref 60), some (.ref 5), some (.int v2), some (.ref v3), some (.int v4), some (.int v5), some (.int v6)] [] h := by
  exact vg_ok k_X8_obey (stops := [49, 51, 108, 118, 128, 136, 144, 155, 166, 178, 190, 202]) 137 166 0 _ _ h T
set_option maxRecDepth 100000 in
set_option maxHeartbeats 4000000 in
theorem u_X8_obey_178 {v2 : Int32} {v3 : Nat} {v4 : Int32} {v5 : Int32} {v6 : Int32} {h : PH} {Q : Res → PH → Prop}
    (T : MetPM m_X8_beginChange [.ref 60, .int v4, .int v5] h (rI (hnd Q (At m_X8_obey Q) 0 [some (.ref 60), some (.ref 5), some (.int v2), some (.ref v3), some (.int v4), some (.int v5), some (.int v6)] []) (fun x2 h1 => At m_X8_obey Q 202 0 [some (.ref 60), some (.ref 5), some (.int v2), some (.ref v3), some (.int v4), some (.int v5), some (.int v6)] [] h1))) :
    At m_X8_obey Q 178 0 [some (.ref 60), some (.ref 5), some (.int v2), some (.ref v3), some (.int v4), some (.int v5), some (.int v6)] [] h := by
  exact vg_ok k_X8_obey (stops := [49, 51, 108, 118, 128, 136, 144, 155, 166, 178, 190, 202]) 137 178 0 _ _ h T
set_option maxRecDepth 100000 in
set_option maxHeartbeats 4000000 in
theorem u_X8_obey_190 {v2 : Int32} {v3 : Nat} {v4 : Int32} {v5 : Int32} {v6 : Int32} {h : PH} {Q : Res → PH → Prop}
    (T : MetPM m_X8_setFormat [.ref 60, .int v6] h (rI (hnd Q (At m_X8_obey Q) 0 [some (.ref 60), some (.ref 5), some (.int v2), some (.ref v3), some (.int v4), some (.int v5), some (.int v6)] []) (fun x2 h1 => At m_X8_obey Q 202 0 [some (.ref 60), some (.ref 5), some (.int v2), some (.ref v3), some (.int v4), some (.int v5), some (.int v6)] [] h1))) :
    At m_X8_obey Q 190 0 [some (.ref 60), some (.ref 5), some (.int v2), some (.ref v3), some (.int v4), some (.int v5), some (.int v6)] [] h := by
  exact vg_ok k_X8_obey (stops := [49, 51, 108, 118, 128, 136, 144, 155, 166, 178, 190, 202]) 137 190 0 _ _ h T
set_option maxRecDepth 100000 in
set_option maxHeartbeats 4000000 in
theorem u_X8_obey_202 {v2 : Int32} {v3 : Nat} {v4 : Int32} {v5 : Int32} {v6 : Int32} {h : PH} {Q : Res → PH → Prop}
    (T : (isB (nI 1) ∧ Q (.inl (some (.int (nI 1)))) h)) :
    At m_X8_obey Q 202 0 [some (.ref 60), some (.ref 5), some (.int v2), some (.ref v3), some (.int v4), some (.int v5), some (.int v6)] [] h := by
  exact vg_ok k_X8_obey (stops := [49, 51, 108, 118, 128, 136, 144, 155, 166, 178, 190, 202]) 137 202 0 _ _ h T
