/-! ===== what each method does, step by step, 6 ===== -/
set_option maxRecDepth 100000 in
set_option maxHeartbeats 4000000 in
theorem t_X12_minute {h : PH} {Q : Res → PH → Prop}
    (T : (vp_in (nI 11) 253 ∧ (vp_in (nI 11) 253 ∧ MetPM m_X12_endsChanges [.ref 130] (si h 132 (nI 11).toNatClampNeg ((gi h 132 (nI 11).toNatClampNeg) + (nI 1))) (rV (hnd Q (At m_X12_minute Q) 0 [some (.ref 130)] []) (fun h1 => MetPM m_X12_measures [.ref 130] h1 (rV (hnd Q (At m_X12_minute Q) 0 [some (.ref 130)] []) (fun h2 => MetPM m_X12_isGoing [.ref 130] h2 (rI (hnd Q (At m_X12_minute Q) 0 [some (.ref 130)] []) (fun x4 h3 => ((x4 = 0 → At m_X12_minute Q 49 0 [some (.ref 130)] [] h3) ∧ (¬ x4 = 0 → (vp_in (nI 10) 253 ∧ (((gi h3 130 26) ≤ ((gi h3 132 (nI 10).toNatClampNeg) * (gi h3 130 25)) → At m_X12_minute Q 49 0 [some (.ref 130)] [] h3) ∧ (¬ (gi h3 130 26) ≤ ((gi h3 132 (nI 10).toNatClampNeg) * (gi h3 130 25)) → MetPM m_X12_stops [.ref 130] h3 (rV (hnd Q (At m_X12_minute Q) 0 [some (.ref 130)] []) (fun h5 => At m_X12_minute Q 49 0 [some (.ref 130)] [] h5)))))))))))))))) :
    MetPM m_X12_minute [.ref 130] h Q := by
  exact met_of o_X12_minute (Nat.le_of_ble_eq_true rfl) (fun q => absurd rfl q) (vg_ok k_X12_minute (stops := [49, 81, 96]) 103 0 0 _ [] h T)
set_option maxRecDepth 100000 in
set_option maxHeartbeats 4000000 in
theorem u_X12_minute_49 {h : PH} {Q : Res → PH → Prop}
    (T : (vp_in (nI 12) 253 ∧ ((¬ (gi h 132 (nI 12).toNatClampNeg) = (nI 2) → At m_X12_minute Q 81 0 [some (.ref 130)] [] h) ∧ ((gi h 132 (nI 12).toNatClampNeg) = (nI 2) → (vp_in (nI 11) 253 ∧ (vp_in (nI 16) 253 ∧ (((gi h 132 (nI 11).toNatClampNeg) < (gi h 132 (nI 16).toNatClampNeg) → At m_X12_minute Q 81 0 [some (.ref 130)] [] h) ∧ (¬ (gi h 132 (nI 11).toNatClampNeg) < (gi h 132 (nI 16).toNatClampNeg) → MetPM m_X12_takesNext [.ref 130] h (rV (hnd Q (At m_X12_minute Q) 0 [some (.ref 130)] []) (fun h1 => At m_X12_minute Q 81 0 [some (.ref 130)] [] h1)))))))))) :
    At m_X12_minute Q 49 0 [some (.ref 130)] [] h := by
  exact vg_ok k_X12_minute (stops := [49, 81, 96]) 103 49 0 _ _ h T
set_option maxRecDepth 100000 in
set_option maxHeartbeats 4000000 in
theorem u_X12_minute_81 {h : PH} {Q : Res → PH → Prop}
    (T : (vp_in (nI 12) 253 ∧ ((¬ (gi h 132 (nI 12).toNatClampNeg) = (nI 1) → At m_X12_minute Q 96 0 [some (.ref 130)] [] h) ∧ ((gi h 132 (nI 12).toNatClampNeg) = (nI 1) → MetPM m_X12_rolls [.ref 130] h (rV (hnd Q (At m_X12_minute Q) 0 [some (.ref 130)] []) (fun h1 => At m_X12_minute Q 96 0 [some (.ref 130)] [] h1)))))) :
    At m_X12_minute Q 81 0 [some (.ref 130)] [] h := by
  exact vg_ok k_X12_minute (stops := [49, 81, 96]) 103 81 0 _ _ h T
set_option maxRecDepth 100000 in
set_option maxHeartbeats 4000000 in
theorem u_X12_minute_96 {h : PH} {Q : Res → PH → Prop}
    (T : Q (.inl none) h) :
    At m_X12_minute Q 96 0 [some (.ref 130)] [] h := by
  exact vg_ok k_X12_minute (stops := [49, 81, 96]) 103 96 0 _ _ h T
set_option maxRecDepth 100000 in
set_option maxHeartbeats 4000000 in
theorem t_X12_passes {p0 : Int32} {h : PH} {Q : Res → PH → Prop}
    (T : At m_X12_passes Q 2 0 [some (.ref 130), some (.int p0), some (.int (nI 0))] [] h) :
    MetPM m_X12_passes [.ref 130, .int p0] h Q := by
  exact met_of o_X12_passes (Nat.le_of_ble_eq_true rfl) (fun q => absurd rfl q) (vg_ok k_X12_passes (stops := [2]) 64 0 0 _ [] h T)
set_option maxRecDepth 100000 in
set_option maxHeartbeats 4000000 in
theorem u_X12_passes_2 {v1 : Int32} {v2 : Int32} {h : PH} {Q : Res → PH → Prop}
    (T : ((v1 ≤ v2 → (vp_in (nI 11) 253 ∧ Q (.inl (some (.int (gi h 132 (nI 11).toNatClampNeg)))) h)) ∧ (¬ v1 ≤ v2 → MetPM m_X12_minute [.ref 130] h (rV (hnd Q (At m_X12_passes Q) 0 [some (.ref 130), some (.int v1), some (.int v2)] []) (fun h1 => At m_X12_passes Q 2 0 [some (.ref 130), some (.int v1), some (.int (v2 + (nI 1)))] [] h1))))) :
    At m_X12_passes Q 2 0 [some (.ref 130), some (.int v1), some (.int v2)] [] h := by
  exact vg_ok k_X12_passes (stops := [2]) 64 2 0 _ _ h T
set_option maxRecDepth 100000 in
set_option maxHeartbeats 4000000 in
theorem t_X12_starts {p0 : Int32} {h : PH} {Q : Res → PH → Prop}
    (T : At m_X12_starts Q 7 0 [some (.ref 130), some (.int p0), some (.int (-(nI 1))), some (.int (-(nI 1))), some (.int (nI 0)), none] [] h) :
    MetPM m_X12_starts [.ref 130, .int p0] h Q := by
  exact met_of o_X12_starts (Nat.le_of_ble_eq_true rfl) (fun q => absurd rfl q) (vg_ok k_X12_starts (stops := [7, 49, 69, 113, 119]) 153 0 0 _ [] h T)
set_option maxRecDepth 100000 in
set_option maxHeartbeats 4000000 in
theorem u_X12_starts_7 {v1 : Int32} {v2 : Int32} {v3 : Int32} {v4 : Int32} {o5 : Option Value} {h : PH} {Q : Res → PH → Prop}
    (T : (vp_in (nI 2) 253 ∧ (((gi h 132 (nI 2).toNatClampNeg) ≤ v4 → MetPM m_X12_notes [.ref 130, .int (nI 2), .int (-(nI 1)), .int v1] h (rV (hnd Q (At m_X12_starts Q) 0 [some (.ref 130), some (.int v1), some (.int v2), some (.int v3), some (.int v4), o5] []) (fun h1 => (vp_in (nI 13) 253 ∧ (vp_in (nI 15) 253 ∧ ((v2 = (-(nI 1)) → At m_X12_starts Q 113 0 [some (.ref 130), some (.int v1), some (.int v2), some (.int v3), some (.int v4), o5] [] (si (si h1 132 (nI 13).toNatClampNeg v1) 132 (nI 15).toNatClampNeg (nI 0))) ∧ (¬ v2 = (-(nI 1)) → ((¬ v2 = v1 → At m_X12_starts Q 119 0 [some (.ref 130), some (.int v1), some (.int v2), some (.int v3), some (.int v4), o5] [] (si (si h1 132 (nI 13).toNatClampNeg v1) 132 (nI 15).toNatClampNeg (nI 0))) ∧ (v2 = v1 → ((¬ v3 = v1 → At m_X12_starts Q 119 0 [some (.ref 130), some (.int v1), some (.int v2), some (.int v3), some (.int v4), o5] [] (si (si h1 132 (nI 13).toNatClampNeg v1) 132 (nI 15).toNatClampNeg (nI 0))) ∧ (v3 = v1 → At m_X12_starts Q 113 0 [some (.ref 130), some (.int v1), some (.int v2), some (.int v3), some (.int v4), o5] [] (si (si h1 132 (nI 13).toNatClampNeg v1) 132 (nI 15).toNatClampNeg (nI 0))))))))))))) ∧ (¬ (gi h 132 (nI 2).toNatClampNeg) ≤ v4 → MetPM m_X12_isFree [.ref 130, .int v4] h (rI (hnd Q (At m_X12_starts Q) 0 [some (.ref 130), some (.int v1), some (.int v2), some (.int v3), some (.int v4), o5] []) (fun x3 h2 => ((¬ x3 = 0 → MetPM m_X12_coming [.ref 130, .int v4] h2 (rI (hnd Q (At m_X12_starts Q) 0 [some (.ref 130), some (.int v1), some (.int v2), some (.int v3), some (.int v4), o5] []) (fun x5 h4 => ((v2 = (-(nI 1)) → At m_X12_starts Q 49 0 [some (.ref 130), some (.int v1), some (.int v2), some (.int v3), some (.int v4), some (.int x5)] [] h4) ∧ (¬ v2 = (-(nI 1)) → ((v2 ≤ x5 → ((x5 ≤ v3 → At m_X12_starts Q 69 0 [some (.ref 130), some (.int v1), some (.int v2), some (.int v3), some (.int v4), some (.int x5)] [] h4) ∧ (¬ x5 ≤ v3 → At m_X12_starts Q 69 0 [some (.ref 130), some (.int v1), some (.int v2), some (.int x5), some (.int v4), some (.int x5)] [] h4))) ∧ (¬ v2 ≤ x5 → At m_X12_starts Q 49 0 [some (.ref 130), some (.int v1), some (.int v2), some (.int v3), some (.int v4), some (.int x5)] [] h4))))))) ∧ (x3 = 0 → At m_X12_starts Q 69 0 [some (.ref 130), some (.int v1), some (.int v2), some (.int v3), some (.int v4), o5] [] h2)))))))) :
    At m_X12_starts Q 7 0 [some (.ref 130), some (.int v1), some (.int v2), some (.int v3), some (.int v4), o5] [] h := by
  exact vg_ok k_X12_starts (stops := [7, 49, 69, 113, 119]) 153 7 0 _ _ h T
set_option maxRecDepth 100000 in
set_option maxHeartbeats 4000000 in
theorem u_X12_starts_49 {v1 : Int32} {v2 : Int32} {v3 : Int32} {v4 : Int32} {v5 : Int32} {h : PH} {Q : Res → PH → Prop}
    (T : ((v5 ≤ v3 → At m_X12_starts Q 69 0 [some (.ref 130), some (.int v1), some (.int v5), some (.int v3), some (.int v4), some (.int v5)] [] h) ∧ (¬ v5 ≤ v3 → At m_X12_starts Q 69 0 [some (.ref 130), some (.int v1), some (.int v5), some (.int v5), some (.int v4), some (.int v5)] [] h))) :
    At m_X12_starts Q 49 0 [some (.ref 130), some (.int v1), some (.int v2), some (.int v3), some (.int v4), some (.int v5)] [] h := by
  exact vg_ok k_X12_starts (stops := [7, 49, 69, 113, 119]) 153 49 0 _ _ h T
set_option maxRecDepth 100000 in
set_option maxHeartbeats 4000000 in
theorem u_X12_starts_69 {v1 : Int32} {v2 : Int32} {v3 : Int32} {v4 : Int32} {o5 : Option Value} {h : PH} {Q : Res → PH → Prop}
    (T : At m_X12_starts Q 7 0 [some (.ref 130), some (.int v1), some (.int v2), some (.int v3), some (.int (v4 + (nI 1))), o5] [] h) :
    At m_X12_starts Q 69 0 [some (.ref 130), some (.int v1), some (.int v2), some (.int v3), some (.int v4), o5] [] h := by
  exact vg_ok k_X12_starts (stops := [7, 49, 69, 113, 119]) 153 69 0 _ _ h T
set_option maxRecDepth 100000 in
set_option maxHeartbeats 4000000 in
theorem u_X12_starts_113 {v1 : Int32} {v2 : Int32} {v3 : Int32} {v4 : Int32} {o5 : Option Value} {h : PH} {Q : Res → PH → Prop}
    (T : MetPM m_X12_isDone [.ref 130] h (rV (hnd Q (At m_X12_starts Q) 0 [some (.ref 130), some (.int v1), some (.int v2), some (.int v3), some (.int v4), o5] []) (fun h1 => Q (.inl (some (.int (-(nI 1))))) h1))) :
    At m_X12_starts Q 113 0 [some (.ref 130), some (.int v1), some (.int v2), some (.int v3), some (.int v4), o5] [] h := by
  exact vg_ok k_X12_starts (stops := [7, 49, 69, 113, 119]) 153 113 0 _ _ h T
set_option maxRecDepth 100000 in
set_option maxHeartbeats 4000000 in
theorem u_X12_starts_119 {v1 : Int32} {v2 : Int32} {v3 : Int32} {v4 : Int32} {o5 : Option Value} {h : PH} {Q : Res → PH → Prop}
    (T : ((v1 ≤ v2 → MetPM m_X12_truth [.int (nI 0)] h (rI (hnd Q (At m_X12_starts Q) 0 [some (.ref 130), some (.int v1), some (.int v2), some (.int v3), some (.int v4), o5] []) (fun x2 h1 => (vp_in (nI 17) 253 ∧ ((v1 ≤ v2 → (vp_in (nI 14) 253 ∧ (vp_in (nI 12) 253 ∧ (let h3 : PH := (si (si (si h1 132 (nI 17).toNatClampNeg x2) 132 (nI 14).toNatClampNeg (v3 - (nI 1))) 132 (nI 12).toNatClampNeg (nI 1)); (vp_in (nI 14) 253 ∧ Q (.inl (some (.int (gi h3 132 (nI 14).toNatClampNeg)))) h3))))) ∧ (¬ v1 ≤ v2 → (vp_in (nI 14) 253 ∧ (vp_in (nI 12) 253 ∧ (let h4 : PH := (si (si (si h1 132 (nI 17).toNatClampNeg x2) 132 (nI 14).toNatClampNeg (v2 + (nI 1))) 132 (nI 12).toNatClampNeg (nI 1)); (vp_in (nI 14) 253 ∧ Q (.inl (some (.int (gi h4 132 (nI 14).toNatClampNeg)))) h4)))))))))) ∧ (¬ v1 ≤ v2 → MetPM m_X12_truth [.int (nI 1)] h (rI (hnd Q (At m_X12_starts Q) 0 [some (.ref 130), some (.int v1), some (.int v2), some (.int v3), some (.int v4), o5] []) (fun x6 h5 => (vp_in (nI 17) 253 ∧ ((v1 ≤ v2 → (vp_in (nI 14) 253 ∧ (vp_in (nI 12) 253 ∧ (let h7 : PH := (si (si (si h5 132 (nI 17).toNatClampNeg x6) 132 (nI 14).toNatClampNeg (v3 - (nI 1))) 132 (nI 12).toNatClampNeg (nI 1)); (vp_in (nI 14) 253 ∧ Q (.inl (some (.int (gi h7 132 (nI 14).toNatClampNeg)))) h7))))) ∧ (¬ v1 ≤ v2 → (vp_in (nI 14) 253 ∧ (vp_in (nI 12) 253 ∧ (let h8 : PH := (si (si (si h5 132 (nI 17).toNatClampNeg x6) 132 (nI 14).toNatClampNeg (v2 + (nI 1))) 132 (nI 12).toNatClampNeg (nI 1)); (vp_in (nI 14) 253 ∧ Q (.inl (some (.int (gi h8 132 (nI 14).toNatClampNeg)))) h8)))))))))))) :
    At m_X12_starts Q 119 0 [some (.ref 130), some (.int v1), some (.int v2), some (.int v3), some (.int v4), o5] [] h := by
  exact vg_ok k_X12_starts (stops := [7, 49, 69, 113, 119]) 153 119 0 _ _ h T
set_option maxRecDepth 100000 in
set_option maxHeartbeats 4000000 in
theorem t_X12_goesOn {h : PH} {Q : Res → PH → Prop}
    (T : (vp_in (nI 18) 253 ∧ (vp_in (nI 12) 253 ∧ (vp_in (nI 15) 253 ∧ (let y1 : Int32 := (gi (si h 132 (nI 12).toNatClampNeg (gi h 132 (nI 18).toNatClampNeg)) 132 (nI 15).toNatClampNeg); MetPM m_X12_notes [.ref 130, .int (nI 5), .int (-(nI 1)), .int y1] (si h 132 (nI 12).toNatClampNeg (gi h 132 (nI 18).toNatClampNeg)) (rV (hnd Q (At m_X12_goesOn Q) 0 [some (.ref 130)] []) (fun h2 => (vp_in (nI 15) 253 ∧ Q (.inl (some (.int (gi h2 132 (nI 15).toNatClampNeg)))) h2)))))))) :
    MetPM m_X12_goesOn [.ref 130] h Q := by
  exact met_of o_X12_goesOn (Nat.le_of_ble_eq_true rfl) (fun q => absurd rfl q) (vg_ok k_X12_goesOn (stops := []) 71 0 0 _ [] h T)
set_option maxRecDepth 100000 in
set_option maxHeartbeats 4000000 in
theorem t_X12_holds {p0 : Int32} {p1 : Int32} {h : PH} {Q : Res → PH → Prop}
    (T : MetPM m_X12_truth [.int p1] h (rI (hnd Q (At m_X12_holds Q) 0 [some (.ref 130), some (.int p0), some (.int p1), none, none] []) (fun x2 h1 => MetPM m_X12_lays [.ref 130, .int p0, .int (nI 5), .int x2] h1 (rV (hnd Q (At m_X12_holds Q) 0 [some (.ref 130), some (.int p0), some (.int p1), none, none] []) (fun h3 => MetPM m_X12_truth [.int p1] h3 (rI (hnd Q (At m_X12_holds Q) 0 [some (.ref 130), some (.int p0), some (.int p1), none, none] []) (fun x5 h4 => MetPM m_X12_notes [.ref 130, .int (nI 8), .int p0, .int x5] h4 (rV (hnd Q (At m_X12_holds Q) 0 [some (.ref 130), some (.int p0), some (.int p1), none, none] []) (fun h6 => At m_X12_holds Q 26 0 [some (.ref 130), some (.int p0), some (.int p1), some (.int (nI 0)), some (.int (nI 0))] [] h6))))))))) :
    MetPM m_X12_holds [.ref 130, .int p0, .int p1] h Q := by
  exact met_of o_X12_holds (Nat.le_of_ble_eq_true rfl) (fun q => absurd rfl q) (vg_ok k_X12_holds (stops := [26]) 83 0 0 _ [] h T)
set_option maxRecDepth 100000 in
set_option maxHeartbeats 4000000 in
theorem u_X12_holds_26 {v1 : Int32} {v2 : Int32} {v3 : Int32} {v4 : Int32} {h : PH} {Q : Res → PH → Prop}
    (T : (vp_in (nI 2) 253 ∧ (((gi h 132 (nI 2).toNatClampNeg) ≤ v4 → Q (.inl (some (.int v3))) h) ∧ (¬ (gi h 132 (nI 2).toNatClampNeg) ≤ v4 → MetPM m_X12_of [.ref 130, .int v4, .int (nI 5)] h (rI (hnd Q (At m_X12_holds Q) 0 [some (.ref 130), some (.int v1), some (.int v2), some (.int v3), some (.int v4)] []) (fun x2 h1 => At m_X12_holds Q 26 0 [some (.ref 130), some (.int v1), some (.int v2), some (.int (v3 + x2)), some (.int (v4 + (nI 1)))] [] h1)))))) :
    At m_X12_holds Q 26 0 [some (.ref 130), some (.int v1), some (.int v2), some (.int v3), some (.int v4)] [] h := by
  exact vg_ok k_X12_holds (stops := [26]) 83 26 0 _ _ h T
set_option maxRecDepth 100000 in
set_option maxHeartbeats 4000000 in
theorem t_X12_reports {p0 : Int32} {p1 : Int32} {h : PH} {Q : Res → PH → Prop}
    (T : MetPM m_X12_of [.ref 130, .int p0, .int (nI 4)] h (rI (hnd Q (At m_X12_reports Q) 0 [some (.ref 130), some (.int p0), some (.int p1), none] []) (fun x2 h1 => MetPM m_X12_lays [.ref 130, .int p0, .int (nI 4), .int p1] h1 (rV (hnd Q (At m_X12_reports Q) 0 [some (.ref 130), some (.int p0), some (.int p1), some (.int x2)] []) (fun h3 => Q (.inl (some (.int x2))) h3))))) :
    MetPM m_X12_reports [.ref 130, .int p0, .int p1] h Q := by
  exact met_of o_X12_reports (Nat.le_of_ble_eq_true rfl) (fun q => absurd rfl q) (vg_ok k_X12_reports (stops := []) 62 0 0 _ [] h T)
set_option maxRecDepth 100000 in
set_option maxHeartbeats 4000000 in
theorem t_X12_changes {p0 : Int32} {p1 : Int32} {h : PH} {Q : Res → PH → Prop}
    (T : MetPM m_X12_begins [.ref 130, .int p0, .int p1] h (rV (hnd Q (At m_X12_changes Q) 0 [some (.ref 130), some (.int p0), some (.int p1)] []) (fun h1 => MetPM m_X12_of [.ref 130, .int p0, .int (nI 3)] h1 (rI (hnd Q (At m_X12_changes Q) 0 [some (.ref 130), some (.int p0), some (.int p1)] []) (fun x3 h2 => Q (.inl (some (.int x3))) h2))))) :
    MetPM m_X12_changes [.ref 130, .int p0, .int p1] h Q := by
  exact met_of o_X12_changes (Nat.le_of_ble_eq_true rfl) (fun q => absurd rfl q) (vg_ok k_X12_changes (stops := []) 59 0 0 _ [] h T)
set_option maxRecDepth 100000 in
set_option maxHeartbeats 4000000 in
theorem t_X12_commits {p0 : Int32} {h : PH} {Q : Res → PH → Prop}
    (T : (vp_in (nI 5) 253 ∧ (vp_in (nI 5) 253 ∧ MetPM m_X12_notes [.ref 130, .int (nI 7), .int (-(nI 1)), .int p0] (si h 132 (nI 5).toNatClampNeg p0) (rV (hnd Q (At m_X12_commits Q) 0 [some (.ref 130), some (.int p0), some (.int (gi h 132 (nI 5).toNatClampNeg))] []) (fun h1 => Q (.inl (some (.int (gi h 132 (nI 5).toNatClampNeg)))) h1))))) :
    MetPM m_X12_commits [.ref 130, .int p0] h Q := by
  exact met_of o_X12_commits (Nat.le_of_ble_eq_true rfl) (fun q => absurd rfl q) (vg_ok k_X12_commits (stops := []) 67 0 0 _ [] h T)
set_option maxRecDepth 100000 in
set_option maxHeartbeats 4000000 in
theorem t_X12_does {p0 : Int32} {p1 : Int32} {p2 : Int32} {h : PH} {Q : Res → PH → Prop}
    (T : MetPM m_X12_may [.ref 130, .int p0, .int p1, .int p2] h (rI (hnd Q (At m_X12_does Q) 0 [some (.ref 130), some (.int p0), some (.int p1), some (.int p2)] []) (fun x2 h1 => ((¬ x2 = 0 → ((¬ p0 = 0 → At m_X12_does Q 25 0 [some (.ref 130), some (.int p0), some (.int p1), some (.int p2)] [] h1) ∧ (p0 = 0 → MetPM m_X12_passes [.ref 130, .int p1] h1 (rI (hnd Q (At m_X12_does Q) 0 [some (.ref 130), some (.int p0), some (.int p1), some (.int p2)] []) (fun x4 h3 => At m_X12_does Q 25 0 [some (.ref 130), some (.int p0), some (.int p1), some (.int p2)] [] (si h3 130 36 x4)))))) ∧ (x2 = 0 → (isB (nI 0) ∧ Q (.inl (some (.int (nI 0)))) h1)))))) :
    MetPM m_X12_does [.ref 130, .int p0, .int p1, .int p2] h Q := by
  exact met_of o_X12_does (Nat.le_of_ble_eq_true rfl) (fun q => absurd rfl q) (vg_ok k_X12_does (stops := [25, 39, 48, 61, 71, 90, 106, 122, 137]) 130 0 0 _ [] h T)
set_option maxRecDepth 100000 in
set_option maxHeartbeats 4000000 in
theorem u_X12_does_25 {v1 : Int32} {v2 : Int32} {v3 : Int32} {h : PH} {Q : Res → PH → Prop}
    (T : ((¬ v1 = (nI 1) → At m_X12_does Q 39 0 [some (.ref 130), some (.int v1), some (.int v2), some (.int v3)] [] h) ∧ (v1 = (nI 1) → MetPM m_X12_starts [.ref 130, .int v2] h (rI (hnd Q (At m_X12_does Q) 0 [some (.ref 130), some (.int v1), some (.int v2), some (.int v3)] []) (fun x2 h1 => At m_X12_does Q 39 0 [some (.ref 130), some (.int v1), some (.int v2), some (.int v3)] [] (si h1 130 36 x2)))))) :
    At m_X12_does Q 25 0 [some (.ref 130), some (.int v1), some (.int v2), some (.int v3)] [] h := by
  exact vg_ok k_X12_does (stops := [25, 39, 48, 61, 71, 90, 106, 122, 137]) 130 25 0 _ _ h T
set_option maxRecDepth 100000 in
set_option maxHeartbeats 4000000 in
theorem u_X12_does_39 {v1 : Int32} {v2 : Int32} {v3 : Int32} {h : PH} {Q : Res → PH → Prop}
    (T : ((¬ v1 = (nI 2) → At m_X12_does Q 48 0 [some (.ref 130), some (.int v1), some (.int v2), some (.int v3)] [] h) ∧ (v1 = (nI 2) → MetPM m_X12_stops [.ref 130] h (rV (hnd Q (At m_X12_does Q) 0 [some (.ref 130), some (.int v1), some (.int v2), some (.int v3)] []) (fun h1 => At m_X12_does Q 48 0 [some (.ref 130), some (.int v1), some (.int v2), some (.int v3)] [] h1))))) :
    At m_X12_does Q 39 0 [some (.ref 130), some (.int v1), some (.int v2), some (.int v3)] [] h := by
  exact vg_ok k_X12_does (stops := [25, 39, 48, 61, 71, 90, 106, 122, 137]) 130 39 0 _ _ h T
set_option maxRecDepth 100000 in
set_option maxHeartbeats 4000000 in
theorem u_X12_does_48 {v1 : Int32} {v2 : Int32} {v3 : Int32} {h : PH} {Q : Res → PH → Prop}
    (T : ((¬ v1 = (nI 3) → At m_X12_does Q 61 0 [some (.ref 130), some (.int v1), some (.int v2), some (.int v3)] [] h) ∧ (v1 = (nI 3) → MetPM m_X12_goesOn [.ref 130] h (rI (hnd Q (At m_X12_does Q) 0 [some (.ref 130), some (.int v1), some (.int v2), some (.int v3)] []) (fun x2 h1 => At m_X12_does Q 61 0 [some (.ref 130), some (.int v1), some (.int v2), some (.int v3)] [] (si h1 130 36 x2)))))) :
    At m_X12_does Q 48 0 [some (.ref 130), some (.int v1), some (.int v2), some (.int v3)] [] h := by
  exact vg_ok k_X12_does (stops := [25, 39, 48, 61, 71, 90, 106, 122, 137]) 130 48 0 _ _ h T
set_option maxRecDepth 100000 in
set_option maxHeartbeats 4000000 in
theorem u_X12_does_61 {v1 : Int32} {v2 : Int32} {v3 : Int32} {h : PH} {Q : Res → PH → Prop}
    (T : ((v1 = (nI 4) → At m_X12_does Q 71 0 [some (.ref 130), some (.int v1), some (.int v2), some (.int v3)] [] h) ∧ (¬ v1 = (nI 4) → ((¬ v1 = (nI 5) → At m_X12_does Q 90 0 [some (.ref 130), some (.int v1), some (.int v2), some (.int v3)] [] h) ∧ (v1 = (nI 5) → At m_X12_does Q 71 0 [some (.ref 130), some (.int v1), some (.int v2), some (.int v3)] [] h))))) :
    At m_X12_does Q 61 0 [some (.ref 130), some (.int v1), some (.int v2), some (.int v3)] [] h := by
  exact vg_ok k_X12_does (stops := [25, 39, 48, 61, 71, 90, 106, 122, 137]) 130 61 0 _ _ h T
set_option maxRecDepth 100000 in
set_option maxHeartbeats 4000000 in
theorem u_X12_does_71 {v1 : Int32} {v2 : Int32} {v3 : Int32} {h : PH} {Q : Res → PH → Prop}
    (T : ((¬ v1 = (nI 4) → MetPM m_X12_holds [.ref 130, .int v2, .int (nI 0)] h (rI (hnd Q (At m_X12_does Q) 0 [some (.ref 130), some (.int v1), some (.int v2), some (.int v3)] []) (fun x2 h1 => At m_X12_does Q 90 0 [some (.ref 130), some (.int v1), some (.int v2), some (.int v3)] [] (si h1 130 36 x2)))) ∧ (v1 = (nI 4) → MetPM m_X12_holds [.ref 130, .int v2, .int (nI 1)] h (rI (hnd Q (At m_X12_does Q) 0 [some (.ref 130), some (.int v1), some (.int v2), some (.int v3)] []) (fun x4 h3 => At m_X12_does Q 90 0 [some (.ref 130), some (.int v1), some (.int v2), some (.int v3)] [] (si h3 130 36 x4)))))) :
    At m_X12_does Q 71 0 [some (.ref 130), some (.int v1), some (.int v2), some (.int v3)] [] h := by
  exact vg_ok k_X12_does (stops := [25, 39, 48, 61, 71, 90, 106, 122, 137]) 130 71 0 _ _ h T
set_option maxRecDepth 100000 in
set_option maxHeartbeats 4000000 in
theorem u_X12_does_90 {v1 : Int32} {v2 : Int32} {v3 : Int32} {h : PH} {Q : Res → PH → Prop}
    (T : ((¬ v1 = (nI 6) → At m_X12_does Q 106 0 [some (.ref 130), some (.int v1), some (.int v2), some (.int v3)] [] h) ∧ (v1 = (nI 6) → MetPM m_X12_reports [.ref 130, .int v2, .int v3] h (rI (hnd Q (At m_X12_does Q) 0 [some (.ref 130), some (.int v1), some (.int v2), some (.int v3)] []) (fun x2 h1 => At m_X12_does Q 106 0 [some (.ref 130), some (.int v1), some (.int v2), some (.int v3)] [] (si h1 130 36 x2)))))) :
    At m_X12_does Q 90 0 [some (.ref 130), some (.int v1), some (.int v2), some (.int v3)] [] h := by
  exact vg_ok k_X12_does (stops := [25, 39, 48, 61, 71, 90, 106, 122, 137]) 130 90 0 _ _ h T
set_option maxRecDepth 100000 in
set_option maxHeartbeats 4000000 in
theorem u_X12_does_106 {v1 : Int32} {v2 : Int32} {v3 : Int32} {h : PH} {Q : Res → PH → Prop}
    (T : ((¬ v1 = (nI 7) → At m_X12_does Q 122 0 [some (.ref 130), some (.int v1), some (.int v2), some (.int v3)] [] h) ∧ (v1 = (nI 7) → MetPM m_X12_changes [.ref 130, .int v2, .int v3] h (rI (hnd Q (At m_X12_does Q) 0 [some (.ref 130), some (.int v1), some (.int v2), some (.int v3)] []) (fun x2 h1 => At m_X12_does Q 122 0 [some (.ref 130), some (.int v1), some (.int v2), some (.int v3)] [] (si h1 130 36 x2)))))) :
    At m_X12_does Q 106 0 [some (.ref 130), some (.int v1), some (.int v2), some (.int v3)] [] h := by
  exact vg_ok k_X12_does (stops := [25, 39, 48, 61, 71, 90, 106, 122, 137]) 130 106 0 _ _ h T
set_option maxRecDepth 100000 in
set_option maxHeartbeats 4000000 in
theorem u_X12_does_122 {v1 : Int32} {v2 : Int32} {v3 : Int32} {h : PH} {Q : Res → PH → Prop}
    (T : ((¬ v1 = (nI 8) → At m_X12_does Q 137 0 [some (.ref 130), some (.int v1), some (.int v2), some (.int v3)] [] h) ∧ (v1 = (nI 8) → MetPM m_X12_commits [.ref 130, .int v2] h (rI (hnd Q (At m_X12_does Q) 0 [some (.ref 130), some (.int v1), some (.int v2), some (.int v3)] []) (fun x2 h1 => At m_X12_does Q 137 0 [some (.ref 130), some (.int v1), some (.int v2), some (.int v3)] [] (si h1 130 36 x2)))))) :
    At m_X12_does Q 122 0 [some (.ref 130), some (.int v1), some (.int v2), some (.int v3)] [] h := by
  exact vg_ok k_X12_does (stops := [25, 39, 48, 61, 71, 90, 106, 122, 137]) 130 122 0 _ _ h T
set_option maxRecDepth 100000 in
set_option maxHeartbeats 4000000 in
theorem u_X12_does_137 {v1 : Int32} {v2 : Int32} {v3 : Int32} {h : PH} {Q : Res → PH → Prop}
    (T : (isB (nI 1) ∧ Q (.inl (some (.int (nI 1)))) h)) :
    At m_X12_does Q 137 0 [some (.ref 130), some (.int v1), some (.int v2), some (.int v3)] [] h := by
  exact vg_ok k_X12_does (stops := [25, 39, 48, 61, 71, 90, 106, 122, 137]) 130 137 0 _ _ h T
set_option maxRecDepth 100000 in
set_option maxHeartbeats 4000000 in
theorem t_X12_runs {h : PH} {Q : Res → PH → Prop}
    (T : At m_X12_runs Q 9 0 [some (.ref 130), some (.int (nI 0)), some (.int (nI 0)), some (.int (nI 0)), some (.int (nI 1)), none] [] h) :
    MetPM m_X12_runs [.ref 130] h Q := by
  exact met_of o_X12_runs (Nat.le_of_ble_eq_true rfl) (fun q => absurd rfl q) (vg_ok k_X12_runs (stops := [9, 187]) 165 0 0 _ [] h T)
set_option maxRecDepth 100000 in
set_option maxHeartbeats 4000000 in
theorem u_X12_runs_9 {v1 : Int32} {v2 : Int32} {v3 : Int32} {v4 : Int32} {o5 : Option Value} {h : PH} {Q : Res → PH → Prop}
    (T : ((v4 = 0 → At m_X12_runs Q 187 0 [some (.ref 130), some (.int v1), some (.int v2), some (.int v3), some (.int v4), o5] [] h) ∧ (¬ v4 = 0 → (((gi h 130 33) ≤ v3 → At m_X12_runs Q 187 0 [some (.ref 130), some (.int v1), some (.int v2), some (.int v3), some (.int v4), o5] [] h) ∧ (¬ (gi h 130 33) ≤ v3 → (((nI 40) ≤ v1 → At m_X12_runs Q 187 0 [some (.ref 130), some (.int v1), some (.int v2), some (.int v3), some (.int v4), o5] [] h) ∧ (¬ (nI 40) ≤ v1 → (vp_in v3 60 ∧ ((¬ (gi h 141 v3.toNatClampNeg) = (nI 9) → (vp_in v3 60 ∧ ((¬ (gi h 141 v3.toNatClampNeg) = (nI 10) → (vp_in v3 60 ∧ (vp_in v3 60 ∧ (vp_in v3 60 ∧ MetPM m_X12_does [.ref 130, .int (gi h 141 v3.toNatClampNeg), .int (gi h 142 v3.toNatClampNeg), .int (gi h 143 v3.toNatClampNeg)] h (rI (hnd Q (At m_X12_runs Q) 0 [some (.ref 130), some (.int v1), some (.int v2), some (.int v3), some (.int v4), o5] []) (fun x2 h1 => MetPM m_X12_truth [.int x2] h1 (rI (hnd Q (At m_X12_runs Q) 0 [some (.ref 130), some (.int v1), some (.int v2), some (.int v3), some (.int x2), o5] []) (fun x4 h3 => At m_X12_runs Q 9 0 [some (.ref 130), some (.int (v1 + x4)), some (.int v2), some (.int (v3 + (nI 1))), some (.int x2), o5] [] h3)))))))) ∧ ((gi h 141 v3.toNatClampNeg) = (nI 10) → (vp_in (v2 - (nI 1)) 2 ∧ (vp_in (v2 - (nI 1)) 2 ∧ (vp_in (v2 - (nI 1)) 2 ∧ (let y5 : Int32 := (gi (si h 145 (v2 - (nI 1)).toNatClampNeg ((gi h 145 (v2 - (nI 1)).toNatClampNeg) - (nI 1))) 145 (v2 - (nI 1)).toNatClampNeg); ((y5 ≤ 0 → (((nI 0) = 0 → ((¬ (nI 0) = 0 → MetPM m_X12_truth [.int (nI 0)] (si h 145 (v2 - (nI 1)).toNatClampNeg ((gi h 145 (v2 - (nI 1)).toNatClampNeg) - (nI 1))) (rI (hnd Q (At m_X12_runs Q) 0 [some (.ref 130), some (.int v1), some (.int v2), some (.int (v3 + (nI 1))), some (.int v4), some (.int (nI 0))] []) (fun x7 h6 => At m_X12_runs Q 9 0 [some (.ref 130), some (.int v1), some (.int (v2 - x7)), some (.int (v3 + (nI 1))), some (.int v4), some (.int (nI 0))] [] h6))) ∧ ((nI 0) = 0 → MetPM m_X12_truth [.int (nI 1)] (si h 145 (v2 - (nI 1)).toNatClampNeg ((gi h 145 (v2 - (nI 1)).toNatClampNeg) - (nI 1))) (rI (hnd Q (At m_X12_runs Q) 0 [some (.ref 130), some (.int v1), some (.int v2), some (.int (v3 + (nI 1))), some (.int v4), some (.int (nI 0))] []) (fun x9 h8 => At m_X12_runs Q 9 0 [some (.ref 130), some (.int v1), some (.int (v2 - x9)), some (.int (v3 + (nI 1))), some (.int v4), some (.int (nI 0))] [] h8))))) ∧ (¬ (nI 0) = 0 → (vp_in (v2 - (nI 1)) 2 ∧ (let y10 : Int32 := (gi (si h 145 (v2 - (nI 1)).toNatClampNeg ((gi h 145 (v2 - (nI 1)).toNatClampNeg) - (nI 1))) 144 (v2 - (nI 1)).toNatClampNeg); ((¬ (nI 0) = 0 → MetPM m_X12_truth [.int (nI 0)] (si h 145 (v2 - (nI 1)).toNatClampNeg ((gi h 145 (v2 - (nI 1)).toNatClampNeg) - (nI 1))) (rI (hnd Q (At m_X12_runs Q) 0 [some (.ref 130), some (.int v1), some (.int v2), some (.int (y10 + (nI 1))), some (.int v4), some (.int (nI 0))] []) (fun x12 h11 => At m_X12_runs Q 9 0 [some (.ref 130), some (.int v1), some (.int (v2 - x12)), some (.int (y10 + (nI 1))), some (.int v4), some (.int (nI 0))] [] h11))) ∧ ((nI 0) = 0 → MetPM m_X12_truth [.int (nI 1)] (si h 145 (v2 - (nI 1)).toNatClampNeg ((gi h 145 (v2 - (nI 1)).toNatClampNeg) - (nI 1))) (rI (hnd Q (At m_X12_runs Q) 0 [some (.ref 130), some (.int v1), some (.int v2), some (.int (y10 + (nI 1))), some (.int v4), some (.int (nI 0))] []) (fun x14 h13 => At m_X12_runs Q 9 0 [some (.ref 130), some (.int v1), some (.int (v2 - x14)), some (.int (y10 + (nI 1))), some (.int v4), some (.int (nI 0))] [] h13))))))))) ∧ (¬ y5 ≤ 0 → (((nI 1) = 0 → ((¬ (nI 1) = 0 → MetPM m_X12_truth [.int (nI 0)] (si h 145 (v2 - (nI 1)).toNatClampNeg ((gi h 145 (v2 - (nI 1)).toNatClampNeg) - (nI 1))) (rI (hnd Q (At m_X12_runs Q) 0 [some (.ref 130), some (.int v1), some (.int v2), some (.int (v3 + (nI 1))), some (.int v4), some (.int (nI 1))] []) (fun x16 h15 => At m_X12_runs Q 9 0 [some (.ref 130), some (.int v1), some (.int (v2 - x16)), some (.int (v3 + (nI 1))), some (.int v4), some (.int (nI 1))] [] h15))) ∧ ((nI 1) = 0 → MetPM m_X12_truth [.int (nI 1)] (si h 145 (v2 - (nI 1)).toNatClampNeg ((gi h 145 (v2 - (nI 1)).toNatClampNeg) - (nI 1))) (rI (hnd Q (At m_X12_runs Q) 0 [some (.ref 130), some (.int v1), some (.int v2), some (.int (v3 + (nI 1))), some (.int v4), some (.int (nI 1))] []) (fun x18 h17 => At m_X12_runs Q 9 0 [some (.ref 130), some (.int v1), some (.int (v2 - x18)), some (.int (v3 + (nI 1))), some (.int v4), some (.int (nI 1))] [] h17))))) ∧ (¬ (nI 1) = 0 → (vp_in (v2 - (nI 1)) 2 ∧ (let y19 : Int32 := (gi (si h 145 (v2 - (nI 1)).toNatClampNeg ((gi h 145 (v2 - (nI 1)).toNatClampNeg) - (nI 1))) 144 (v2 - (nI 1)).toNatClampNeg); ((¬ (nI 1) = 0 → MetPM m_X12_truth [.int (nI 0)] (si h 145 (v2 - (nI 1)).toNatClampNeg ((gi h 145 (v2 - (nI 1)).toNatClampNeg) - (nI 1))) (rI (hnd Q (At m_X12_runs Q) 0 [some (.ref 130), some (.int v1), some (.int v2), some (.int (y19 + (nI 1))), some (.int v4), some (.int (nI 1))] []) (fun x21 h20 => At m_X12_runs Q 9 0 [some (.ref 130), some (.int v1), some (.int (v2 - x21)), some (.int (y19 + (nI 1))), some (.int v4), some (.int (nI 1))] [] h20))) ∧ ((nI 1) = 0 → MetPM m_X12_truth [.int (nI 1)] (si h 145 (v2 - (nI 1)).toNatClampNeg ((gi h 145 (v2 - (nI 1)).toNatClampNeg) - (nI 1))) (rI (hnd Q (At m_X12_runs Q) 0 [some (.ref 130), some (.int v1), some (.int v2), some (.int (y19 + (nI 1))), some (.int v4), some (.int (nI 1))] []) (fun x23 h22 => At m_X12_runs Q 9 0 [some (.ref 130), some (.int v1), some (.int (v2 - x23)), some (.int (y19 + (nI 1))), some (.int v4), some (.int (nI 1))] [] h22)))))))))))))))))) ∧ ((gi h 141 v3.toNatClampNeg) = (nI 9) → (vp_in v2 2 ∧ (vp_in v3 60 ∧ (vp_in v2 2 ∧ (let h24 : PH := (si (si h 144 v2.toNatClampNeg v3) 145 v2.toNatClampNeg (gi (si h 144 v2.toNatClampNeg v3) 142 v3.toNatClampNeg)); At m_X12_runs Q 9 0 [some (.ref 130), some (.int v1), some (.int (v2 + (nI 1))), some (.int (v3 + (nI 1))), some (.int v4), o5] [] h24)))))))))))))) :
    At m_X12_runs Q 9 0 [some (.ref 130), some (.int v1), some (.int v2), some (.int v3), some (.int v4), o5] [] h := by
  exact vg_ok k_X12_runs (stops := [9, 187]) 165 9 0 _ _ h T
set_option maxRecDepth 100000 in
set_option maxHeartbeats 4000000 in
theorem u_X12_runs_187 {v1 : Int32} {v2 : Int32} {v3 : Int32} {v4 : Int32} {o5 : Option Value} {h : PH} {Q : Res → PH → Prop}
    (T : Q (.inl (some (.int v1))) h) :
    At m_X12_runs Q 187 0 [some (.ref 130), some (.int v1), some (.int v2), some (.int v3), some (.int v4), o5] [] h := by
  exact vg_ok k_X12_runs (stops := [9, 187]) 165 187 0 _ _ h T
set_option maxRecDepth 100000 in
set_option maxHeartbeats 4000000 in
theorem t_X12_keeps {h : PH} {Q : Res → PH → Prop}
    (T : ((¬ (gi h 130 21) = (nI 6) → At m_X12_keeps Q 57 0 [some (.ref 130), some (.int (nI 0))] [] h) ∧ ((gi h 130 21) = (nI 6) → At m_X12_keeps Q 21 0 [some (.ref 130), some (.int (nI 0))] [] (si h 130 21 ((gi h 130 21) - (nI 1)))))) :
    MetPM m_X12_keeps [.ref 130] h Q := by
  exact met_of o_X12_keeps (Nat.le_of_ble_eq_true rfl) (fun q => absurd rfl q) (vg_ok k_X12_keeps (stops := [21, 57]) 107 0 0 _ [] h T)
set_option maxRecDepth 100000 in
set_option maxHeartbeats 4000000 in
theorem u_X12_keeps_21 {v1 : Int32} {h : PH} {Q : Res → PH → Prop}
    (T : ((((nI 253) * (gi h 130 21)) ≤ v1 → At m_X12_keeps Q 57 0 [some (.ref 130), some (.int (nI 0))] [] h) ∧ (¬ ((nI 253) * (gi h 130 21)) ≤ v1 → (vp_in (v1 + (nI 253)) 1518 ∧ (vp_in v1 1518 ∧ At m_X12_keeps Q 21 0 [some (.ref 130), some (.int (v1 + (nI 1)))] [] (si h 134 v1.toNatClampNeg (gi h 134 (v1 + (nI 253)).toNatClampNeg))))))) :
    At m_X12_keeps Q 21 0 [some (.ref 130), some (.int v1)] [] h := by
  exact vg_ok k_X12_keeps (stops := [21, 57]) 107 21 0 _ _ h T
set_option maxRecDepth 100000 in
set_option maxHeartbeats 4000000 in
theorem u_X12_keeps_57 {v1 : Int32} {h : PH} {Q : Res → PH → Prop}
    (T : (((nI 253) ≤ v1 → Q (.inl none) (si h 130 21 ((gi h 130 21) + (nI 1)))) ∧ (¬ (nI 253) ≤ v1 → (vp_in v1 253 ∧ (vp_in (((nI 253) * (gi h 130 21)) + v1) 1518 ∧ At m_X12_keeps Q 57 0 [some (.ref 130), some (.int (v1 + (nI 1)))] [] (si h 134 (((nI 253) * (gi h 130 21)) + v1).toNatClampNeg (gi h 135 v1.toNatClampNeg))))))) :
    At m_X12_keeps Q 57 0 [some (.ref 130), some (.int v1)] [] h := by
  exact vg_ok k_X12_keeps (stops := [21, 57]) 107 57 0 _ _ h T
set_option maxRecDepth 100000 in
set_option maxHeartbeats 4000000 in
theorem t_X12_runScript {h : PH} {Q : Res → PH → Prop}
    (T : MetPM m_X12_beginsText [.ref 130] h (rV (hnd Q (At m_X12_runScript Q) 0 [some (.ref 130), none] []) (fun h1 => At m_X12_runScript Q 19 0 [some (.ref 130), none] [] (si (si (si h1 130 33 (nI 0)) 130 34 (nI 0)) 130 35 (nI 0))))) :
    MetPM m_X12_runScript [.ref 130] h Q := by
  exact met_of o_X12_runScript (Nat.le_of_ble_eq_true rfl) (fun q => absurd rfl q) (vg_ok k_X12_runScript (stops := [19, 56, 63, 82]) 105 0 0 _ [] h T)
set_option maxRecDepth 100000 in
set_option maxHeartbeats 4000000 in
theorem u_X12_runScript_19 {o1 : Option Value} {h : PH} {Q : Res → PH → Prop}
    (T : MetPM m_X12_isGood [.ref 130] h (rI (hnd Q (At m_X12_runScript Q) 0 [some (.ref 130), o1] []) (fun x2 h1 => ((x2 = 0 → At m_X12_runScript Q 63 0 [some (.ref 130), o1] [] h1) ∧ (¬ x2 = 0 → (((gi h1 130 6) = 0 → At m_X12_runScript Q 63 0 [some (.ref 130), o1] [] h1) ∧ (¬ (gi h1 130 6) = 0 → MetPM m_X12_command [.ref 130] h1 (rV (hnd Q (At m_X12_runScript Q) 0 [some (.ref 130), some (.int (gi h1 130 35))] []) (fun h3 => ((¬ (gi h3 130 35) = (gi h1 130 35) → At m_X12_runScript Q 56 0 [some (.ref 130), some (.int (gi h1 130 35))] [] h3) ∧ ((gi h3 130 35) = (gi h1 130 35) → MetPM m_X12_mustSign [.ref 130, .int (nI 59)] h3 (rV (hnd Q (At m_X12_runScript Q) 0 [some (.ref 130), some (.int (gi h1 130 35))] []) (fun h4 => At m_X12_runScript Q 56 0 [some (.ref 130), some (.int (gi h1 130 35))] [] h4))))))))))))) :
    At m_X12_runScript Q 19 0 [some (.ref 130), o1] [] h := by
  exact vg_ok k_X12_runScript (stops := [19, 56, 63, 82]) 105 19 0 _ _ h T
set_option maxRecDepth 100000 in
set_option maxHeartbeats 4000000 in
theorem u_X12_runScript_56 {v1 : Int32} {h : PH} {Q : Res → PH → Prop}
    (T : MetPM m_X12_closes [.ref 130] h (rV (hnd Q (At m_X12_runScript Q) 0 [some (.ref 130), some (.int v1)] []) (fun h1 => At m_X12_runScript Q 19 0 [some (.ref 130), some (.int v1)] [] h1))) :
    At m_X12_runScript Q 56 0 [some (.ref 130), some (.int v1)] [] h := by
  exact vg_ok k_X12_runScript (stops := [19, 56, 63, 82]) 105 56 0 _ _ h T
set_option maxRecDepth 100000 in
set_option maxHeartbeats 4000000 in
theorem u_X12_runScript_63 {o1 : Option Value} {h : PH} {Q : Res → PH → Prop}
    (T : MetPM m_X12_isGood [.ref 130] h (rI (hnd Q (At m_X12_runScript Q) 0 [some (.ref 130), o1] []) (fun x2 h1 => ((x2 = 0 → At m_X12_runScript Q 82 0 [some (.ref 130), o1] [] h1) ∧ (¬ x2 = 0 → (((gi h1 130 35) ≤ 0 → At m_X12_runScript Q 82 0 [some (.ref 130), o1] [] h1) ∧ (¬ (gi h1 130 35) ≤ 0 → MetPM m_X12_wrong [.ref 130, .int (nI 1)] h1 (rV (hnd Q (At m_X12_runScript Q) 0 [some (.ref 130), o1] []) (fun h3 => At m_X12_runScript Q 82 0 [some (.ref 130), o1] [] h3))))))))) :
    At m_X12_runScript Q 63 0 [some (.ref 130), o1] [] h := by
  exact vg_ok k_X12_runScript (stops := [19, 56, 63, 82]) 105 63 0 _ _ h T
set_option maxRecDepth 100000 in
set_option maxHeartbeats 4000000 in
theorem u_X12_runScript_82 {o1 : Option Value} {h : PH} {Q : Res → PH → Prop}
    (T : MetPM m_X12_endsText [.ref 130] h (rI (hnd Q (At m_X12_runScript Q) 0 [some (.ref 130), o1] []) (fun x2 h1 => ((¬ x2 = 0 → MetPM m_X12_laysAside [.ref 130] h1 (rV (hnd Q (At m_X12_runScript Q) 0 [some (.ref 130), o1] []) (fun h3 => MetPM m_X12_runs [.ref 130] h3 (rI (hnd Q (At m_X12_runScript Q) 0 [some (.ref 130), o1] []) (fun x5 h4 => MetPM m_X12_keeps [.ref 130] h4 (rV (hnd Q (At m_X12_runScript Q) 0 [some (.ref 130), some (.int x5)] []) (fun h6 => Q (.inl (some (.int x5))) h6))))))) ∧ (x2 = 0 → Q (.inl (some (.int (nI 0)))) h1))))) :
    At m_X12_runScript Q 82 0 [some (.ref 130), o1] [] h := by
  exact vg_ok k_X12_runScript (stops := [19, 56, 63, 82]) 105 82 0 _ _ h T
set_option maxRecDepth 100000 in
set_option maxHeartbeats 4000000 in
theorem t_X12_errorCode {h : PH} {Q : Res → PH → Prop}
    (T : Q (.inl (some (.int (gi (si h 130 0 (nI 0)) 130 10)))) (si h 130 0 (nI 0))) :
    MetPM m_X12_errorCode [.ref 130] h Q := by
  exact met_of o_X12_errorCode (Nat.le_of_ble_eq_true rfl) (fun q => absurd rfl q) (vg_ok k_X12_errorCode (stops := []) 56 0 0 _ [] h T)
set_option maxRecDepth 100000 in
set_option maxHeartbeats 4000000 in
theorem t_X12_errorPosition {h : PH} {Q : Res → PH → Prop}
    (T : Q (.inl (some (.int (gi (si h 130 0 (nI 0)) 130 11)))) (si h 130 0 (nI 0))) :
    MetPM m_X12_errorPosition [.ref 130] h Q := by
  exact met_of o_X12_errorPosition (Nat.le_of_ble_eq_true rfl) (fun q => absurd rfl q) (vg_ok k_X12_errorPosition (stops := []) 56 0 0 _ [] h T)
set_option maxRecDepth 100000 in
set_option maxHeartbeats 4000000 in
theorem t_X12_setting {p0 : Int32} {h : PH} {Q : Res → PH → Prop}
    (T : MetPM m_X12_isIn [.long (p0.toInt64), .long (lN 0), .long (lN 11)] h (rI (hnd Q (At m_X12_setting Q) 0 [some (.ref 130), some (.int p0)] []) (fun x2 h1 => MetPM m_X12_goes [.ref 130, .int x2] h1 (rI (hnd Q (At m_X12_setting Q) 0 [some (.ref 130), some (.int p0)] []) (fun x4 h3 => ((x4 = 0 → Q (.inl (some (.int (nI 0)))) h3) ∧ (¬ x4 = 0 → (vp_in p0 253 ∧ Q (.inl (some (.int (gi h3 132 p0.toNatClampNeg)))) h3)))))))) :
    MetPM m_X12_setting [.ref 130, .int p0] h Q := by
  exact met_of o_X12_setting (Nat.le_of_ble_eq_true rfl) (fun q => absurd rfl q) (vg_ok k_X12_setting (stops := []) 65 0 0 _ [] h T)
set_option maxRecDepth 100000 in
set_option maxHeartbeats 4000000 in
theorem t_X12_isVersion {p0 : Int32} {h : PH} {Q : Res → PH → Prop}
    (T : (vp_in (nI 0) 253 ∧ MetPM m_X12_isIn [.long (p0.toInt64), .long (lN 0), .long (((gi h 132 (nI 0).toNatClampNeg) - (nI 1)).toInt64)] h (rI (hnd Q (At m_X12_isVersion Q) 0 [some (.ref 130), some (.int p0)] []) (fun x2 h1 => (isB x2 ∧ Q (.inl (some (.int x2))) h1))))) :
    MetPM m_X12_isVersion [.ref 130, .int p0] h Q := by
  exact met_of o_X12_isVersion (Nat.le_of_ble_eq_true rfl) (fun q => absurd rfl q) (vg_ok k_X12_isVersion (stops := []) 62 0 0 _ [] h T)
set_option maxRecDepth 100000 in
set_option maxHeartbeats 4000000 in
theorem t_X12_mayTalk {p0 : Int32} {p1 : Int32} {h : PH} {Q : Res → PH → Prop}
    (T : MetPM m_X12_isVersion [.ref 130, .int p0] h (rI (hnd Q (At m_X12_mayTalk Q) 0 [some (.ref 130), some (.int p0), some (.int p1)] []) (fun x2 h1 => ((x2 = 0 → MetPM m_X12_goes [.ref 130, .int (nI 0)] h1 (rI (hnd Q (At m_X12_mayTalk Q) 0 [some (.ref 130), some (.int p0), some (.int p1)] []) (fun x4 h3 => ((x4 = 0 → (isB (nI 0) ∧ Q (.inl (some (.int (nI 0)))) h3)) ∧ (¬ x4 = 0 → MetPM m_X12_talk [.ref 130, .int p0, .int p1] h3 (rI (hnd Q (At m_X12_mayTalk Q) 0 [some (.ref 130), some (.int p0), some (.int p1)] []) (fun x6 h5 => ((x6 = 0 → (isB (nI 0) ∧ Q (.inl (some (.int (nI 0)))) h5)) ∧ (¬ x6 = 0 → (isB (nI 1) ∧ Q (.inl (some (.int (nI 1)))) h5)))))))))) ∧ (¬ x2 = 0 → MetPM m_X12_isVersion [.ref 130, .int p1] h1 (rI (hnd Q (At m_X12_mayTalk Q) 0 [some (.ref 130), some (.int p0), some (.int p1)] []) (fun x8 h7 => ((x8 = 0 → MetPM m_X12_goes [.ref 130, .int (nI 0)] h7 (rI (hnd Q (At m_X12_mayTalk Q) 0 [some (.ref 130), some (.int p0), some (.int p1)] []) (fun x10 h9 => ((x10 = 0 → (isB (nI 0) ∧ Q (.inl (some (.int (nI 0)))) h9)) ∧ (¬ x10 = 0 → MetPM m_X12_talk [.ref 130, .int p0, .int p1] h9 (rI (hnd Q (At m_X12_mayTalk Q) 0 [some (.ref 130), some (.int p0), some (.int p1)] []) (fun x12 h11 => ((x12 = 0 → (isB (nI 0) ∧ Q (.inl (some (.int (nI 0)))) h11)) ∧ (¬ x12 = 0 → (isB (nI 1) ∧ Q (.inl (some (.int (nI 1)))) h11)))))))))) ∧ (¬ x8 = 0 → MetPM m_X12_goes [.ref 130, .int (nI 1)] h7 (rI (hnd Q (At m_X12_mayTalk Q) 0 [some (.ref 130), some (.int p0), some (.int p1)] []) (fun x14 h13 => ((x14 = 0 → (isB (nI 0) ∧ Q (.inl (some (.int (nI 0)))) h13)) ∧ (¬ x14 = 0 → MetPM m_X12_talk [.ref 130, .int p0, .int p1] h13 (rI (hnd Q (At m_X12_mayTalk Q) 0 [some (.ref 130), some (.int p0), some (.int p1)] []) (fun x16 h15 => ((x16 = 0 → (isB (nI 0) ∧ Q (.inl (some (.int (nI 0)))) h15)) ∧ (¬ x16 = 0 → (isB (nI 1) ∧ Q (.inl (some (.int (nI 1)))) h15)))))))))))))))))) :
    MetPM m_X12_mayTalk [.ref 130, .int p0, .int p1] h Q := by
  exact met_of o_X12_mayTalk (Nat.le_of_ble_eq_true rfl) (fun q => absurd rfl q) (vg_ok k_X12_mayTalk (stops := []) 73 0 0 _ [] h T)
set_option maxRecDepth 100000 in
set_option maxHeartbeats 4000000 in
theorem t_X12_readers {p0 : Int32} {h : PH} {Q : Res → PH → Prop}
    (T : MetPM m_X12_isIn [.long (p0.toInt64), .long (lN 1), .long (lN 9)] h (rI (hnd Q (At m_X12_readers Q) 0 [some (.ref 130), some (.int p0), none, none] []) (fun x2 h1 => MetPM m_X12_goes [.ref 130, .int x2] h1 (rI (hnd Q (At m_X12_readers Q) 0 [some (.ref 130), some (.int p0), none, none] []) (fun x4 h3 => ((¬ x4 = 0 → At m_X12_readers Q 22 0 [some (.ref 130), some (.int p0), some (.int (nI 0)), some (.int (nI 0))] [] h3) ∧ (x4 = 0 → Q (.inl (some (.int (nI 0)))) h3))))))) :
    MetPM m_X12_readers [.ref 130, .int p0] h Q := by
  exact met_of o_X12_readers (Nat.le_of_ble_eq_true rfl) (fun q => absurd rfl q) (vg_ok k_X12_readers (stops := [22]) 84 0 0 _ [] h T)
set_option maxRecDepth 100000 in
set_option maxHeartbeats 4000000 in
theorem u_X12_readers_22 {v1 : Int32} {v2 : Int32} {v3 : Int32} {h : PH} {Q : Res → PH → Prop}
    (T : (vp_in (nI 0) 253 ∧ (((gi h 132 (nI 0).toNatClampNeg) ≤ v3 → Q (.inl (some (.int v2))) h) ∧ (¬ (gi h 132 (nI 0).toNatClampNeg) ≤ v3 → MetPM m_X12_reads [.ref 130, .int v3, .int v1] h (rI (hnd Q (At m_X12_readers Q) 0 [some (.ref 130), some (.int v1), some (.int v2), some (.int v3)] []) (fun x2 h1 => MetPM m_X12_truth [.int x2] h1 (rI (hnd Q (At m_X12_readers Q) 0 [some (.ref 130), some (.int v1), some (.int v2), some (.int v3)] []) (fun x4 h3 => At m_X12_readers Q 22 0 [some (.ref 130), some (.int v1), some (.int (v2 ||| (x4 <<< (v3 &&& 31)))), some (.int (v3 + (nI 1)))] [] h3)))))))) :
    At m_X12_readers Q 22 0 [some (.ref 130), some (.int v1), some (.int v2), some (.int v3)] [] h := by
  exact vg_ok k_X12_readers (stops := [22]) 84 22 0 _ _ h T
set_option maxRecDepth 100000 in
set_option maxHeartbeats 4000000 in
theorem t_X12_talkers {p0 : Int32} {h : PH} {Q : Res → PH → Prop}
    (T : MetPM m_X12_isVersion [.ref 130, .int p0] h (rI (hnd Q (At m_X12_talkers Q) 0 [some (.ref 130), some (.int p0)] []) (fun x2 h1 => MetPM m_X12_goes [.ref 130, .int x2] h1 (rI (hnd Q (At m_X12_talkers Q) 0 [some (.ref 130), some (.int p0)] []) (fun x4 h3 => ((x4 = 0 → Q (.inl (some (.int (nI 0)))) h3) ∧ (¬ x4 = 0 → (vp_in ((nI 36) + p0) 253 ∧ Q (.inl (some (.int ((gi h3 132 ((nI 36) + p0).toNatClampNeg) ||| ((nI 1) <<< (p0 &&& 31)))))) h3)))))))) :
    MetPM m_X12_talkers [.ref 130, .int p0] h Q := by
  exact met_of o_X12_talkers (Nat.le_of_ble_eq_true rfl) (fun q => absurd rfl q) (vg_ok k_X12_talkers (stops := []) 69 0 0 _ [] h T)
set_option maxRecDepth 100000 in
set_option maxHeartbeats 4000000 in
theorem t_X12_mayFollow {p0 : Int32} {p1 : Int32} {h : PH} {Q : Res → PH → Prop}
    (T : ((p0 = p1 → (isB (nI 0) ∧ Q (.inl (some (.int (nI 0)))) h)) ∧ (¬ p0 = p1 → (vp_in (nI 5) 253 ∧ MetPM m_X12_reads [.ref 130, .int p1, .int (gi h 132 (nI 5).toNatClampNeg)] h (rI (hnd Q (At m_X12_mayFollow Q) 0 [some (.ref 130), some (.int p0), some (.int p1)] []) (fun x2 h1 => ((x2 = 0 → (isB (nI 0) ∧ Q (.inl (some (.int (nI 0)))) h1)) ∧ (¬ x2 = 0 → MetPM m_X12_talk [.ref 130, .int p0, .int p1] h1 (rI (hnd Q (At m_X12_mayFollow Q) 0 [some (.ref 130), some (.int p0), some (.int p1)] []) (fun x4 h3 => ((x4 = 0 → (isB (nI 0) ∧ Q (.inl (some (.int (nI 0)))) h3)) ∧ (¬ x4 = 0 → MetPM m_X12_apart [.int p0, .int p1] h3 (rI (hnd Q (At m_X12_mayFollow Q) 0 [some (.ref 130), some (.int p0), some (.int p1)] []) (fun x6 h5 => (vp_in (nI 6) 253 ∧ (((gi h5 132 (nI 6).toNatClampNeg) < x6 → (isB (nI 0) ∧ Q (.inl (some (.int (nI 0)))) h5)) ∧ (¬ (gi h5 132 (nI 6).toNatClampNeg) < x6 → (isB (nI 1) ∧ Q (.inl (some (.int (nI 1)))) h5)))))))))))))))))) :
    MetPM m_X12_mayFollow [.ref 130, .int p0, .int p1] h Q := by
  exact met_of o_X12_mayFollow (Nat.le_of_ble_eq_true rfl) (fun q => absurd rfl q) (vg_ok k_X12_mayFollow (stops := []) 78 0 0 _ [] h T)
set_option maxRecDepth 100000 in
set_option maxHeartbeats 4000000 in
theorem t_X12_laysWays {p0 : Int32} {h : PH} {Q : Res → PH → Prop}
    (T : At m_X12_laysWays Q 2 0 [some (.ref 130), some (.int p0), some (.int (nI 0)), none, none] [] h) :
    MetPM m_X12_laysWays [.ref 130, .int p0] h Q := by
  exact met_of o_X12_laysWays (Nat.le_of_ble_eq_true rfl) (fun q => absurd rfl q) (vg_ok k_X12_laysWays (stops := [2, 32, 44, 57, 117, 132]) 136 0 0 _ [] h T)
set_option maxRecDepth 100000 in
set_option maxHeartbeats 4000000 in
theorem u_X12_laysWays_2 {v1 : Int32} {v2 : Int32} {h : PH} {Q : Res → PH → Prop}
    (T : (((nI 8) ≤ v2 → At m_X12_laysWays Q 32 0 [some (.ref 130), some (.int v1), some (.int (nI 0)), none, none] [] h) ∧ (¬ (nI 8) ≤ v2 → ((¬ v2 = v1 → (vp_in v2 8 ∧ At m_X12_laysWays Q 2 0 [some (.ref 130), some (.int v1), some (.int (v2 + (nI 1))), none, none] [] (si h 140 v2.toNatClampNeg (-(nI 1))))) ∧ (v2 = v1 → (vp_in v2 8 ∧ At m_X12_laysWays Q 2 0 [some (.ref 130), some (.int v1), some (.int (v2 + (nI 1))), none, none] [] (si h 140 v2.toNatClampNeg (nI 0)))))))) :
    At m_X12_laysWays Q 2 0 [some (.ref 130), some (.int v1), some (.int v2), none, none] [] h := by
  exact vg_ok k_X12_laysWays (stops := [2, 32, 44, 57, 117, 132]) 136 2 0 _ _ h T
set_option maxRecDepth 100000 in
set_option maxHeartbeats 4000000 in
theorem u_X12_laysWays_32 {v1 : Int32} {v2 : Int32} {o3 : Option Value} {o4 : Option Value} {h : PH} {Q : Res → PH → Prop}
    (T : (vp_in (nI 0) 253 ∧ (((gi h 132 (nI 0).toNatClampNeg) ≤ v2 → Q (.inl none) h) ∧ (¬ (gi h 132 (nI 0).toNatClampNeg) ≤ v2 → At m_X12_laysWays Q 44 0 [some (.ref 130), some (.int v1), some (.int v2), some (.int (nI 0)), o4] [] h)))) :
    At m_X12_laysWays Q 32 0 [some (.ref 130), some (.int v1), some (.int v2), o3, o4] [] h := by
  exact vg_ok k_X12_laysWays (stops := [2, 32, 44, 57, 117, 132]) 136 32 0 _ _ h T
set_option maxRecDepth 100000 in
set_option maxHeartbeats 4000000 in
theorem u_X12_laysWays_44 {v1 : Int32} {v2 : Int32} {v3 : Int32} {o4 : Option Value} {h : PH} {Q : Res → PH → Prop}
    (T : (vp_in (nI 0) 253 ∧ (((gi h 132 (nI 0).toNatClampNeg) ≤ v3 → At m_X12_laysWays Q 32 0 [some (.ref 130), some (.int v1), some (.int (v2 + (nI 1))), some (.int v3), o4] [] h) ∧ (¬ (gi h 132 (nI 0).toNatClampNeg) ≤ v3 → At m_X12_laysWays Q 57 0 [some (.ref 130), some (.int v1), some (.int v2), some (.int v3), some (.int (nI 0))] [] h)))) :
    At m_X12_laysWays Q 44 0 [some (.ref 130), some (.int v1), some (.int v2), some (.int v3), o4] [] h := by
  exact vg_ok k_X12_laysWays (stops := [2, 32, 44, 57, 117, 132]) 136 44 0 _ _ h T
set_option maxRecDepth 100000 in
set_option maxHeartbeats 4000000 in
theorem u_X12_laysWays_57 {v1 : Int32} {v2 : Int32} {v3 : Int32} {v4 : Int32} {h : PH} {Q : Res → PH → Prop}
    (T : (vp_in (nI 0) 253 ∧ (((gi h 132 (nI 0).toNatClampNeg) ≤ v4 → At m_X12_laysWays Q 44 0 [some (.ref 130), some (.int v1), some (.int v2), some (.int (v3 + (nI 1))), some (.int v4)] [] h) ∧ (¬ (gi h 132 (nI 0).toNatClampNeg) ≤ v4 → (vp_in v4 8 ∧ (((gi h 140 v4.toNatClampNeg) = (-(nI 1)) → At m_X12_laysWays Q 132 0 [some (.ref 130), some (.int v1), some (.int v2), some (.int v3), some (.int v4)] [] h) ∧ (¬ (gi h 140 v4.toNatClampNeg) = (-(nI 1)) → MetPM m_X12_mayFollow [.ref 130, .int v3, .int v4] h (rI (hnd Q (At m_X12_laysWays Q) 0 [some (.ref 130), some (.int v1), some (.int v2), some (.int v3), some (.int v4)] []) (fun x2 h1 => ((x2 = 0 → At m_X12_laysWays Q 132 0 [some (.ref 130), some (.int v1), some (.int v2), some (.int v3), some (.int v4)] [] h1) ∧ (¬ x2 = 0 → (vp_in v3 8 ∧ (((gi h1 140 v3.toNatClampNeg) = (-(nI 1)) → At m_X12_laysWays Q 117 0 [some (.ref 130), some (.int v1), some (.int v2), some (.int v3), some (.int v4)] [] h1) ∧ (¬ (gi h1 140 v3.toNatClampNeg) = (-(nI 1)) → (vp_in v3 8 ∧ (vp_in v4 8 ∧ (((gi h1 140 v3.toNatClampNeg) ≤ ((gi h1 140 v4.toNatClampNeg) + (nI 1)) → At m_X12_laysWays Q 132 0 [some (.ref 130), some (.int v1), some (.int v2), some (.int v3), some (.int v4)] [] h1) ∧ (¬ (gi h1 140 v3.toNatClampNeg) ≤ ((gi h1 140 v4.toNatClampNeg) + (nI 1)) → At m_X12_laysWays Q 117 0 [some (.ref 130), some (.int v1), some (.int v2), some (.int v3), some (.int v4)] [] h1)))))))))))))))))) :
    At m_X12_laysWays Q 57 0 [some (.ref 130), some (.int v1), some (.int v2), some (.int v3), some (.int v4)] [] h := by
  exact vg_ok k_X12_laysWays (stops := [2, 32, 44, 57, 117, 132]) 136 57 0 _ _ h T
set_option maxRecDepth 100000 in
set_option maxHeartbeats 4000000 in
theorem u_X12_laysWays_117 {v1 : Int32} {v2 : Int32} {v3 : Int32} {v4 : Int32} {h : PH} {Q : Res → PH → Prop}
    (T : (vp_in v4 8 ∧ (vp_in v3 8 ∧ At m_X12_laysWays Q 132 0 [some (.ref 130), some (.int v1), some (.int v2), some (.int v3), some (.int v4)] [] (si h 140 v3.toNatClampNeg ((gi h 140 v4.toNatClampNeg) + (nI 1)))))) :
    At m_X12_laysWays Q 117 0 [some (.ref 130), some (.int v1), some (.int v2), some (.int v3), some (.int v4)] [] h := by
  exact vg_ok k_X12_laysWays (stops := [2, 32, 44, 57, 117, 132]) 136 117 0 _ _ h T
set_option maxRecDepth 100000 in
set_option maxHeartbeats 4000000 in
theorem u_X12_laysWays_132 {v1 : Int32} {v2 : Int32} {v3 : Int32} {v4 : Int32} {h : PH} {Q : Res → PH → Prop}
    (T : At m_X12_laysWays Q 57 0 [some (.ref 130), some (.int v1), some (.int v2), some (.int v3), some (.int (v4 + (nI 1)))] [] h) :
    At m_X12_laysWays Q 132 0 [some (.ref 130), some (.int v1), some (.int v2), some (.int v3), some (.int v4)] [] h := by
  exact vg_ok k_X12_laysWays (stops := [2, 32, 44, 57, 117, 132]) 136 132 0 _ _ h T
set_option maxRecDepth 100000 in
set_option maxHeartbeats 4000000 in
theorem t_X12_wayOf {p0 : Int32} {p1 : Int32} {h : PH} {Q : Res → PH → Prop}
    (T : MetPM m_X12_isVersion [.ref 130, .int p0] h (rI (hnd Q (At m_X12_wayOf Q) 0 [some (.ref 130), some (.int p0), some (.int p1)] []) (fun x2 h1 => ((x2 = 0 → MetPM m_X12_goes [.ref 130, .int (nI 0)] h1 (rI (hnd Q (At m_X12_wayOf Q) 0 [some (.ref 130), some (.int p0), some (.int p1)] []) (fun x4 h3 => ((¬ x4 = 0 → MetPM m_X12_laysWays [.ref 130, .int p1] h3 (rV (hnd Q (At m_X12_wayOf Q) 0 [some (.ref 130), some (.int p0), some (.int p1)] []) (fun h5 => (vp_in p0 8 ∧ Q (.inl (some (.int (gi h5 140 p0.toNatClampNeg)))) h5)))) ∧ (x4 = 0 → Q (.inl (some (.int (nI 0)))) h3))))) ∧ (¬ x2 = 0 → MetPM m_X12_isVersion [.ref 130, .int p1] h1 (rI (hnd Q (At m_X12_wayOf Q) 0 [some (.ref 130), some (.int p0), some (.int p1)] []) (fun x7 h6 => ((x7 = 0 → MetPM m_X12_goes [.ref 130, .int (nI 0)] h6 (rI (hnd Q (At m_X12_wayOf Q) 0 [some (.ref 130), some (.int p0), some (.int p1)] []) (fun x9 h8 => ((¬ x9 = 0 → MetPM m_X12_laysWays [.ref 130, .int p1] h8 (rV (hnd Q (At m_X12_wayOf Q) 0 [some (.ref 130), some (.int p0), some (.int p1)] []) (fun h10 => (vp_in p0 8 ∧ Q (.inl (some (.int (gi h10 140 p0.toNatClampNeg)))) h10)))) ∧ (x9 = 0 → Q (.inl (some (.int (nI 0)))) h8))))) ∧ (¬ x7 = 0 → MetPM m_X12_goes [.ref 130, .int (nI 1)] h6 (rI (hnd Q (At m_X12_wayOf Q) 0 [some (.ref 130), some (.int p0), some (.int p1)] []) (fun x12 h11 => ((¬ x12 = 0 → MetPM m_X12_laysWays [.ref 130, .int p1] h11 (rV (hnd Q (At m_X12_wayOf Q) 0 [some (.ref 130), some (.int p0), some (.int p1)] []) (fun h13 => (vp_in p0 8 ∧ Q (.inl (some (.int (gi h13 140 p0.toNatClampNeg)))) h13)))) ∧ (x12 = 0 → Q (.inl (some (.int (nI 0)))) h11))))))))))))) :
    MetPM m_X12_wayOf [.ref 130, .int p0, .int p1] h Q := by
  exact met_of o_X12_wayOf (Nat.le_of_ble_eq_true rfl) (fun q => absurd rfl q) (vg_ok k_X12_wayOf (stops := []) 74 0 0 _ [] h T)
set_option maxRecDepth 100000 in
set_option maxHeartbeats 4000000 in
theorem t_X12_nextOnWay {p0 : Int32} {p1 : Int32} {h : PH} {Q : Res → PH → Prop}
    (T : MetPM m_X12_isVersion [.ref 130, .int p0] h (rI (hnd Q (At m_X12_nextOnWay Q) 0 [some (.ref 130), some (.int p0), some (.int p1), none] []) (fun x2 h1 => ((x2 = 0 → MetPM m_X12_goes [.ref 130, .int (nI 0)] h1 (rI (hnd Q (At m_X12_nextOnWay Q) 0 [some (.ref 130), some (.int p0), some (.int p1), none] []) (fun x4 h3 => ((¬ x4 = 0 → MetPM m_X12_laysWays [.ref 130, .int p1] h3 (rV (hnd Q (At m_X12_nextOnWay Q) 0 [some (.ref 130), some (.int p0), some (.int p1), none] []) (fun h5 => (vp_in p0 8 ∧ ((0 < (gi h5 140 p0.toNatClampNeg) → At m_X12_nextOnWay Q 48 0 [some (.ref 130), some (.int p0), some (.int p1), some (.int (nI 0))] [] h5) ∧ (¬ 0 < (gi h5 140 p0.toNatClampNeg) → Q (.inl (some (.int (-(nI 1))))) h5)))))) ∧ (x4 = 0 → Q (.inl (some (.int (nI 0)))) h3))))) ∧ (¬ x2 = 0 → MetPM m_X12_isVersion [.ref 130, .int p1] h1 (rI (hnd Q (At m_X12_nextOnWay Q) 0 [some (.ref 130), some (.int p0), some (.int p1), none] []) (fun x7 h6 => ((x7 = 0 → MetPM m_X12_goes [.ref 130, .int (nI 0)] h6 (rI (hnd Q (At m_X12_nextOnWay Q) 0 [some (.ref 130), some (.int p0), some (.int p1), none] []) (fun x9 h8 => ((¬ x9 = 0 → MetPM m_X12_laysWays [.ref 130, .int p1] h8 (rV (hnd Q (At m_X12_nextOnWay Q) 0 [some (.ref 130), some (.int p0), some (.int p1), none] []) (fun h10 => (vp_in p0 8 ∧ ((0 < (gi h10 140 p0.toNatClampNeg) → At m_X12_nextOnWay Q 48 0 [some (.ref 130), some (.int p0), some (.int p1), some (.int (nI 0))] [] h10) ∧ (¬ 0 < (gi h10 140 p0.toNatClampNeg) → Q (.inl (some (.int (-(nI 1))))) h10)))))) ∧ (x9 = 0 → Q (.inl (some (.int (nI 0)))) h8))))) ∧ (¬ x7 = 0 → MetPM m_X12_goes [.ref 130, .int (nI 1)] h6 (rI (hnd Q (At m_X12_nextOnWay Q) 0 [some (.ref 130), some (.int p0), some (.int p1), none] []) (fun x12 h11 => ((¬ x12 = 0 → MetPM m_X12_laysWays [.ref 130, .int p1] h11 (rV (hnd Q (At m_X12_nextOnWay Q) 0 [some (.ref 130), some (.int p0), some (.int p1), none] []) (fun h13 => (vp_in p0 8 ∧ ((0 < (gi h13 140 p0.toNatClampNeg) → At m_X12_nextOnWay Q 48 0 [some (.ref 130), some (.int p0), some (.int p1), some (.int (nI 0))] [] h13) ∧ (¬ 0 < (gi h13 140 p0.toNatClampNeg) → Q (.inl (some (.int (-(nI 1))))) h13)))))) ∧ (x12 = 0 → Q (.inl (some (.int (nI 0)))) h11))))))))))))) :
    MetPM m_X12_nextOnWay [.ref 130, .int p0, .int p1] h Q := by
  exact met_of o_X12_nextOnWay (Nat.le_of_ble_eq_true rfl) (fun q => absurd rfl q) (vg_ok k_X12_nextOnWay (stops := [48, 86]) 106 0 0 _ [] h T)
set_option maxRecDepth 100000 in
set_option maxHeartbeats 4000000 in
theorem u_X12_nextOnWay_48 {v1 : Int32} {v2 : Int32} {v3 : Int32} {h : PH} {Q : Res → PH → Prop}
    (T : (vp_in (nI 0) 253 ∧ (((gi h 132 (nI 0).toNatClampNeg) ≤ v3 → Q (.inl (some (.int (-(nI 1))))) h) ∧ (¬ (gi h 132 (nI 0).toNatClampNeg) ≤ v3 → MetPM m_X12_mayFollow [.ref 130, .int v1, .int v3] h (rI (hnd Q (At m_X12_nextOnWay Q) 0 [some (.ref 130), some (.int v1), some (.int v2), some (.int v3)] []) (fun x2 h1 => ((x2 = 0 → At m_X12_nextOnWay Q 86 0 [some (.ref 130), some (.int v1), some (.int v2), some (.int v3)] [] h1) ∧ (¬ x2 = 0 → (vp_in v3 8 ∧ (vp_in v1 8 ∧ ((¬ (gi h1 140 v3.toNatClampNeg) = ((gi h1 140 v1.toNatClampNeg) - (nI 1)) → At m_X12_nextOnWay Q 86 0 [some (.ref 130), some (.int v1), some (.int v2), some (.int v3)] [] h1) ∧ ((gi h1 140 v3.toNatClampNeg) = ((gi h1 140 v1.toNatClampNeg) - (nI 1)) → Q (.inl (some (.int v3))) h1)))))))))))) :
    At m_X12_nextOnWay Q 48 0 [some (.ref 130), some (.int v1), some (.int v2), some (.int v3)] [] h := by
  exact vg_ok k_X12_nextOnWay (stops := [48, 86]) 106 48 0 _ _ h T
set_option maxRecDepth 100000 in
set_option maxHeartbeats 4000000 in
theorem u_X12_nextOnWay_86 {v1 : Int32} {v2 : Int32} {v3 : Int32} {h : PH} {Q : Res → PH → Prop}
    (T : At m_X12_nextOnWay Q 48 0 [some (.ref 130), some (.int v1), some (.int v2), some (.int (v3 + (nI 1)))] [] h) :
    At m_X12_nextOnWay Q 86 0 [some (.ref 130), some (.int v1), some (.int v2), some (.int v3)] [] h := by
  exact vg_ok k_X12_nextOnWay (stops := [48, 86]) 106 86 0 _ _ h T
set_option maxRecDepth 100000 in
set_option maxHeartbeats 4000000 in
theorem t_X12_isMember {p0 : Int32} {h : PH} {Q : Res → PH → Prop}
    (T : (vp_in (nI 2) 253 ∧ MetPM m_X12_isIn [.long (p0.toInt64), .long (lN 0), .long (((gi h 132 (nI 2).toNatClampNeg) - (nI 1)).toInt64)] h (rI (hnd Q (At m_X12_isMember Q) 0 [some (.ref 130), some (.int p0)] []) (fun x2 h1 => (isB x2 ∧ Q (.inl (some (.int x2))) h1))))) :
    MetPM m_X12_isMember [.ref 130, .int p0] h Q := by
  exact met_of o_X12_isMember (Nat.le_of_ble_eq_true rfl) (fun q => absurd rfl q) (vg_ok k_X12_isMember (stops := []) 62 0 0 _ [] h T)
set_option maxRecDepth 100000 in
set_option maxHeartbeats 4000000 in
theorem t_X12_goesBoth {p0 : Int32} {p1 : Int32} {h : PH} {Q : Res → PH → Prop}
    (T : ((¬ p0 = 0 → ((¬ p1 = 0 → ((¬ (gi (si h 130 0 (nI 0)) 130 0) = 0 → (isB (nI 0) ∧ Q (.inl (some (.int (nI 0)))) (si h 130 0 (nI 0)))) ∧ ((gi (si h 130 0 (nI 0)) 130 0) = 0 → (isB (nI 1) ∧ Q (.inl (some (.int (nI 1)))) (si h 130 0 (nI 0)))))) ∧ (p1 = 0 → ((¬ (gi (si h 130 0 (nI 2)) 130 0) = 0 → (isB (nI 0) ∧ Q (.inl (some (.int (nI 0)))) (si h 130 0 (nI 2)))) ∧ ((gi (si h 130 0 (nI 2)) 130 0) = 0 → (isB (nI 1) ∧ Q (.inl (some (.int (nI 1)))) (si h 130 0 (nI 2)))))))) ∧ (p0 = 0 → ((¬ (gi (si h 130 0 (nI 1)) 130 0) = 0 → (isB (nI 0) ∧ Q (.inl (some (.int (nI 0)))) (si h 130 0 (nI 1)))) ∧ ((gi (si h 130 0 (nI 1)) 130 0) = 0 → (isB (nI 1) ∧ Q (.inl (some (.int (nI 1)))) (si h 130 0 (nI 1)))))))) :
    MetPM m_X12_goesBoth [.ref 130, .int p0, .int p1] h Q := by
  exact met_of o_X12_goesBoth (Nat.le_of_ble_eq_true rfl) (fun q => absurd rfl q) (vg_ok k_X12_goesBoth (stops := []) 68 0 0 _ [] h T)
set_option maxRecDepth 100000 in
set_option maxHeartbeats 4000000 in
theorem t_X12_member {p0 : Int32} {p1 : Int32} {h : PH} {Q : Res → PH → Prop}
    (T : MetPM m_X12_isMember [.ref 130, .int p0] h (rI (hnd Q (At m_X12_member Q) 0 [some (.ref 130), some (.int p0), some (.int p1)] []) (fun x2 h1 => MetPM m_X12_isIn [.long (p1.toInt64), .long (lN 0), .long (lN 6)] h1 (rI (hnd Q (At m_X12_member Q) 0 [some (.ref 130), some (.int p0), some (.int p1)] []) (fun x4 h3 => MetPM m_X12_goesBoth [.ref 130, .int x2, .int x4] h3 (rI (hnd Q (At m_X12_member Q) 0 [some (.ref 130), some (.int p0), some (.int p1)] []) (fun x6 h5 => ((¬ x6 = 0 → ((¬ p1 = (nI 6) → MetPM m_X12_of [.ref 130, .int p0, .int p1] h5 (rI (hnd Q (At m_X12_member Q) 0 [some (.ref 130), some (.int p0), some (.int p1)] []) (fun x8 h7 => Q (.inl (some (.int x8))) h7))) ∧ (p1 = (nI 6) → MetPM m_X12_of [.ref 130, .int p0, .int (nI 0)] h5 (rI (hnd Q (At m_X12_member Q) 0 [some (.ref 130), some (.int p0), some (.int p1)] []) (fun x10 h9 => (vp_in ((nI 44) + x10) 253 ∧ Q (.inl (some (.int (gi h9 132 ((nI 44) + x10).toNatClampNeg)))) h9)))))) ∧ (x6 = 0 → Q (.inl (some (.int (nI 0)))) h5))))))))) :
    MetPM m_X12_member [.ref 130, .int p0, .int p1] h Q := by
  exact met_of o_X12_member (Nat.le_of_ble_eq_true rfl) (fun q => absurd rfl q) (vg_ok k_X12_member (stops := []) 81 0 0 _ [] h T)
set_option maxRecDepth 100000 in
set_option maxHeartbeats 4000000 in
theorem t_X12_partners {p0 : Int32} {h : PH} {Q : Res → PH → Prop}
    (T : MetPM m_X12_isMember [.ref 130, .int p0] h (rI (hnd Q (At m_X12_partners Q) 0 [some (.ref 130), some (.int p0), none, none] []) (fun x2 h1 => MetPM m_X12_goes [.ref 130, .int x2] h1 (rI (hnd Q (At m_X12_partners Q) 0 [some (.ref 130), some (.int p0), none, none] []) (fun x4 h3 => ((¬ x4 = 0 → At m_X12_partners Q 18 0 [some (.ref 130), some (.int p0), some (.int (nI 0)), some (.int (nI 0))] [] h3) ∧ (x4 = 0 → Q (.inl (some (.int (nI 0)))) h3))))))) :
    MetPM m_X12_partners [.ref 130, .int p0] h Q := by
  exact met_of o_X12_partners (Nat.le_of_ble_eq_true rfl) (fun q => absurd rfl q) (vg_ok k_X12_partners (stops := [18]) 82 0 0 _ [] h T)
set_option maxRecDepth 100000 in
set_option maxHeartbeats 4000000 in
theorem u_X12_partners_18 {v1 : Int32} {v2 : Int32} {v3 : Int32} {h : PH} {Q : Res → PH → Prop}
    (T : (vp_in (nI 2) 253 ∧ (((gi h 132 (nI 2).toNatClampNeg) ≤ v3 → Q (.inl (some (.int v2))) h) ∧ (¬ (gi h 132 (nI 2).toNatClampNeg) ≤ v3 → MetPM m_X12_arePartners [.ref 130, .int v1, .int v3] h (rI (hnd Q (At m_X12_partners Q) 0 [some (.ref 130), some (.int v1), some (.int v2), some (.int v3)] []) (fun x2 h1 => MetPM m_X12_truth [.int x2] h1 (rI (hnd Q (At m_X12_partners Q) 0 [some (.ref 130), some (.int v1), some (.int v2), some (.int v3)] []) (fun x4 h3 => At m_X12_partners Q 18 0 [some (.ref 130), some (.int v1), some (.int (v2 ||| (x4 <<< (v3 &&& 31)))), some (.int (v3 + (nI 1)))] [] h3)))))))) :
    At m_X12_partners Q 18 0 [some (.ref 130), some (.int v1), some (.int v2), some (.int v3)] [] h := by
  exact vg_ok k_X12_partners (stops := [18]) 82 18 0 _ _ h T
set_option maxRecDepth 100000 in
set_option maxHeartbeats 4000000 in
theorem t_X12_isUpWith {p0 : Int32} {p1 : Int32} {h : PH} {Q : Res → PH → Prop}
    (T : MetPM m_X12_isDown [.ref 130, .int p0] h (rI (hnd Q (At m_X12_isUpWith Q) 0 [some (.ref 130), some (.int p0), some (.int p1)] []) (fun x2 h1 => ((¬ x2 = 0 → (isB (nI 0) ∧ Q (.inl (some (.int (nI 0)))) h1)) ∧ (x2 = 0 → MetPM m_X12_of [.ref 130, .int p0, .int (nI 1)] h1 (rI (hnd Q (At m_X12_isUpWith Q) 0 [some (.ref 130), some (.int p0), some (.int p1)] []) (fun x4 h3 => ((¬ x4 = p1 → (isB (nI 0) ∧ Q (.inl (some (.int (nI 0)))) h3)) ∧ (x4 = p1 → (isB (nI 1) ∧ Q (.inl (some (.int (nI 1)))) h3)))))))))) :
    MetPM m_X12_isUpWith [.ref 130, .int p0, .int p1] h Q := by
  exact met_of o_X12_isUpWith (Nat.le_of_ble_eq_true rfl) (fun q => absurd rfl q) (vg_ok k_X12_isUpWith (stops := []) 64 0 0 _ [] h T)
set_option maxRecDepth 100000 in
set_option maxHeartbeats 4000000 in
theorem t_X12_with {p0 : Int32} {h : PH} {Q : Res → PH → Prop}
    (T : MetPM m_X12_isVersion [.ref 130, .int p0] h (rI (hnd Q (At m_X12_with Q) 0 [some (.ref 130), some (.int p0), none, none] []) (fun x2 h1 => MetPM m_X12_goes [.ref 130, .int x2] h1 (rI (hnd Q (At m_X12_with Q) 0 [some (.ref 130), some (.int p0), none, none] []) (fun x4 h3 => ((¬ x4 = 0 → At m_X12_with Q 18 0 [some (.ref 130), some (.int p0), some (.int (nI 0)), some (.int (nI 0))] [] h3) ∧ (x4 = 0 → Q (.inl (some (.int (nI 0)))) h3))))))) :
    MetPM m_X12_with [.ref 130, .int p0] h Q := by
  exact met_of o_X12_with (Nat.le_of_ble_eq_true rfl) (fun q => absurd rfl q) (vg_ok k_X12_with (stops := [18]) 82 0 0 _ [] h T)
set_option maxRecDepth 100000 in
set_option maxHeartbeats 4000000 in
theorem u_X12_with_18 {v1 : Int32} {v2 : Int32} {v3 : Int32} {h : PH} {Q : Res → PH → Prop}
    (T : (vp_in (nI 2) 253 ∧ (((gi h 132 (nI 2).toNatClampNeg) ≤ v3 → Q (.inl (some (.int v2))) h) ∧ (¬ (gi h 132 (nI 2).toNatClampNeg) ≤ v3 → MetPM m_X12_isUpWith [.ref 130, .int v3, .int v1] h (rI (hnd Q (At m_X12_with Q) 0 [some (.ref 130), some (.int v1), some (.int v2), some (.int v3)] []) (fun x2 h1 => MetPM m_X12_truth [.int x2] h1 (rI (hnd Q (At m_X12_with Q) 0 [some (.ref 130), some (.int v1), some (.int v2), some (.int v3)] []) (fun x4 h3 => At m_X12_with Q 18 0 [some (.ref 130), some (.int v1), some (.int (v2 ||| (x4 <<< (v3 &&& 31)))), some (.int (v3 + (nI 1)))] [] h3)))))))) :
    At m_X12_with Q 18 0 [some (.ref 130), some (.int v1), some (.int v2), some (.int v3)] [] h := by
  exact vg_ok k_X12_with (stops := [18]) 82 18 0 _ _ h T
set_option maxRecDepth 100000 in
set_option maxHeartbeats 4000000 in
theorem t_X12_isPlace {p0 : Int32} {h : PH} {Q : Res → PH → Prop}
    (T : (vp_in (nI 1) 253 ∧ MetPM m_X12_isIn [.long (p0.toInt64), .long (lN 0), .long (((gi h 132 (nI 1).toNatClampNeg) - (nI 1)).toInt64)] h (rI (hnd Q (At m_X12_isPlace Q) 0 [some (.ref 130), some (.int p0)] []) (fun x2 h1 => (isB x2 ∧ Q (.inl (some (.int x2))) h1))))) :
    MetPM m_X12_isPlace [.ref 130, .int p0] h Q := by
  exact met_of o_X12_isPlace (Nat.le_of_ble_eq_true rfl) (fun q => absurd rfl q) (vg_ok k_X12_isPlace (stops := []) 62 0 0 _ [] h T)
set_option maxRecDepth 100000 in
set_option maxHeartbeats 4000000 in
theorem t_X12_down {p0 : Int32} {h : PH} {Q : Res → PH → Prop}
    (T : MetPM m_X12_isPlace [.ref 130, .int p0] h (rI (hnd Q (At m_X12_down Q) 0 [some (.ref 130), some (.int p0)] []) (fun x2 h1 => MetPM m_X12_goes [.ref 130, .int x2] h1 (rI (hnd Q (At m_X12_down Q) 0 [some (.ref 130), some (.int p0)] []) (fun x4 h3 => ((x4 = 0 → Q (.inl (some (.int (nI 0)))) h3) ∧ (¬ x4 = 0 → MetPM m_X12_downIn [.ref 130, .int p0] h3 (rI (hnd Q (At m_X12_down Q) 0 [some (.ref 130), some (.int p0)] []) (fun x6 h5 => Q (.inl (some (.int x6))) h5))))))))) :
    MetPM m_X12_down [.ref 130, .int p0] h Q := by
  exact met_of o_X12_down (Nat.le_of_ble_eq_true rfl) (fun q => absurd rfl q) (vg_ok k_X12_down (stops := []) 62 0 0 _ [] h T)
set_option maxRecDepth 100000 in
set_option maxHeartbeats 4000000 in
theorem t_X12_extreme {p0 : Int32} {h : PH} {Q : Res → PH → Prop}
    (T : At m_X12_extreme Q 4 0 [some (.ref 130), some (.int p0), some (.int (-(nI 1))), some (.int (nI 0)), none] [] h) :
    MetPM m_X12_extreme [.ref 130, .int p0] h Q := by
  exact met_of o_X12_extreme (Nat.le_of_ble_eq_true rfl) (fun q => absurd rfl q) (vg_ok k_X12_extreme (stops := [4]) 84 0 0 _ [] h T)
set_option maxRecDepth 100000 in
set_option maxHeartbeats 4000000 in
theorem u_X12_extreme_4 {v1 : Int32} {v2 : Int32} {v3 : Int32} {o4 : Option Value} {h : PH} {Q : Res → PH → Prop}
    (T : (vp_in (nI 2) 253 ∧ (((gi h 132 (nI 2).toNatClampNeg) ≤ v3 → Q (.inl (some (.int v2))) h) ∧ (¬ (gi h 132 (nI 2).toNatClampNeg) ≤ v3 → MetPM m_X12_coming [.ref 130, .int v3] h (rI (hnd Q (At m_X12_extreme Q) 0 [some (.ref 130), some (.int v1), some (.int v2), some (.int v3), o4] []) (fun x2 h1 => ((v2 = (-(nI 1)) → At m_X12_extreme Q 4 0 [some (.ref 130), some (.int v1), some (.int x2), some (.int (v3 + (nI 1))), some (.int x2)] [] h1) ∧ (¬ v2 = (-(nI 1)) → ((v1 = 0 → ((x2 ≤ v2 → At m_X12_extreme Q 4 0 [some (.ref 130), some (.int v1), some (.int v2), some (.int (v3 + (nI 1))), some (.int x2)] [] h1) ∧ (¬ x2 ≤ v2 → At m_X12_extreme Q 4 0 [some (.ref 130), some (.int v1), some (.int x2), some (.int (v3 + (nI 1))), some (.int x2)] [] h1))) ∧ (¬ v1 = 0 → ((v2 ≤ x2 → At m_X12_extreme Q 4 0 [some (.ref 130), some (.int v1), some (.int v2), some (.int (v3 + (nI 1))), some (.int x2)] [] h1) ∧ (¬ v2 ≤ x2 → At m_X12_extreme Q 4 0 [some (.ref 130), some (.int v1), some (.int x2), some (.int (v3 + (nI 1))), some (.int x2)] [] h1)))))))))))) :
    At m_X12_extreme Q 4 0 [some (.ref 130), some (.int v1), some (.int v2), some (.int v3), o4] [] h := by
  exact vg_ok k_X12_extreme (stops := [4]) 84 4 0 _ _ h T
set_option maxRecDepth 100000 in
set_option maxHeartbeats 4000000 in
theorem t_X12_skewNow {h : PH} {Q : Res → PH → Prop}
    (T : MetPM m_X12_extreme [.ref 130, .int (nI 0)] (si h 130 0 (nI 0)) (rI (hnd Q (At m_X12_skewNow Q) 0 [some (.ref 130)] []) (fun x2 h1 => MetPM m_X12_extreme [.ref 130, .int (nI 1)] h1 (rI (hnd Q (At m_X12_skewNow Q) 0 [some (.ref 130)] []) (fun x4 h3 => Q (.inl (some (.int (x2 - x4)))) h3))))) :
    MetPM m_X12_skewNow [.ref 130] h Q := by
  exact met_of o_X12_skewNow (Nat.le_of_ble_eq_true rfl) (fun q => absurd rfl q) (vg_ok k_X12_skewNow (stops := []) 61 0 0 _ [] h T)
set_option maxRecDepth 100000 in
set_option maxHeartbeats 4000000 in
theorem t_X12_areThere {p0 : Int32} {p1 : Int32} {h : PH} {Q : Res → PH → Prop}
    (T : MetPM m_X12_isMember [.ref 130, .int p0] h (rI (hnd Q (At m_X12_areThere Q) 0 [some (.ref 130), some (.int p0), some (.int p1)] []) (fun x2 h1 => ((x2 = 0 → (isB (nI 0) ∧ Q (.inl (some (.int (nI 0)))) h1)) ∧ (¬ x2 = 0 → MetPM m_X12_isVersion [.ref 130, .int p1] h1 (rI (hnd Q (At m_X12_areThere Q) 0 [some (.ref 130), some (.int p0), some (.int p1)] []) (fun x4 h3 => ((x4 = 0 → (isB (nI 0) ∧ Q (.inl (some (.int (nI 0)))) h3)) ∧ (¬ x4 = 0 → (isB (nI 1) ∧ Q (.inl (some (.int (nI 1)))) h3)))))))))) :
    MetPM m_X12_areThere [.ref 130, .int p0, .int p1] h Q := by
  exact met_of o_X12_areThere (Nat.le_of_ble_eq_true rfl) (fun q => absurd rfl q) (vg_ok k_X12_areThere (stops := []) 62 0 0 _ [] h T)
set_option maxRecDepth 100000 in
set_option maxHeartbeats 4000000 in
theorem t_X12_reason {p0 : Int32} {p1 : Int32} {h : PH} {Q : Res → PH → Prop}
    (T : MetPM m_X12_areThere [.ref 130, .int p0, .int p1] h (rI (hnd Q (At m_X12_reason Q) 0 [some (.ref 130), some (.int p0), some (.int p1)] []) (fun x2 h1 => MetPM m_X12_goes [.ref 130, .int x2] h1 (rI (hnd Q (At m_X12_reason Q) 0 [some (.ref 130), some (.int p0), some (.int p1)] []) (fun x4 h3 => ((x4 = 0 → Q (.inl (some (.int (nI 0)))) h3) ∧ (¬ x4 = 0 → MetPM m_X12_why [.ref 130, .int p0, .int p1] h3 (rI (hnd Q (At m_X12_reason Q) 0 [some (.ref 130), some (.int p0), some (.int p1)] []) (fun x6 h5 => Q (.inl (some (.int x6))) h5))))))))) :
    MetPM m_X12_reason [.ref 130, .int p0, .int p1] h Q := by
  exact met_of o_X12_reason (Nat.le_of_ble_eq_true rfl) (fun q => absurd rfl q) (vg_ok k_X12_reason (stops := []) 64 0 0 _ [] h T)
set_option maxRecDepth 100000 in
set_option maxHeartbeats 4000000 in
theorem t_X12_open {p0 : Int32} {h : PH} {Q : Res → PH → Prop}
    (T : MetPM m_X12_isMember [.ref 130, .int p0] h (rI (hnd Q (At m_X12_open Q) 0 [some (.ref 130), some (.int p0), none, none] []) (fun x2 h1 => MetPM m_X12_goes [.ref 130, .int x2] h1 (rI (hnd Q (At m_X12_open Q) 0 [some (.ref 130), some (.int p0), none, none] []) (fun x4 h3 => ((¬ x4 = 0 → At m_X12_open Q 18 0 [some (.ref 130), some (.int p0), some (.int (nI 0)), some (.int (nI 0))] [] h3) ∧ (x4 = 0 → Q (.inl (some (.int (nI 0)))) h3))))))) :
    MetPM m_X12_open [.ref 130, .int p0] h Q := by
  exact met_of o_X12_open (Nat.le_of_ble_eq_true rfl) (fun q => absurd rfl q) (vg_ok k_X12_open (stops := [18]) 86 0 0 _ [] h T)
set_option maxRecDepth 100000 in
set_option maxHeartbeats 4000000 in
theorem u_X12_open_18 {v1 : Int32} {v2 : Int32} {v3 : Int32} {h : PH} {Q : Res → PH → Prop}
    (T : (vp_in (nI 0) 253 ∧ (((gi h 132 (nI 0).toNatClampNeg) ≤ v3 → Q (.inl (some (.int v2))) h) ∧ (¬ (gi h 132 (nI 0).toNatClampNeg) ≤ v3 → MetPM m_X12_why [.ref 130, .int v1, .int v3] h (rI (hnd Q (At m_X12_open Q) 0 [some (.ref 130), some (.int v1), some (.int v2), some (.int v3)] []) (fun x2 h1 => ((¬ x2 = 0 → MetPM m_X12_truth [.int (nI 0)] h1 (rI (hnd Q (At m_X12_open Q) 0 [some (.ref 130), some (.int v1), some (.int v2), some (.int v3)] []) (fun x4 h3 => At m_X12_open Q 18 0 [some (.ref 130), some (.int v1), some (.int (v2 ||| (x4 <<< (v3 &&& 31)))), some (.int (v3 + (nI 1)))] [] h3))) ∧ (x2 = 0 → MetPM m_X12_truth [.int (nI 1)] h1 (rI (hnd Q (At m_X12_open Q) 0 [some (.ref 130), some (.int v1), some (.int v2), some (.int v3)] []) (fun x6 h5 => At m_X12_open Q 18 0 [some (.ref 130), some (.int v1), some (.int (v2 ||| (x6 <<< (v3 &&& 31)))), some (.int (v3 + (nI 1)))] [] h5)))))))))) :
    At m_X12_open Q 18 0 [some (.ref 130), some (.int v1), some (.int v2), some (.int v3)] [] h := by
  exact vg_ok k_X12_open (stops := [18]) 86 18 0 _ _ h T
set_option maxRecDepth 100000 in
set_option maxHeartbeats 4000000 in
theorem t_X12_against {p0 : Int32} {p1 : Int32} {h : PH} {Q : Res → PH → Prop}
    (T : MetPM m_X12_areThere [.ref 130, .int p0, .int p1] h (rI (hnd Q (At m_X12_against Q) 0 [some (.ref 130), some (.int p0), some (.int p1)] []) (fun x2 h1 => MetPM m_X12_goes [.ref 130, .int x2] h1 (rI (hnd Q (At m_X12_against Q) 0 [some (.ref 130), some (.int p0), some (.int p1)] []) (fun x4 h3 => ((x4 = 0 → Q (.inl (some (.int (nI 0)))) h3) ∧ (¬ x4 = 0 → MetPM m_X12_silent [.ref 130, .int p0, .int p1] h3 (rI (hnd Q (At m_X12_against Q) 0 [some (.ref 130), some (.int p0), some (.int p1)] []) (fun x6 h5 => Q (.inl (some (.int x6))) h5))))))))) :
    MetPM m_X12_against [.ref 130, .int p0, .int p1] h Q := by
  exact met_of o_X12_against (Nat.le_of_ble_eq_true rfl) (fun q => absurd rfl q) (vg_ok k_X12_against (stops := []) 64 0 0 _ [] h T)
set_option maxRecDepth 100000 in
set_option maxHeartbeats 4000000 in
theorem t_X12_mixed {h : PH} {Q : Res → PH → Prop}
    (T : At m_X12_mixed Q 9 0 [some (.ref 130), some (.int (nI 0)), some (.int (nI 0)), none] [] (si h 130 0 (nI 0))) :
    MetPM m_X12_mixed [.ref 130] h Q := by
  exact met_of o_X12_mixed (Nat.le_of_ble_eq_true rfl) (fun q => absurd rfl q) (vg_ok k_X12_mixed (stops := [9, 21]) 103 0 0 _ [] h T)
set_option maxRecDepth 100000 in
set_option maxHeartbeats 4000000 in
theorem u_X12_mixed_9 {v1 : Int32} {v2 : Int32} {o3 : Option Value} {h : PH} {Q : Res → PH → Prop}
    (T : (vp_in (nI 2) 253 ∧ (((gi h 132 (nI 2).toNatClampNeg) ≤ v2 → Q (.inl (some (.int v1))) h) ∧ (¬ (gi h 132 (nI 2).toNatClampNeg) ≤ v2 → At m_X12_mixed Q 21 0 [some (.ref 130), some (.int v1), some (.int v2), some (.int (nI 0))] [] h)))) :
    At m_X12_mixed Q 9 0 [some (.ref 130), some (.int v1), some (.int v2), o3] [] h := by
  exact vg_ok k_X12_mixed (stops := [9, 21]) 103 9 0 _ _ h T
set_option maxRecDepth 100000 in
set_option maxHeartbeats 4000000 in
theorem u_X12_mixed_21 {v1 : Int32} {v2 : Int32} {v3 : Int32} {h : PH} {Q : Res → PH → Prop}
    (T : ((v2 ≤ v3 → At m_X12_mixed Q 9 0 [some (.ref 130), some (.int v1), some (.int (v2 + (nI 1))), some (.int v3)] [] h) ∧ (¬ v2 ≤ v3 → MetPM m_X12_arePartners [.ref 130, .int v2, .int v3] h (rI (hnd Q (At m_X12_mixed Q) 0 [some (.ref 130), some (.int v1), some (.int v2), some (.int v3)] []) (fun x2 h1 => ((x2 = 0 → MetPM m_X12_truth [.int (nI 0)] h1 (rI (hnd Q (At m_X12_mixed Q) 0 [some (.ref 130), some (.int v1), some (.int v2), some (.int v3)] []) (fun x4 h3 => At m_X12_mixed Q 21 0 [some (.ref 130), some (.int (v1 + x4)), some (.int v2), some (.int (v3 + (nI 1)))] [] h3))) ∧ (¬ x2 = 0 → MetPM m_X12_isDown [.ref 130, .int v2] h1 (rI (hnd Q (At m_X12_mixed Q) 0 [some (.ref 130), some (.int v1), some (.int v2), some (.int v3)] []) (fun x6 h5 => ((¬ x6 = 0 → MetPM m_X12_truth [.int (nI 0)] h5 (rI (hnd Q (At m_X12_mixed Q) 0 [some (.ref 130), some (.int v1), some (.int v2), some (.int v3)] []) (fun x8 h7 => At m_X12_mixed Q 21 0 [some (.ref 130), some (.int (v1 + x8)), some (.int v2), some (.int (v3 + (nI 1)))] [] h7))) ∧ (x6 = 0 → MetPM m_X12_isDown [.ref 130, .int v3] h5 (rI (hnd Q (At m_X12_mixed Q) 0 [some (.ref 130), some (.int v1), some (.int v2), some (.int v3)] []) (fun x10 h9 => ((¬ x10 = 0 → MetPM m_X12_truth [.int (nI 0)] h9 (rI (hnd Q (At m_X12_mixed Q) 0 [some (.ref 130), some (.int v1), some (.int v2), some (.int v3)] []) (fun x12 h11 => At m_X12_mixed Q 21 0 [some (.ref 130), some (.int (v1 + x12)), some (.int v2), some (.int (v3 + (nI 1)))] [] h11))) ∧ (x10 = 0 → MetPM m_X12_of [.ref 130, .int v2, .int (nI 1)] h9 (rI (hnd Q (At m_X12_mixed Q) 0 [some (.ref 130), some (.int v1), some (.int v2), some (.int v3)] []) (fun x14 h13 => MetPM m_X12_of [.ref 130, .int v3, .int (nI 1)] h13 (rI (hnd Q (At m_X12_mixed Q) 0 [some (.ref 130), some (.int v1), some (.int v2), some (.int v3)] []) (fun x16 h15 => ((x14 = x16 → MetPM m_X12_truth [.int (nI 0)] h15 (rI (hnd Q (At m_X12_mixed Q) 0 [some (.ref 130), some (.int v1), some (.int v2), some (.int v3)] []) (fun x18 h17 => At m_X12_mixed Q 21 0 [some (.ref 130), some (.int (v1 + x18)), some (.int v2), some (.int (v3 + (nI 1)))] [] h17))) ∧ (¬ x14 = x16 → MetPM m_X12_truth [.int (nI 1)] h15 (rI (hnd Q (At m_X12_mixed Q) 0 [some (.ref 130), some (.int v1), some (.int v2), some (.int v3)] []) (fun x20 h19 => At m_X12_mixed Q 21 0 [some (.ref 130), some (.int (v1 + x20)), some (.int v2), some (.int (v3 + (nI 1)))] [] h19))))))))))))))))))))))) :
    At m_X12_mixed Q 21 0 [some (.ref 130), some (.int v1), some (.int v2), some (.int v3)] [] h := by
  exact vg_ok k_X12_mixed (stops := [9, 21]) 103 21 0 _ _ h T
set_option maxRecDepth 100000 in
set_option maxHeartbeats 4000000 in
theorem t_X12_plan {p0 : Int32} {h : PH} {Q : Res → PH → Prop}
    (T : MetPM m_X12_isIn [.long (p0.toInt64), .long (lN 0), .long (lN 4)] h (rI (hnd Q (At m_X12_plan Q) 0 [some (.ref 130), some (.int p0), none] []) (fun x2 h1 => MetPM m_X12_goes [.ref 130, .int x2] h1 (rI (hnd Q (At m_X12_plan Q) 0 [some (.ref 130), some (.int p0), none] []) (fun x4 h3 => ((¬ x4 = 0 → (vp_in (nI 12) 253 ∧ (((gi h3 132 (nI 12).toNatClampNeg) = (nI 2) → At m_X12_plan Q 51 0 [some (.ref 130), some (.int p0), none] [] h3) ∧ (¬ (gi h3 132 (nI 12).toNatClampNeg) = (nI 2) → (vp_in (nI 12) 253 ∧ ((¬ (gi h3 132 (nI 12).toNatClampNeg) = (nI 3) → At m_X12_plan Q 55 0 [some (.ref 130), some (.int p0), none] [] h3) ∧ ((gi h3 132 (nI 12).toNatClampNeg) = (nI 3) → (vp_in (nI 18) 253 ∧ ((¬ (gi h3 132 (nI 18).toNatClampNeg) = (nI 2) → At m_X12_plan Q 55 0 [some (.ref 130), some (.int p0), none] [] h3) ∧ ((gi h3 132 (nI 18).toNatClampNeg) = (nI 2) → At m_X12_plan Q 51 0 [some (.ref 130), some (.int p0), none] [] h3)))))))))) ∧ (x4 = 0 → Q (.inl (some (.int (nI 0)))) h3))))))) :
    MetPM m_X12_plan [.ref 130, .int p0] h Q := by
  exact met_of o_X12_plan (Nat.le_of_ble_eq_true rfl) (fun q => absurd rfl q) (vg_ok k_X12_plan (stops := [51, 55]) 113 0 0 _ [] h T)
set_option maxRecDepth 100000 in
set_option maxHeartbeats 4000000 in
theorem u_X12_plan_51 {v1 : Int32} {h : PH} {Q : Res → PH → Prop}
    (T : ((¬ v1 = 0 → ((¬ v1 = (nI 4) → MetPM m_X12_hasPlan [.ref 130] h (rI (hnd Q (At m_X12_plan Q) 0 [some (.ref 130), some (.int v1), some (.int (nI 1))] []) (fun x2 h1 => ((x2 = 0 → Q (.inl (some (.int (-(nI 1))))) h1) ∧ (¬ x2 = 0 → (vp_in ((nI 12) + v1) 253 ∧ Q (.inl (some (.int (gi h1 132 ((nI 12) + v1).toNatClampNeg)))) h1)))))) ∧ (v1 = (nI 4) → (((nI 1) = 0 → Q (.inl (some (.int (-(nI 1))))) h) ∧ (¬ (nI 1) = 0 → (vp_in (nI 16) 253 ∧ Q (.inl (some (.int (gi h 132 (nI 16).toNatClampNeg)))) h)))))) ∧ (v1 = 0 → (vp_in (nI 12) 253 ∧ Q (.inl (some (.int (gi h 132 (nI 12).toNatClampNeg)))) h)))) :
    At m_X12_plan Q 51 0 [some (.ref 130), some (.int v1), none] [] h := by
  exact vg_ok k_X12_plan (stops := [51, 55]) 113 51 0 _ _ h T
set_option maxRecDepth 100000 in
set_option maxHeartbeats 4000000 in
theorem u_X12_plan_55 {v1 : Int32} {h : PH} {Q : Res → PH → Prop}
    (T : ((¬ v1 = 0 → ((¬ v1 = (nI 4) → MetPM m_X12_hasPlan [.ref 130] h (rI (hnd Q (At m_X12_plan Q) 0 [some (.ref 130), some (.int v1), some (.int (nI 0))] []) (fun x2 h1 => ((x2 = 0 → Q (.inl (some (.int (-(nI 1))))) h1) ∧ (¬ x2 = 0 → (vp_in ((nI 12) + v1) 253 ∧ Q (.inl (some (.int (gi h1 132 ((nI 12) + v1).toNatClampNeg)))) h1)))))) ∧ (v1 = (nI 4) → (((nI 0) = 0 → Q (.inl (some (.int (-(nI 1))))) h) ∧ (¬ (nI 0) = 0 → (vp_in (nI 16) 253 ∧ Q (.inl (some (.int (gi h 132 (nI 16).toNatClampNeg)))) h)))))) ∧ (v1 = 0 → (vp_in (nI 12) 253 ∧ Q (.inl (some (.int (gi h 132 (nI 12).toNatClampNeg)))) h)))) :
    At m_X12_plan Q 55 0 [some (.ref 130), some (.int v1), none] [] h := by
  exact vg_ok k_X12_plan (stops := [51, 55]) 113 55 0 _ _ h T
set_option maxRecDepth 100000 in
set_option maxHeartbeats 4000000 in
theorem t_X12_lags {h : PH} {Q : Res → PH → Prop}
    (T : At m_X12_lags Q 4 0 [some (.ref 130), some (.int (nI 0)), some (.int (nI 0))] [] h) :
    MetPM m_X12_lags [.ref 130] h Q := by
  exact met_of o_X12_lags (Nat.le_of_ble_eq_true rfl) (fun q => absurd rfl q) (vg_ok k_X12_lags (stops := [4]) 88 0 0 _ [] h T)
set_option maxRecDepth 100000 in
set_option maxHeartbeats 4000000 in
theorem u_X12_lags_4 {v1 : Int32} {v2 : Int32} {h : PH} {Q : Res → PH → Prop}
    (T : (vp_in (nI 2) 253 ∧ (((gi h 132 (nI 2).toNatClampNeg) ≤ v2 → Q (.inl (some (.int v1))) h) ∧ (¬ (gi h 132 (nI 2).toNatClampNeg) ≤ v2 → MetPM m_X12_hasPlan [.ref 130] h (rI (hnd Q (At m_X12_lags Q) 0 [some (.ref 130), some (.int v1), some (.int v2)] []) (fun x2 h1 => ((x2 = 0 → Q (.inl (some (.int v1))) h1) ∧ (¬ x2 = 0 → (vp_in (nI 15) 253 ∧ MetPM m_X12_isOfWave [.ref 130, .int v2, .int (gi h1 132 (nI 15).toNatClampNeg)] h1 (rI (hnd Q (At m_X12_lags Q) 0 [some (.ref 130), some (.int v1), some (.int v2)] []) (fun x4 h3 => ((x4 = 0 → MetPM m_X12_truth [.int (nI 0)] h3 (rI (hnd Q (At m_X12_lags Q) 0 [some (.ref 130), some (.int v1), some (.int v2)] []) (fun x6 h5 => At m_X12_lags Q 4 0 [some (.ref 130), some (.int (v1 ||| (x6 <<< (v2 &&& 31)))), some (.int (v2 + (nI 1)))] [] h5))) ∧ (¬ x4 = 0 → MetPM m_X12_isReady [.ref 130, .int v2] h3 (rI (hnd Q (At m_X12_lags Q) 0 [some (.ref 130), some (.int v1), some (.int v2)] []) (fun x8 h7 => ((¬ x8 = 0 → MetPM m_X12_truth [.int (nI 0)] h7 (rI (hnd Q (At m_X12_lags Q) 0 [some (.ref 130), some (.int v1), some (.int v2)] []) (fun x10 h9 => At m_X12_lags Q 4 0 [some (.ref 130), some (.int (v1 ||| (x10 <<< (v2 &&& 31)))), some (.int (v2 + (nI 1)))] [] h9))) ∧ (x8 = 0 → MetPM m_X12_truth [.int (nI 1)] h7 (rI (hnd Q (At m_X12_lags Q) 0 [some (.ref 130), some (.int v1), some (.int v2)] []) (fun x12 h11 => At m_X12_lags Q 4 0 [some (.ref 130), some (.int (v1 ||| (x12 <<< (v2 &&& 31)))), some (.int (v2 + (nI 1)))] [] h11))))))))))))))))))) :
    At m_X12_lags Q 4 0 [some (.ref 130), some (.int v1), some (.int v2)] [] h := by
  exact vg_ok k_X12_lags (stops := [4]) 88 4 0 _ _ h T
set_option maxRecDepth 100000 in
set_option maxHeartbeats 4000000 in
theorem t_X12_lagging {h : PH} {Q : Res → PH → Prop}
    (T : MetPM m_X12_lags [.ref 130] (si h 130 0 (nI 0)) (rI (hnd Q (At m_X12_lagging Q) 0 [some (.ref 130)] []) (fun x2 h1 => Q (.inl (some (.int x2))) h1))) :
    MetPM m_X12_lagging [.ref 130] h Q := by
  exact met_of o_X12_lagging (Nat.le_of_ble_eq_true rfl) (fun q => absurd rfl q) (vg_ok k_X12_lagging (stops := []) 56 0 0 _ [] h T)
set_option maxRecDepth 100000 in
set_option maxHeartbeats 4000000 in
theorem t_X12_blocked {h : PH} {Q : Res → PH → Prop}
    (T : MetPM m_X12_lags [.ref 130] (si h 130 0 (nI 0)) (rI (hnd Q (At m_X12_blocked Q) 0 [some (.ref 130), some (.int (nI 0)), none, none] []) (fun x2 h1 => At m_X12_blocked Q 14 0 [some (.ref 130), some (.int (nI 0)), some (.int x2), some (.int (nI 0))] [] h1))) :
    MetPM m_X12_blocked [.ref 130] h Q := by
  exact met_of o_X12_blocked (Nat.le_of_ble_eq_true rfl) (fun q => absurd rfl q) (vg_ok k_X12_blocked (stops := [14]) 95 0 0 _ [] h T)
set_option maxRecDepth 100000 in
set_option maxHeartbeats 4000000 in
theorem u_X12_blocked_14 {v1 : Int32} {v2 : Int32} {v3 : Int32} {h : PH} {Q : Res → PH → Prop}
    (T : (vp_in (nI 2) 253 ∧ (((gi h 132 (nI 2).toNatClampNeg) ≤ v3 → Q (.inl (some (.int v1))) h) ∧ (¬ (gi h 132 (nI 2).toNatClampNeg) ≤ v3 → MetPM m_X12_hasBit [.int v2, .int v3] h (rI (hnd Q (At m_X12_blocked Q) 0 [some (.ref 130), some (.int v1), some (.int v2), some (.int v3)] []) (fun x2 h1 => ((x2 = 0 → MetPM m_X12_truth [.int (nI 0)] h1 (rI (hnd Q (At m_X12_blocked Q) 0 [some (.ref 130), some (.int v1), some (.int v2), some (.int v3)] []) (fun x4 h3 => At m_X12_blocked Q 14 0 [some (.ref 130), some (.int (v1 ||| (x4 <<< (v3 &&& 31)))), some (.int v2), some (.int (v3 + (nI 1)))] [] h3))) ∧ (¬ x2 = 0 → MetPM m_X12_isDown [.ref 130, .int v3] h1 (rI (hnd Q (At m_X12_blocked Q) 0 [some (.ref 130), some (.int v1), some (.int v2), some (.int v3)] []) (fun x6 h5 => ((¬ x6 = 0 → MetPM m_X12_truth [.int (nI 0)] h5 (rI (hnd Q (At m_X12_blocked Q) 0 [some (.ref 130), some (.int v1), some (.int v2), some (.int v3)] []) (fun x8 h7 => At m_X12_blocked Q 14 0 [some (.ref 130), some (.int (v1 ||| (x8 <<< (v3 &&& 31)))), some (.int v2), some (.int (v3 + (nI 1)))] [] h7))) ∧ (x6 = 0 → (vp_in (nI 14) 253 ∧ MetPM m_X12_why [.ref 130, .int v3, .int (gi h5 132 (nI 14).toNatClampNeg)] h5 (rI (hnd Q (At m_X12_blocked Q) 0 [some (.ref 130), some (.int v1), some (.int v2), some (.int v3)] []) (fun x10 h9 => ((x10 = 0 → MetPM m_X12_truth [.int (nI 0)] h9 (rI (hnd Q (At m_X12_blocked Q) 0 [some (.ref 130), some (.int v1), some (.int v2), some (.int v3)] []) (fun x12 h11 => At m_X12_blocked Q 14 0 [some (.ref 130), some (.int (v1 ||| (x12 <<< (v3 &&& 31)))), some (.int v2), some (.int (v3 + (nI 1)))] [] h11))) ∧ (¬ x10 = 0 → MetPM m_X12_truth [.int (nI 1)] h9 (rI (hnd Q (At m_X12_blocked Q) 0 [some (.ref 130), some (.int v1), some (.int v2), some (.int v3)] []) (fun x14 h13 => At m_X12_blocked Q 14 0 [some (.ref 130), some (.int (v1 ||| (x14 <<< (v3 &&& 31)))), some (.int v2), some (.int (v3 + (nI 1)))] [] h13))))))))))))))))))) :
    At m_X12_blocked Q 14 0 [some (.ref 130), some (.int v1), some (.int v2), some (.int v3)] [] h := by
  exact vg_ok k_X12_blocked (stops := [14]) 95 14 0 _ _ h T
set_option maxRecDepth 100000 in
set_option maxHeartbeats 4000000 in
theorem t_X12_inWave {p0 : Int32} {h : PH} {Q : Res → PH → Prop}
    (T : (vp_in (nI 3) 253 ∧ MetPM m_X12_isIn [.long (p0.toInt64), .long (lN 0), .long (((gi h 132 (nI 3).toNatClampNeg) - (nI 1)).toInt64)] h (rI (hnd Q (At m_X12_inWave Q) 0 [some (.ref 130), some (.int p0), none, none] []) (fun x2 h1 => MetPM m_X12_goes [.ref 130, .int x2] h1 (rI (hnd Q (At m_X12_inWave Q) 0 [some (.ref 130), some (.int p0), none, none] []) (fun x4 h3 => ((¬ x4 = 0 → At m_X12_inWave Q 28 0 [some (.ref 130), some (.int p0), some (.int (nI 0)), some (.int (nI 0))] [] h3) ∧ (x4 = 0 → Q (.inl (some (.int (nI 0)))) h3)))))))) :
    MetPM m_X12_inWave [.ref 130, .int p0] h Q := by
  exact met_of o_X12_inWave (Nat.le_of_ble_eq_true rfl) (fun q => absurd rfl q) (vg_ok k_X12_inWave (stops := [28]) 90 0 0 _ [] h T)
set_option maxRecDepth 100000 in
set_option maxHeartbeats 4000000 in
theorem u_X12_inWave_28 {v1 : Int32} {v2 : Int32} {v3 : Int32} {h : PH} {Q : Res → PH → Prop}
    (T : (vp_in (nI 2) 253 ∧ (((gi h 132 (nI 2).toNatClampNeg) ≤ v3 → Q (.inl (some (.int v2))) h) ∧ (¬ (gi h 132 (nI 2).toNatClampNeg) ≤ v3 → MetPM m_X12_isOfWave [.ref 130, .int v3, .int v1] h (rI (hnd Q (At m_X12_inWave Q) 0 [some (.ref 130), some (.int v1), some (.int v2), some (.int v3)] []) (fun x2 h1 => MetPM m_X12_truth [.int x2] h1 (rI (hnd Q (At m_X12_inWave Q) 0 [some (.ref 130), some (.int v1), some (.int v2), some (.int v3)] []) (fun x4 h3 => At m_X12_inWave Q 28 0 [some (.ref 130), some (.int v1), some (.int (v2 ||| (x4 <<< (v3 &&& 31)))), some (.int (v3 + (nI 1)))] [] h3)))))))) :
    At m_X12_inWave Q 28 0 [some (.ref 130), some (.int v1), some (.int v2), some (.int v3)] [] h := by
  exact vg_ok k_X12_inWave (stops := [28]) 90 28 0 _ _ h T
set_option maxRecDepth 100000 in
set_option maxHeartbeats 4000000 in
theorem t_X12_share {p0 : Int32} {h : PH} {Q : Res → PH → Prop}
    (T : MetPM m_X12_isVersion [.ref 130, .int p0] h (rI (hnd Q (At m_X12_share Q) 0 [some (.ref 130), some (.int p0), none, none, none] []) (fun x2 h1 => MetPM m_X12_goes [.ref 130, .int x2] h1 (rI (hnd Q (At m_X12_share Q) 0 [some (.ref 130), some (.int p0), none, none, none] []) (fun x4 h3 => ((¬ x4 = 0 → At m_X12_share Q 21 0 [some (.ref 130), some (.int p0), some (.int (nI 0)), some (.int (nI 0)), some (.int (nI 0))] [] h3) ∧ (x4 = 0 → Q (.inl (some (.float FP.fconst0))) h3))))))) :
    MetPM m_X12_share [.ref 130, .int p0] h Q := by
  exact met_of o_X12_share (Nat.le_of_ble_eq_true rfl) (fun q => absurd rfl q) (vg_ok k_X12_share (stops := [21]) 96 0 0 _ [] h T)
set_option maxRecDepth 100000 in
set_option maxHeartbeats 4000000 in
theorem u_X12_share_21 {v1 : Int32} {v2 : Int32} {v3 : Int32} {v4 : Int32} {h : PH} {Q : Res → PH → Prop}
    (T : (vp_in (nI 2) 253 ∧ (((gi h 132 (nI 2).toNatClampNeg) ≤ v4 → ((¬ v2 = 0 → (vf_n32 (FP.fdiv (FP.i2f v3) (FP.i2f v2)) ∧ Q (.inl (some (.float (FP.fdiv (FP.i2f v3) (FP.i2f v2))))) h)) ∧ (v2 = 0 → Q (.inl (some (.float FP.fconst0))) h))) ∧ (¬ (gi h 132 (nI 2).toNatClampNeg) ≤ v4 → MetPM m_X12_isPlanned [.ref 130, .int v4] h (rI (hnd Q (At m_X12_share Q) 0 [some (.ref 130), some (.int v1), some (.int v2), some (.int v3), some (.int v4)] []) (fun x2 h1 => ((¬ x2 = 0 → MetPM m_X12_isUpWith [.ref 130, .int v4, .int v1] h1 (rI (hnd Q (At m_X12_share Q) 0 [some (.ref 130), some (.int v1), some (.int (v2 + (nI 1))), some (.int v3), some (.int v4)] []) (fun x4 h3 => MetPM m_X12_truth [.int x4] h3 (rI (hnd Q (At m_X12_share Q) 0 [some (.ref 130), some (.int v1), some (.int (v2 + (nI 1))), some (.int v3), some (.int v4)] []) (fun x6 h5 => At m_X12_share Q 21 0 [some (.ref 130), some (.int v1), some (.int (v2 + (nI 1))), some (.int (v3 + x6)), some (.int (v4 + (nI 1)))] [] h5))))) ∧ (x2 = 0 → At m_X12_share Q 21 0 [some (.ref 130), some (.int v1), some (.int v2), some (.int v3), some (.int (v4 + (nI 1)))] [] h1)))))))) :
    At m_X12_share Q 21 0 [some (.ref 130), some (.int v1), some (.int v2), some (.int v3), some (.int v4)] [] h := by
  exact vg_ok k_X12_share (stops := [21]) 96 21 0 _ _ h T
set_option maxRecDepth 100000 in
set_option maxHeartbeats 4000000 in
theorem t_X12_meanMeasure {h : PH} {Q : Res → PH → Prop}
    (T : MetPM m_X12_measures [.ref 130] (si h 130 0 (nI 0)) (rV (hnd Q (At m_X12_meanMeasure Q) 0 [some (.ref 130)] []) (fun h1 => ((¬ (gi h1 130 25) = 0 → (vf_n64 (FP.ddiv (FP.i2d (gi h1 130 26)) (FP.i2d (gi h1 130 25))) ∧ Q (.inl (some (.double (FP.ddiv (FP.i2d (gi h1 130 26)) (FP.i2d (gi h1 130 25)))))) h1)) ∧ ((gi h1 130 25) = 0 → Q (.inl (some (.double FP.dconst0))) h1))))) :
    MetPM m_X12_meanMeasure [.ref 130] h Q := by
  exact met_of o_X12_meanMeasure (Nat.le_of_ble_eq_true rfl) (fun q => absurd rfl q) (vg_ok k_X12_meanMeasure (stops := []) 68 0 0 _ [] h T)
set_option maxRecDepth 100000 in
set_option maxHeartbeats 4000000 in
theorem t_X12_whyNotCommit {p0 : Int32} {h : PH} {Q : Res → PH → Prop}
    (T : MetPM m_X12_isIn [.long (p0.toInt64), .long (lN 1), .long (lN 9)] h (rI (hnd Q (At m_X12_whyNotCommit Q) 0 [some (.ref 130), some (.int p0)] []) (fun x2 h1 => MetPM m_X12_goes [.ref 130, .int x2] h1 (rI (hnd Q (At m_X12_whyNotCommit Q) 0 [some (.ref 130), some (.int p0)] []) (fun x4 h3 => ((x4 = 0 → Q (.inl (some (.int (nI 0)))) h3) ∧ (¬ x4 = 0 → MetPM m_X12_whyCommit [.ref 130, .int p0] h3 (rI (hnd Q (At m_X12_whyNotCommit Q) 0 [some (.ref 130), some (.int p0)] []) (fun x6 h5 => Q (.inl (some (.int x6))) h5))))))))) :
    MetPM m_X12_whyNotCommit [.ref 130, .int p0] h Q := by
  exact met_of o_X12_whyNotCommit (Nat.le_of_ble_eq_true rfl) (fun q => absurd rfl q) (vg_ok k_X12_whyNotCommit (stops := []) 64 0 0 _ [] h T)
set_option maxRecDepth 100000 in
set_option maxHeartbeats 4000000 in
theorem t_X12_highestFormat {h : PH} {Q : Res → PH → Prop}
    (T : At m_X12_highestFormat Q 9 0 [some (.ref 130), some (.int (-(nI 1))), some (.int (nI 1))] [] (si h 130 0 (nI 0))) :
    MetPM m_X12_highestFormat [.ref 130] h Q := by
  exact met_of o_X12_highestFormat (Nat.le_of_ble_eq_true rfl) (fun q => absurd rfl q) (vg_ok k_X12_highestFormat (stops := [9]) 77 0 0 _ [] h T)
set_option maxRecDepth 100000 in
set_option maxHeartbeats 4000000 in
theorem u_X12_highestFormat_9 {v1 : Int32} {v2 : Int32} {h : PH} {Q : Res → PH → Prop}
    (T : (((nI 10) ≤ v2 → Q (.inl (some (.int v1))) h) ∧ (¬ (nI 10) ≤ v2 → (vp_in (nI 2) 253 ∧ (((gi h 132 (nI 2).toNatClampNeg) ≤ 0 → Q (.inl (some (.int v1))) h) ∧ (¬ (gi h 132 (nI 2).toNatClampNeg) ≤ 0 → MetPM m_X12_allRead [.ref 130, .int v2] h (rI (hnd Q (At m_X12_highestFormat Q) 0 [some (.ref 130), some (.int v1), some (.int v2)] []) (fun x2 h1 => ((x2 = 0 → At m_X12_highestFormat Q 9 0 [some (.ref 130), some (.int v1), some (.int (v2 + (nI 1)))] [] h1) ∧ (¬ x2 = 0 → At m_X12_highestFormat Q 9 0 [some (.ref 130), some (.int v2), some (.int (v2 + (nI 1)))] [] h1)))))))))) :
    At m_X12_highestFormat Q 9 0 [some (.ref 130), some (.int v1), some (.int v2)] [] h := by
  exact vg_ok k_X12_highestFormat (stops := [9]) 77 9 0 _ _ h T
set_option maxRecDepth 100000 in
set_option maxHeartbeats 4000000 in
theorem t_X12_wayBack {h : PH} {Q : Res → PH → Prop}
    (T : MetPM m_X12_extreme [.ref 130, .int (nI 1)] (si h 130 0 (nI 0)) (rI (hnd Q (At m_X12_wayBack Q) 0 [some (.ref 130), none] []) (fun x2 h1 => At m_X12_wayBack Q 11 0 [some (.ref 130), some (.int x2)] [] h1))) :
    MetPM m_X12_wayBack [.ref 130] h Q := by
  exact met_of o_X12_wayBack (Nat.le_of_ble_eq_true rfl) (fun q => absurd rfl q) (vg_ok k_X12_wayBack (stops := [11]) 80 0 0 _ [] h T)
set_option maxRecDepth 100000 in
set_option maxHeartbeats 4000000 in
theorem u_X12_wayBack_11 {v1 : Int32} {h : PH} {Q : Res → PH → Prop}
    (T : ((v1 ≤ 0 → Q (.inl (some (.int v1))) h) ∧ (¬ v1 ≤ 0 → (vp_in (nI 5) 253 ∧ MetPM m_X12_reads [.ref 130, .int (v1 - (nI 1)), .int (gi h 132 (nI 5).toNatClampNeg)] h (rI (hnd Q (At m_X12_wayBack Q) 0 [some (.ref 130), some (.int v1)] []) (fun x2 h1 => ((x2 = 0 → Q (.inl (some (.int v1))) h1) ∧ (¬ x2 = 0 → MetPM m_X12_talk [.ref 130, .int (v1 - (nI 1)), .int v1] h1 (rI (hnd Q (At m_X12_wayBack Q) 0 [some (.ref 130), some (.int v1)] []) (fun x4 h3 => ((x4 = 0 → Q (.inl (some (.int v1))) h3) ∧ (¬ x4 = 0 → At m_X12_wayBack Q 11 0 [some (.ref 130), some (.int (v1 + (-(nI 1))))] [] h3)))))))))))) :
    At m_X12_wayBack Q 11 0 [some (.ref 130), some (.int v1)] [] h := by
  exact vg_ok k_X12_wayBack (stops := [11]) 80 11 0 _ _ h T
set_option maxRecDepth 100000 in
set_option maxHeartbeats 4000000 in
theorem t_X12_thinks {h : PH} {Q : Res → PH → Prop}
    (T : At m_X12_thinks Q 2 0 [some (.ref 130), some (.int (nI 0))] [] h) :
    MetPM m_X12_thinks [.ref 130] h Q := by
  exact met_of o_X12_thinks (Nat.le_of_ble_eq_true rfl) (fun q => absurd rfl q) (vg_ok k_X12_thinks (stops := [2]) 66 0 0 _ [] h T)
set_option maxRecDepth 100000 in
set_option maxHeartbeats 4000000 in
theorem u_X12_thinks_2 {v1 : Int32} {h : PH} {Q : Res → PH → Prop}
    (T : (((nI 253) ≤ v1 → Q (.inl none) h) ∧ (¬ (nI 253) ≤ v1 → (vp_in v1 253 ∧ (vp_in v1 253 ∧ At m_X12_thinks Q 2 0 [some (.ref 130), some (.int (v1 + (nI 1)))] [] (si h 136 v1.toNatClampNeg (gi h 132 v1.toNatClampNeg))))))) :
    At m_X12_thinks Q 2 0 [some (.ref 130), some (.int v1)] [] h := by
  exact vg_ok k_X12_thinks (stops := [2]) 66 2 0 _ _ h T
set_option maxRecDepth 100000 in
set_option maxHeartbeats 4000000 in
theorem t_X12_toEnd {p0 : Int32} {h : PH} {Q : Res → PH → Prop}
    (T : At m_X12_toEnd Q 2 0 [some (.ref 130), some (.int p0), some (.int (nI 0))] [] h) :
    MetPM m_X12_toEnd [.ref 130, .int p0] h Q := by
  exact met_of o_X12_toEnd (Nat.le_of_ble_eq_true rfl) (fun q => absurd rfl q) (vg_ok k_X12_toEnd (stops := [2]) 75 0 0 _ [] h T)
set_option maxRecDepth 100000 in
set_option maxHeartbeats 4000000 in
theorem u_X12_toEnd_2 {v1 : Int32} {v2 : Int32} {h : PH} {Q : Res → PH → Prop}
    (T : ((v1 ≤ v2 → (vp_in (nI 12) 253 ∧ ((¬ (gi h 132 (nI 12).toNatClampNeg) = (nI 4) → Q (.inl (some (.int (-(nI 1))))) h) ∧ ((gi h 132 (nI 12).toNatClampNeg) = (nI 4) → Q (.inl (some (.int v2))) h)))) ∧ (¬ v1 ≤ v2 → (vp_in (nI 12) 253 ∧ (((gi h 132 (nI 12).toNatClampNeg) = (nI 4) → (vp_in (nI 12) 253 ∧ ((¬ (gi h 132 (nI 12).toNatClampNeg) = (nI 4) → Q (.inl (some (.int (-(nI 1))))) h) ∧ ((gi h 132 (nI 12).toNatClampNeg) = (nI 4) → Q (.inl (some (.int v2))) h)))) ∧ (¬ (gi h 132 (nI 12).toNatClampNeg) = (nI 4) → MetPM m_X12_minute [.ref 130] h (rV (hnd Q (At m_X12_toEnd Q) 0 [some (.ref 130), some (.int v1), some (.int v2)] []) (fun h1 => At m_X12_toEnd Q 2 0 [some (.ref 130), some (.int v1), some (.int (v2 + (nI 1)))] [] h1)))))))) :
    At m_X12_toEnd Q 2 0 [some (.ref 130), some (.int v1), some (.int v2)] [] h := by
  exact vg_ok k_X12_toEnd (stops := [2]) 75 2 0 _ _ h T
set_option maxRecDepth 100000 in
set_option maxHeartbeats 4000000 in
theorem t_X12_thinksNoMore {h : PH} {Q : Res → PH → Prop}
    (T : At m_X12_thinksNoMore Q 2 0 [some (.ref 130), some (.int (nI 0))] [] h) :
    MetPM m_X12_thinksNoMore [.ref 130] h Q := by
  exact met_of o_X12_thinksNoMore (Nat.le_of_ble_eq_true rfl) (fun q => absurd rfl q) (vg_ok k_X12_thinksNoMore (stops := [2]) 66 0 0 _ [] h T)
set_option maxRecDepth 100000 in
set_option maxHeartbeats 4000000 in
theorem u_X12_thinksNoMore_2 {v1 : Int32} {h : PH} {Q : Res → PH → Prop}
    (T : (((nI 253) ≤ v1 → Q (.inl none) h) ∧ (¬ (nI 253) ≤ v1 → (vp_in v1 253 ∧ (vp_in v1 253 ∧ At m_X12_thinksNoMore Q 2 0 [some (.ref 130), some (.int (v1 + (nI 1)))] [] (si h 132 v1.toNatClampNeg (gi h 136 v1.toNatClampNeg))))))) :
    At m_X12_thinksNoMore Q 2 0 [some (.ref 130), some (.int v1)] [] h := by
  exact vg_ok k_X12_thinksNoMore (stops := [2]) 66 2 0 _ _ h T
set_option maxRecDepth 100000 in
set_option maxHeartbeats 4000000 in
theorem t_X12_minutesToEnd {p0 : Int32} {h : PH} {Q : Res → PH → Prop}
    (T : MetPM m_X12_isIn [.long (p0.toInt64), .long (lN 0), .long (lN 2000)] h (rI (hnd Q (At m_X12_minutesToEnd Q) 0 [some (.ref 130), some (.int p0), none] []) (fun x2 h1 => MetPM m_X12_goes [.ref 130, .int x2] h1 (rI (hnd Q (At m_X12_minutesToEnd Q) 0 [some (.ref 130), some (.int p0), none] []) (fun x4 h3 => ((¬ x4 = 0 → MetPM m_X12_thinks [.ref 130] h3 (rV (hnd Q (At m_X12_minutesToEnd Q) 0 [some (.ref 130), some (.int p0), none] []) (fun h5 => MetPM m_X12_toEnd [.ref 130, .int p0] h5 (rI (hnd Q (At m_X12_minutesToEnd Q) 0 [some (.ref 130), some (.int p0), none] []) (fun x7 h6 => MetPM m_X12_thinksNoMore [.ref 130] h6 (rV (hnd Q (At m_X12_minutesToEnd Q) 0 [some (.ref 130), some (.int p0), some (.int x7)] []) (fun h8 => Q (.inl (some (.int x7))) h8))))))) ∧ (x4 = 0 → Q (.inl (some (.int (nI 0)))) h3))))))) :
    MetPM m_X12_minutesToEnd [.ref 130, .int p0] h Q := by
  exact met_of o_X12_minutesToEnd (Nat.le_of_ble_eq_true rfl) (fun q => absurd rfl q) (vg_ok k_X12_minutesToEnd (stops := []) 70 0 0 _ [] h T)
set_option maxRecDepth 100000 in
set_option maxHeartbeats 4000000 in
theorem t_X12_ifFree {p0 : Int32} {h : PH} {Q : Res → PH → Prop}
    (T : MetPM m_X12_thinks [.ref 130] h (rV (hnd Q (At m_X12_ifFree Q) 0 [some (.ref 130), some (.int p0), none] []) (fun h1 => MetPM m_X12_lays [.ref 130, .int p0, .int (nI 5), .int (nI 0)] h1 (rV (hnd Q (At m_X12_ifFree Q) 0 [some (.ref 130), some (.int p0), none] []) (fun h2 => MetPM m_X12_toEnd [.ref 130, .int (nI 2000)] h2 (rI (hnd Q (At m_X12_ifFree Q) 0 [some (.ref 130), some (.int p0), none] []) (fun x4 h3 => MetPM m_X12_thinksNoMore [.ref 130] h3 (rV (hnd Q (At m_X12_ifFree Q) 0 [some (.ref 130), some (.int p0), some (.int x4)] []) (fun h5 => Q (.inl (some (.int x4))) h5))))))))) :
    MetPM m_X12_ifFree [.ref 130, .int p0] h Q := by
  exact met_of o_X12_ifFree (Nat.le_of_ble_eq_true rfl) (fun q => absurd rfl q) (vg_ok k_X12_ifFree (stops := []) 65 0 0 _ [] h T)
set_option maxRecDepth 100000 in
set_option maxHeartbeats 4000000 in
theorem t_X12_minutesIfFree {p0 : Int32} {h : PH} {Q : Res → PH → Prop}
    (T : MetPM m_X12_isMember [.ref 130, .int p0] h (rI (hnd Q (At m_X12_minutesIfFree Q) 0 [some (.ref 130), some (.int p0)] []) (fun x2 h1 => MetPM m_X12_goes [.ref 130, .int x2] h1 (rI (hnd Q (At m_X12_minutesIfFree Q) 0 [some (.ref 130), some (.int p0)] []) (fun x4 h3 => ((x4 = 0 → Q (.inl (some (.int (nI 0)))) h3) ∧ (¬ x4 = 0 → MetPM m_X12_ifFree [.ref 130, .int p0] h3 (rI (hnd Q (At m_X12_minutesIfFree Q) 0 [some (.ref 130), some (.int p0)] []) (fun x6 h5 => Q (.inl (some (.int x6))) h5))))))))) :
    MetPM m_X12_minutesIfFree [.ref 130, .int p0] h Q := by
  exact met_of o_X12_minutesIfFree (Nat.le_of_ble_eq_true rfl) (fun q => absurd rfl q) (vg_ok k_X12_minutesIfFree (stops := []) 62 0 0 _ [] h T)
set_option maxRecDepth 100000 in
set_option maxHeartbeats 4000000 in
theorem t_X12_bestToFree {h : PH} {Q : Res → PH → Prop}
    (T : At m_X12_bestToFree Q 11 0 [some (.ref 130), some (.int (-(nI 1))), some (.int (nI 0)), some (.int (nI 0)), none] [] (si h 130 0 (nI 0))) :
    MetPM m_X12_bestToFree [.ref 130] h Q := by
  exact met_of o_X12_bestToFree (Nat.le_of_ble_eq_true rfl) (fun q => absurd rfl q) (vg_ok k_X12_bestToFree (stops := [11, 62, 67]) 95 0 0 _ [] h T)
set_option maxRecDepth 100000 in
set_option maxHeartbeats 4000000 in
theorem u_X12_bestToFree_11 {v1 : Int32} {v2 : Int32} {v3 : Int32} {o4 : Option Value} {h : PH} {Q : Res → PH → Prop}
    (T : (vp_in (nI 2) 253 ∧ (((gi h 132 (nI 2).toNatClampNeg) ≤ v3 → Q (.inl (some (.int v1))) h) ∧ (¬ (gi h 132 (nI 2).toNatClampNeg) ≤ v3 → MetPM m_X12_of [.ref 130, .int v3, .int (nI 5)] h (rI (hnd Q (At m_X12_bestToFree Q) 0 [some (.ref 130), some (.int v1), some (.int v2), some (.int v3), o4] []) (fun x2 h1 => ((¬ x2 = (nI 1) → (((-(nI 1)) = (-(nI 1)) → At m_X12_bestToFree Q 67 0 [some (.ref 130), some (.int v1), some (.int v2), some (.int v3), some (.int (-(nI 1)))] [] h1) ∧ (¬ (-(nI 1)) = (-(nI 1)) → ((v1 = (-(nI 1)) → At m_X12_bestToFree Q 62 0 [some (.ref 130), some (.int v1), some (.int v2), some (.int v3), some (.int (-(nI 1)))] [] h1) ∧ (¬ v1 = (-(nI 1)) → (((-(nI 1)) < v2 → At m_X12_bestToFree Q 62 0 [some (.ref 130), some (.int v1), some (.int v2), some (.int v3), some (.int (-(nI 1)))] [] h1) ∧ (¬ (-(nI 1)) < v2 → At m_X12_bestToFree Q 67 0 [some (.ref 130), some (.int v1), some (.int v2), some (.int v3), some (.int (-(nI 1)))] [] h1))))))) ∧ (x2 = (nI 1) → MetPM m_X12_ifFree [.ref 130, .int v3] h1 (rI (hnd Q (At m_X12_bestToFree Q) 0 [some (.ref 130), some (.int v1), some (.int v2), some (.int v3), o4] []) (fun x4 h3 => ((x4 = (-(nI 1)) → At m_X12_bestToFree Q 67 0 [some (.ref 130), some (.int v1), some (.int v2), some (.int v3), some (.int x4)] [] h3) ∧ (¬ x4 = (-(nI 1)) → ((v1 = (-(nI 1)) → At m_X12_bestToFree Q 62 0 [some (.ref 130), some (.int v1), some (.int v2), some (.int v3), some (.int x4)] [] h3) ∧ (¬ v1 = (-(nI 1)) → ((x4 < v2 → At m_X12_bestToFree Q 62 0 [some (.ref 130), some (.int v1), some (.int v2), some (.int v3), some (.int x4)] [] h3) ∧ (¬ x4 < v2 → At m_X12_bestToFree Q 67 0 [some (.ref 130), some (.int v1), some (.int v2), some (.int v3), some (.int x4)] [] h3)))))))))))))))) :
    At m_X12_bestToFree Q 11 0 [some (.ref 130), some (.int v1), some (.int v2), some (.int v3), o4] [] h := by
  exact vg_ok k_X12_bestToFree (stops := [11, 62, 67]) 95 11 0 _ _ h T
set_option maxRecDepth 100000 in
set_option maxHeartbeats 4000000 in
theorem u_X12_bestToFree_62 {v1 : Int32} {v2 : Int32} {v3 : Int32} {v4 : Int32} {h : PH} {Q : Res → PH → Prop}
    (T : At m_X12_bestToFree Q 67 0 [some (.ref 130), some (.int v3), some (.int v4), some (.int v3), some (.int v4)] [] h) :
    At m_X12_bestToFree Q 62 0 [some (.ref 130), some (.int v1), some (.int v2), some (.int v3), some (.int v4)] [] h := by
  exact vg_ok k_X12_bestToFree (stops := [11, 62, 67]) 95 62 0 _ _ h T
set_option maxRecDepth 100000 in
set_option maxHeartbeats 4000000 in
theorem u_X12_bestToFree_67 {v1 : Int32} {v2 : Int32} {v3 : Int32} {v4 : Int32} {h : PH} {Q : Res → PH → Prop}
    (T : At m_X12_bestToFree Q 11 0 [some (.ref 130), some (.int v1), some (.int v2), some (.int (v3 + (nI 1))), some (.int v4)] [] h) :
    At m_X12_bestToFree Q 67 0 [some (.ref 130), some (.int v1), some (.int v2), some (.int v3), some (.int v4)] [] h := by
  exact vg_ok k_X12_bestToFree (stops := [11, 62, 67]) 95 67 0 _ _ h T
set_option maxRecDepth 100000 in
set_option maxHeartbeats 4000000 in
theorem t_X12_changesIn {p0 : Int32} {h : PH} {Q : Res → PH → Prop}
    (T : MetPM m_X12_isIn [.long (p0.toInt64), .long (lN 0), .long (lN 2000)] h (rI (hnd Q (At m_X12_changesIn Q) 0 [some (.ref 130), some (.int p0), none, none] []) (fun x2 h1 => MetPM m_X12_goes [.ref 130, .int x2] h1 (rI (hnd Q (At m_X12_changesIn Q) 0 [some (.ref 130), some (.int p0), none, none] []) (fun x4 h3 => ((¬ x4 = 0 → MetPM m_X12_thinks [.ref 130] h3 (rV (hnd Q (At m_X12_changesIn Q) 0 [some (.ref 130), some (.int p0), none, none] []) (fun h5 => At m_X12_changesIn Q 29 0 [some (.ref 130), some (.int p0), some (.int (gi h5 130 27)), some (.int (nI 0))] [] h5))) ∧ (x4 = 0 → Q (.inl (some (.int (nI 0)))) h3))))))) :
    MetPM m_X12_changesIn [.ref 130, .int p0] h Q := by
  exact met_of o_X12_changesIn (Nat.le_of_ble_eq_true rfl) (fun q => absurd rfl q) (vg_ok k_X12_changesIn (stops := [29]) 81 0 0 _ [] h T)
set_option maxRecDepth 100000 in
set_option maxHeartbeats 4000000 in
theorem u_X12_changesIn_29 {v1 : Int32} {v2 : Int32} {v3 : Int32} {h : PH} {Q : Res → PH → Prop}
    (T : ((v1 ≤ v3 → MetPM m_X12_thinksNoMore [.ref 130] h (rV (hnd Q (At m_X12_changesIn Q) 0 [some (.ref 130), some (.int v1), some (.int v2), some (.int v3)] []) (fun h1 => Q (.inl (some (.int ((gi h1 130 27) - v2)))) h1))) ∧ (¬ v1 ≤ v3 → MetPM m_X12_minute [.ref 130] h (rV (hnd Q (At m_X12_changesIn Q) 0 [some (.ref 130), some (.int v1), some (.int v2), some (.int v3)] []) (fun h2 => At m_X12_changesIn Q 29 0 [some (.ref 130), some (.int v1), some (.int v2), some (.int (v3 + (nI 1)))] [] h2))))) :
    At m_X12_changesIn Q 29 0 [some (.ref 130), some (.int v1), some (.int v2), some (.int v3)] [] h := by
  exact vg_ok k_X12_changesIn (stops := [29]) 81 29 0 _ _ h T
set_option maxRecDepth 100000 in
set_option maxHeartbeats 4000000 in
theorem t_X12_wouldStop {p0 : Int32} {p1 : Int32} {h : PH} {Q : Res → PH → Prop}
    (T : MetPM m_X12_isMember [.ref 130, .int p0] h (rI (hnd Q (At m_X12_wouldStop Q) 0 [some (.ref 130), some (.int p0), some (.int p1), none, none] []) (fun x2 h1 => MetPM m_X12_isIn [.long (p1.toInt64), .long (lN 0), .long (lN 999)] h1 (rI (hnd Q (At m_X12_wouldStop Q) 0 [some (.ref 130), some (.int p0), some (.int p1), none, none] []) (fun x4 h3 => MetPM m_X12_goesBoth [.ref 130, .int x2, .int x4] h3 (rI (hnd Q (At m_X12_wouldStop Q) 0 [some (.ref 130), some (.int p0), some (.int p1), none, none] []) (fun x6 h5 => ((¬ x6 = 0 → MetPM m_X12_thinks [.ref 130] h5 (rV (hnd Q (At m_X12_wouldStop Q) 0 [some (.ref 130), some (.int p0), some (.int p1), none, none] []) (fun h7 => MetPM m_X12_isGoing [.ref 130] h7 (rI (hnd Q (At m_X12_wouldStop Q) 0 [some (.ref 130), some (.int p0), some (.int p1), none, none] []) (fun x9 h8 => MetPM m_X12_lays [.ref 130, .int p0, .int (nI 4), .int p1] h8 (rV (hnd Q (At m_X12_wouldStop Q) 0 [some (.ref 130), some (.int p0), some (.int p1), some (.int x9), none] []) (fun h10 => MetPM m_X12_minute [.ref 130] h10 (rV (hnd Q (At m_X12_wouldStop Q) 0 [some (.ref 130), some (.int p0), some (.int p1), some (.int x9), none] []) (fun h11 => ((x9 = 0 → MetPM m_X12_thinksNoMore [.ref 130] h11 (rV (hnd Q (At m_X12_wouldStop Q) 0 [some (.ref 130), some (.int p0), some (.int p1), some (.int x9), some (.int (nI 0))] []) (fun h12 => (isB (nI 0) ∧ Q (.inl (some (.int (nI 0)))) h12)))) ∧ (¬ x9 = 0 → (vp_in (nI 12) 253 ∧ ((¬ (gi h11 132 (nI 12).toNatClampNeg) = (nI 3) → MetPM m_X12_thinksNoMore [.ref 130] h11 (rV (hnd Q (At m_X12_wouldStop Q) 0 [some (.ref 130), some (.int p0), some (.int p1), some (.int x9), some (.int (nI 0))] []) (fun h13 => (isB (nI 0) ∧ Q (.inl (some (.int (nI 0)))) h13)))) ∧ ((gi h11 132 (nI 12).toNatClampNeg) = (nI 3) → MetPM m_X12_thinksNoMore [.ref 130] h11 (rV (hnd Q (At m_X12_wouldStop Q) 0 [some (.ref 130), some (.int p0), some (.int p1), some (.int x9), some (.int (nI 1))] []) (fun h14 => (isB (nI 1) ∧ Q (.inl (some (.int (nI 1)))) h14))))))))))))))))) ∧ (x6 = 0 → (isB (nI 0) ∧ Q (.inl (some (.int (nI 0)))) h5)))))))))) :
    MetPM m_X12_wouldStop [.ref 130, .int p0, .int p1] h Q := by
  exact met_of o_X12_wouldStop (Nat.le_of_ble_eq_true rfl) (fun q => absurd rfl q) (vg_ok k_X12_wouldStop (stops := []) 91 0 0 _ [] h T)
set_option maxRecDepth 100000 in
set_option maxHeartbeats 4000000 in
theorem t_X12_keptEvents {h : PH} {Q : Res → PH → Prop}
    (T : (vp_in (nI 19) 253 ∧ (((nI 30) ≤ (gi h 132 (nI 19).toNatClampNeg) → Q (.inl (some (.int (nI 30)))) h) ∧ (¬ (nI 30) ≤ (gi h 132 (nI 19).toNatClampNeg) → (vp_in (nI 19) 253 ∧ Q (.inl (some (.int (gi h 132 (nI 19).toNatClampNeg)))) h))))) :
    MetPM m_X12_keptEvents [.ref 130] h Q := by
  exact met_of o_X12_keptEvents (Nat.le_of_ble_eq_true rfl) (fun q => absurd rfl q) (vg_ok k_X12_keptEvents (stops := []) 63 0 0 _ [] h T)
set_option maxRecDepth 100000 in
set_option maxHeartbeats 4000000 in
theorem t_X12_events {h : PH} {Q : Res → PH → Prop}
    (T : MetPM m_X12_keptEvents [.ref 130] (si h 130 0 (nI 0)) (rI (hnd Q (At m_X12_events Q) 0 [some (.ref 130)] []) (fun x2 h1 => Q (.inl (some (.int x2))) h1))) :
    MetPM m_X12_events [.ref 130] h Q := by
  exact met_of o_X12_events (Nat.le_of_ble_eq_true rfl) (fun q => absurd rfl q) (vg_ok k_X12_events (stops := []) 56 0 0 _ [] h T)
set_option maxRecDepth 100000 in
set_option maxHeartbeats 4000000 in
theorem t_X12_event {p0 : Int32} {p1 : Int32} {h : PH} {Q : Res → PH → Prop}
    (T : MetPM m_X12_keptEvents [.ref 130] h (rI (hnd Q (At m_X12_event Q) 0 [some (.ref 130), some (.int p0), some (.int p1)] []) (fun x2 h1 => MetPM m_X12_isIn [.long (p0.toInt64), .long (lN 0), .long ((x2 - (nI 1)).toInt64)] h1 (rI (hnd Q (At m_X12_event Q) 0 [some (.ref 130), some (.int p0), some (.int p1)] []) (fun x4 h3 => MetPM m_X12_isIn [.long (p1.toInt64), .long (lN 0), .long (lN 3)] h3 (rI (hnd Q (At m_X12_event Q) 0 [some (.ref 130), some (.int p0), some (.int p1)] []) (fun x6 h5 => MetPM m_X12_goesBoth [.ref 130, .int x4, .int x6] h5 (rI (hnd Q (At m_X12_event Q) 0 [some (.ref 130), some (.int p0), some (.int p1)] []) (fun x8 h7 => ((x8 = 0 → Q (.inl (some (.int (nI 0)))) h7) ∧ (¬ x8 = 0 → (vp_in (nI 19) 253 ∧ ((¬ (nI 30) = 0) ∧ (let y9 : Int32 := (((gi h7 132 (nI 19).toNatClampNeg) - (nI 1)) - p0); (vp_in (((nI 133) + ((nI 4) * (y9 - y9 / (nI 30) * (nI 30)))) + p1) 253 ∧ Q (.inl (some (.int (gi h7 132 (((nI 133) + ((nI 4) * (y9 - y9 / (nI 30) * (nI 30)))) + p1).toNatClampNeg)))) h7))))))))))))))) :
    MetPM m_X12_event [.ref 130, .int p0, .int p1] h Q := by
  exact met_of o_X12_event (Nat.le_of_ble_eq_true rfl) (fun q => absurd rfl q) (vg_ok k_X12_event (stops := []) 89 0 0 _ [] h T)
set_option maxRecDepth 100000 in
set_option maxHeartbeats 4000000 in
theorem t_X12_kept {p0 : Int32} {h : PH} {Q : Res → PH → Prop}
    (T : MetPM m_X12_keeps [.ref 130] h (rV (hnd Q (At m_X12_kept Q) 0 [some (.ref 130), some (.int p0)] []) (fun h1 => Q (.inl (some (.int p0))) h1))) :
    MetPM m_X12_kept [.ref 130, .int p0] h Q := by
  exact met_of o_X12_kept (Nat.le_of_ble_eq_true rfl) (fun q => absurd rfl q) (vg_ok k_X12_kept (stops := []) 54 0 0 _ [] h T)
set_option maxRecDepth 100000 in
set_option maxHeartbeats 4000000 in
theorem t_X12_pass {p0 : Int32} {h : PH} {Q : Res → PH → Prop}
    (T : MetPM m_X12_mayPass [.ref 130, .int p0] h (rI (hnd Q (At m_X12_pass Q) 0 [some (.ref 130), some (.int p0)] []) (fun x2 h1 => MetPM m_X12_goes [.ref 130, .int x2] h1 (rI (hnd Q (At m_X12_pass Q) 0 [some (.ref 130), some (.int p0)] []) (fun x4 h3 => ((¬ x4 = 0 → MetPM m_X12_laysAside [.ref 130] h3 (rV (hnd Q (At m_X12_pass Q) 0 [some (.ref 130), some (.int p0)] []) (fun h5 => MetPM m_X12_passes [.ref 130, .int p0] h5 (rI (hnd Q (At m_X12_pass Q) 0 [some (.ref 130), some (.int p0)] []) (fun x7 h6 => MetPM m_X12_kept [.ref 130, .int x7] h6 (rI (hnd Q (At m_X12_pass Q) 0 [some (.ref 130), some (.int p0)] []) (fun x9 h8 => Q (.inl (some (.int x9))) h8))))))) ∧ (x4 = 0 → Q (.inl (some (.int (nI 0)))) h3))))))) :
    MetPM m_X12_pass [.ref 130, .int p0] h Q := by
  exact met_of o_X12_pass (Nat.le_of_ble_eq_true rfl) (fun q => absurd rfl q) (vg_ok k_X12_pass (stops := []) 66 0 0 _ [] h T)
set_option maxRecDepth 100000 in
set_option maxHeartbeats 4000000 in
theorem t_X12_start {p0 : Int32} {h : PH} {Q : Res → PH → Prop}
    (T : MetPM m_X12_isVersion [.ref 130, .int p0] h (rI (hnd Q (At m_X12_start Q) 0 [some (.ref 130), some (.int p0)] []) (fun x2 h1 => MetPM m_X12_mayStart [.ref 130] h1 (rI (hnd Q (At m_X12_start Q) 0 [some (.ref 130), some (.int p0)] []) (fun x4 h3 => MetPM m_X12_goesBoth [.ref 130, .int x2, .int x4] h3 (rI (hnd Q (At m_X12_start Q) 0 [some (.ref 130), some (.int p0)] []) (fun x6 h5 => ((¬ x6 = 0 → MetPM m_X12_laysAside [.ref 130] h5 (rV (hnd Q (At m_X12_start Q) 0 [some (.ref 130), some (.int p0)] []) (fun h7 => MetPM m_X12_starts [.ref 130, .int p0] h7 (rI (hnd Q (At m_X12_start Q) 0 [some (.ref 130), some (.int p0)] []) (fun x9 h8 => MetPM m_X12_kept [.ref 130, .int x9] h8 (rI (hnd Q (At m_X12_start Q) 0 [some (.ref 130), some (.int p0)] []) (fun x11 h10 => Q (.inl (some (.int x11))) h10))))))) ∧ (x6 = 0 → Q (.inl (some (.int (nI 0)))) h5))))))))) :
    MetPM m_X12_start [.ref 130, .int p0] h Q := by
  exact met_of o_X12_start (Nat.le_of_ble_eq_true rfl) (fun q => absurd rfl q) (vg_ok k_X12_start (stops := []) 68 0 0 _ [] h T)
set_option maxRecDepth 100000 in
set_option maxHeartbeats 4000000 in
theorem t_X12_stop {h : PH} {Q : Res → PH → Prop}
    (T : MetPM m_X12_isGoing [.ref 130] h (rI (hnd Q (At m_X12_stop Q) 0 [some (.ref 130)] []) (fun x2 h1 => MetPM m_X12_goes [.ref 130, .int x2] h1 (rI (hnd Q (At m_X12_stop Q) 0 [some (.ref 130)] []) (fun x4 h3 => ((¬ x4 = 0 → MetPM m_X12_laysAside [.ref 130] h3 (rV (hnd Q (At m_X12_stop Q) 0 [some (.ref 130)] []) (fun h5 => MetPM m_X12_stops [.ref 130] h5 (rV (hnd Q (At m_X12_stop Q) 0 [some (.ref 130)] []) (fun h6 => (vp_in (nI 15) 253 ∧ MetPM m_X12_kept [.ref 130, .int (gi h6 132 (nI 15).toNatClampNeg)] h6 (rI (hnd Q (At m_X12_stop Q) 0 [some (.ref 130)] []) (fun x8 h7 => Q (.inl (some (.int x8))) h7)))))))) ∧ (x4 = 0 → Q (.inl (some (.int (nI 0)))) h3))))))) :
    MetPM m_X12_stop [.ref 130] h Q := by
  exact met_of o_X12_stop (Nat.le_of_ble_eq_true rfl) (fun q => absurd rfl q) (vg_ok k_X12_stop (stops := []) 68 0 0 _ [] h T)
set_option maxRecDepth 100000 in
set_option maxHeartbeats 4000000 in
theorem t_X12_go {h : PH} {Q : Res → PH → Prop}
    (T : (vp_in (nI 12) 253 ∧ ((¬ (gi h 132 (nI 12).toNatClampNeg) = (nI 3) → MetPM m_X12_goes [.ref 130, .int (nI 0)] h (rI (hnd Q (At m_X12_go Q) 0 [some (.ref 130)] []) (fun x2 h1 => ((¬ x2 = 0 → MetPM m_X12_laysAside [.ref 130] h1 (rV (hnd Q (At m_X12_go Q) 0 [some (.ref 130)] []) (fun h3 => MetPM m_X12_goesOn [.ref 130] h3 (rI (hnd Q (At m_X12_go Q) 0 [some (.ref 130)] []) (fun x5 h4 => MetPM m_X12_kept [.ref 130, .int x5] h4 (rI (hnd Q (At m_X12_go Q) 0 [some (.ref 130)] []) (fun x7 h6 => Q (.inl (some (.int x7))) h6))))))) ∧ (x2 = 0 → Q (.inl (some (.int (nI 0)))) h1))))) ∧ ((gi h 132 (nI 12).toNatClampNeg) = (nI 3) → MetPM m_X12_goes [.ref 130, .int (nI 1)] h (rI (hnd Q (At m_X12_go Q) 0 [some (.ref 130)] []) (fun x9 h8 => ((¬ x9 = 0 → MetPM m_X12_laysAside [.ref 130] h8 (rV (hnd Q (At m_X12_go Q) 0 [some (.ref 130)] []) (fun h10 => MetPM m_X12_goesOn [.ref 130] h10 (rI (hnd Q (At m_X12_go Q) 0 [some (.ref 130)] []) (fun x12 h11 => MetPM m_X12_kept [.ref 130, .int x12] h11 (rI (hnd Q (At m_X12_go Q) 0 [some (.ref 130)] []) (fun x14 h13 => Q (.inl (some (.int x14))) h13))))))) ∧ (x9 = 0 → Q (.inl (some (.int (nI 0)))) h8)))))))) :
    MetPM m_X12_go [.ref 130] h Q := by
  exact met_of o_X12_go (Nat.le_of_ble_eq_true rfl) (fun q => absurd rfl q) (vg_ok k_X12_go (stops := []) 71 0 0 _ [] h T)
set_option maxRecDepth 100000 in
set_option maxHeartbeats 4000000 in
theorem t_X12_hold {p0 : Int32} {p1 : Int32} {h : PH} {Q : Res → PH → Prop}
    (T : MetPM m_X12_isMember [.ref 130, .int p0] h (rI (hnd Q (At m_X12_hold Q) 0 [some (.ref 130), some (.int p0), some (.int p1), none] []) (fun x2 h1 => ((x2 = 0 → MetPM m_X12_goesBoth [.ref 130, .int x2, .int (nI 0)] h1 (rI (hnd Q (At m_X12_hold Q) 0 [some (.ref 130), some (.int p0), some (.int p1), some (.int x2)] []) (fun x4 h3 => ((¬ x4 = 0 → MetPM m_X12_laysAside [.ref 130] h3 (rV (hnd Q (At m_X12_hold Q) 0 [some (.ref 130), some (.int p0), some (.int p1), some (.int x2)] []) (fun h5 => MetPM m_X12_holds [.ref 130, .int p0, .int p1] h5 (rI (hnd Q (At m_X12_hold Q) 0 [some (.ref 130), some (.int p0), some (.int p1), some (.int x2)] []) (fun x7 h6 => MetPM m_X12_kept [.ref 130, .int x7] h6 (rI (hnd Q (At m_X12_hold Q) 0 [some (.ref 130), some (.int p0), some (.int p1), some (.int x2)] []) (fun x9 h8 => Q (.inl (some (.int x9))) h8))))))) ∧ (x4 = 0 → Q (.inl (some (.int (nI 0)))) h3))))) ∧ (¬ x2 = 0 → MetPM m_X12_of [.ref 130, .int p0, .int (nI 5)] h1 (rI (hnd Q (At m_X12_hold Q) 0 [some (.ref 130), some (.int p0), some (.int p1), some (.int x2)] []) (fun x11 h10 => MetPM m_X12_truth [.int p1] h10 (rI (hnd Q (At m_X12_hold Q) 0 [some (.ref 130), some (.int p0), some (.int p1), some (.int x2)] []) (fun x13 h12 => ((x11 = x13 → MetPM m_X12_goesBoth [.ref 130, .int x2, .int (nI 0)] h12 (rI (hnd Q (At m_X12_hold Q) 0 [some (.ref 130), some (.int p0), some (.int p1), some (.int x2)] []) (fun x15 h14 => ((¬ x15 = 0 → MetPM m_X12_laysAside [.ref 130] h14 (rV (hnd Q (At m_X12_hold Q) 0 [some (.ref 130), some (.int p0), some (.int p1), some (.int x2)] []) (fun h16 => MetPM m_X12_holds [.ref 130, .int p0, .int p1] h16 (rI (hnd Q (At m_X12_hold Q) 0 [some (.ref 130), some (.int p0), some (.int p1), some (.int x2)] []) (fun x18 h17 => MetPM m_X12_kept [.ref 130, .int x18] h17 (rI (hnd Q (At m_X12_hold Q) 0 [some (.ref 130), some (.int p0), some (.int p1), some (.int x2)] []) (fun x20 h19 => Q (.inl (some (.int x20))) h19))))))) ∧ (x15 = 0 → Q (.inl (some (.int (nI 0)))) h14))))) ∧ (¬ x11 = x13 → MetPM m_X12_goesBoth [.ref 130, .int x2, .int (nI 1)] h12 (rI (hnd Q (At m_X12_hold Q) 0 [some (.ref 130), some (.int p0), some (.int p1), some (.int x2)] []) (fun x22 h21 => ((¬ x22 = 0 → MetPM m_X12_laysAside [.ref 130] h21 (rV (hnd Q (At m_X12_hold Q) 0 [some (.ref 130), some (.int p0), some (.int p1), some (.int x2)] []) (fun h23 => MetPM m_X12_holds [.ref 130, .int p0, .int p1] h23 (rI (hnd Q (At m_X12_hold Q) 0 [some (.ref 130), some (.int p0), some (.int p1), some (.int x2)] []) (fun x25 h24 => MetPM m_X12_kept [.ref 130, .int x25] h24 (rI (hnd Q (At m_X12_hold Q) 0 [some (.ref 130), some (.int p0), some (.int p1), some (.int x2)] []) (fun x27 h26 => Q (.inl (some (.int x27))) h26))))))) ∧ (x22 = 0 → Q (.inl (some (.int (nI 0)))) h21))))))))))))))) :
    MetPM m_X12_hold [.ref 130, .int p0, .int p1] h Q := by
  exact met_of o_X12_hold (Nat.le_of_ble_eq_true rfl) (fun q => absurd rfl q) (vg_ok k_X12_hold (stops := []) 81 0 0 _ [] h T)
set_option maxRecDepth 100000 in
set_option maxHeartbeats 4000000 in
theorem t_X12_report {p0 : Int32} {p1 : Int32} {h : PH} {Q : Res → PH → Prop}
    (T : MetPM m_X12_isMember [.ref 130, .int p0] h (rI (hnd Q (At m_X12_report Q) 0 [some (.ref 130), some (.int p0), some (.int p1), none] []) (fun x2 h1 => MetPM m_X12_isIn [.long (p1.toInt64), .long (lN 0), .long (lN 999)] h1 (rI (hnd Q (At m_X12_report Q) 0 [some (.ref 130), some (.int p0), some (.int p1), some (.int x2)] []) (fun x4 h3 => MetPM m_X12_goesBoth [.ref 130, .int x2, .int x4] h3 (rI (hnd Q (At m_X12_report Q) 0 [some (.ref 130), some (.int p0), some (.int p1), some (.int x2)] []) (fun x6 h5 => ((¬ x6 = 0 → MetPM m_X12_isDown [.ref 130, .int p0] h5 (rI (hnd Q (At m_X12_report Q) 0 [some (.ref 130), some (.int p0), some (.int p1), some (.int x2)] []) (fun x8 h7 => ((x8 = 0 → (((gi (si h7 130 0 (nI 0)) 130 0) ≤ 0 → MetPM m_X12_laysAside [.ref 130] (si h7 130 0 (nI 0)) (rV (hnd Q (At m_X12_report Q) 0 [some (.ref 130), some (.int p0), some (.int p1), some (.int x2)] []) (fun h9 => MetPM m_X12_reports [.ref 130, .int p0, .int p1] h9 (rI (hnd Q (At m_X12_report Q) 0 [some (.ref 130), some (.int p0), some (.int p1), some (.int x2)] []) (fun x11 h10 => MetPM m_X12_kept [.ref 130, .int x11] h10 (rI (hnd Q (At m_X12_report Q) 0 [some (.ref 130), some (.int p0), some (.int p1), some (.int x2)] []) (fun x13 h12 => Q (.inl (some (.int x13))) h12))))))) ∧ (¬ (gi (si h7 130 0 (nI 0)) 130 0) ≤ 0 → Q (.inl (some (.int (nI 0)))) (si h7 130 0 (nI 0))))) ∧ (¬ x8 = 0 → (((gi (si h7 130 0 (nI 3)) 130 0) ≤ 0 → MetPM m_X12_laysAside [.ref 130] (si h7 130 0 (nI 3)) (rV (hnd Q (At m_X12_report Q) 0 [some (.ref 130), some (.int p0), some (.int p1), some (.int x2)] []) (fun h14 => MetPM m_X12_reports [.ref 130, .int p0, .int p1] h14 (rI (hnd Q (At m_X12_report Q) 0 [some (.ref 130), some (.int p0), some (.int p1), some (.int x2)] []) (fun x16 h15 => MetPM m_X12_kept [.ref 130, .int x16] h15 (rI (hnd Q (At m_X12_report Q) 0 [some (.ref 130), some (.int p0), some (.int p1), some (.int x2)] []) (fun x18 h17 => Q (.inl (some (.int x18))) h17))))))) ∧ (¬ (gi (si h7 130 0 (nI 3)) 130 0) ≤ 0 → Q (.inl (some (.int (nI 0)))) (si h7 130 0 (nI 3))))))))) ∧ (x6 = 0 → Q (.inl (some (.int (nI 0)))) h5))))))))) :
    MetPM m_X12_report [.ref 130, .int p0, .int p1] h Q := by
  exact met_of o_X12_report (Nat.le_of_ble_eq_true rfl) (fun q => absurd rfl q) (vg_ok k_X12_report (stops := []) 88 0 0 _ [] h T)
set_option maxRecDepth 100000 in
set_option maxHeartbeats 4000000 in
theorem t_X12_change {p0 : Int32} {p1 : Int32} {h : PH} {Q : Res → PH → Prop}
    (T : MetPM m_X12_areThere [.ref 130, .int p0, .int p1] h (rI (hnd Q (At m_X12_change Q) 0 [some (.ref 130), some (.int p0), some (.int p1), none] []) (fun x2 h1 => ((x2 = 0 → MetPM m_X12_goesBoth [.ref 130, .int x2, .int (nI 0)] h1 (rI (hnd Q (At m_X12_change Q) 0 [some (.ref 130), some (.int p0), some (.int p1), some (.int x2)] []) (fun x4 h3 => ((¬ x4 = 0 → MetPM m_X12_laysAside [.ref 130] h3 (rV (hnd Q (At m_X12_change Q) 0 [some (.ref 130), some (.int p0), some (.int p1), some (.int x2)] []) (fun h5 => MetPM m_X12_changes [.ref 130, .int p0, .int p1] h5 (rI (hnd Q (At m_X12_change Q) 0 [some (.ref 130), some (.int p0), some (.int p1), some (.int x2)] []) (fun x7 h6 => MetPM m_X12_kept [.ref 130, .int x7] h6 (rI (hnd Q (At m_X12_change Q) 0 [some (.ref 130), some (.int p0), some (.int p1), some (.int x2)] []) (fun x9 h8 => Q (.inl (some (.int x9))) h8))))))) ∧ (x4 = 0 → Q (.inl (some (.int (nI 0)))) h3))))) ∧ (¬ x2 = 0 → MetPM m_X12_why [.ref 130, .int p0, .int p1] h1 (rI (hnd Q (At m_X12_change Q) 0 [some (.ref 130), some (.int p0), some (.int p1), some (.int x2)] []) (fun x11 h10 => ((¬ x11 = 0 → MetPM m_X12_goesBoth [.ref 130, .int x2, .int (nI 0)] h10 (rI (hnd Q (At m_X12_change Q) 0 [some (.ref 130), some (.int p0), some (.int p1), some (.int x2)] []) (fun x13 h12 => ((¬ x13 = 0 → MetPM m_X12_laysAside [.ref 130] h12 (rV (hnd Q (At m_X12_change Q) 0 [some (.ref 130), some (.int p0), some (.int p1), some (.int x2)] []) (fun h14 => MetPM m_X12_changes [.ref 130, .int p0, .int p1] h14 (rI (hnd Q (At m_X12_change Q) 0 [some (.ref 130), some (.int p0), some (.int p1), some (.int x2)] []) (fun x16 h15 => MetPM m_X12_kept [.ref 130, .int x16] h15 (rI (hnd Q (At m_X12_change Q) 0 [some (.ref 130), some (.int p0), some (.int p1), some (.int x2)] []) (fun x18 h17 => Q (.inl (some (.int x18))) h17))))))) ∧ (x13 = 0 → Q (.inl (some (.int (nI 0)))) h12))))) ∧ (x11 = 0 → MetPM m_X12_goesBoth [.ref 130, .int x2, .int (nI 1)] h10 (rI (hnd Q (At m_X12_change Q) 0 [some (.ref 130), some (.int p0), some (.int p1), some (.int x2)] []) (fun x20 h19 => ((¬ x20 = 0 → MetPM m_X12_laysAside [.ref 130] h19 (rV (hnd Q (At m_X12_change Q) 0 [some (.ref 130), some (.int p0), some (.int p1), some (.int x2)] []) (fun h21 => MetPM m_X12_changes [.ref 130, .int p0, .int p1] h21 (rI (hnd Q (At m_X12_change Q) 0 [some (.ref 130), some (.int p0), some (.int p1), some (.int x2)] []) (fun x23 h22 => MetPM m_X12_kept [.ref 130, .int x23] h22 (rI (hnd Q (At m_X12_change Q) 0 [some (.ref 130), some (.int p0), some (.int p1), some (.int x2)] []) (fun x25 h24 => Q (.inl (some (.int x25))) h24))))))) ∧ (x20 = 0 → Q (.inl (some (.int (nI 0)))) h19))))))))))))) :
    MetPM m_X12_change [.ref 130, .int p0, .int p1] h Q := by
  exact met_of o_X12_change (Nat.le_of_ble_eq_true rfl) (fun q => absurd rfl q) (vg_ok k_X12_change (stops := []) 80 0 0 _ [] h T)
set_option maxRecDepth 100000 in
set_option maxHeartbeats 4000000 in
theorem t_X12_commit {p0 : Int32} {h : PH} {Q : Res → PH → Prop}
    (T : MetPM m_X12_isIn [.long (p0.toInt64), .long (lN 1), .long (lN 9)] h (rI (hnd Q (At m_X12_commit Q) 0 [some (.ref 130), some (.int p0), none] []) (fun x2 h1 => ((x2 = 0 → MetPM m_X12_goesBoth [.ref 130, .int x2, .int (nI 0)] h1 (rI (hnd Q (At m_X12_commit Q) 0 [some (.ref 130), some (.int p0), some (.int x2)] []) (fun x4 h3 => ((¬ x4 = 0 → MetPM m_X12_laysAside [.ref 130] h3 (rV (hnd Q (At m_X12_commit Q) 0 [some (.ref 130), some (.int p0), some (.int x2)] []) (fun h5 => MetPM m_X12_commits [.ref 130, .int p0] h5 (rI (hnd Q (At m_X12_commit Q) 0 [some (.ref 130), some (.int p0), some (.int x2)] []) (fun x7 h6 => MetPM m_X12_kept [.ref 130, .int x7] h6 (rI (hnd Q (At m_X12_commit Q) 0 [some (.ref 130), some (.int p0), some (.int x2)] []) (fun x9 h8 => Q (.inl (some (.int x9))) h8))))))) ∧ (x4 = 0 → Q (.inl (some (.int (nI 0)))) h3))))) ∧ (¬ x2 = 0 → MetPM m_X12_whyCommit [.ref 130, .int p0] h1 (rI (hnd Q (At m_X12_commit Q) 0 [some (.ref 130), some (.int p0), some (.int x2)] []) (fun x11 h10 => ((¬ x11 = 0 → MetPM m_X12_goesBoth [.ref 130, .int x2, .int (nI 0)] h10 (rI (hnd Q (At m_X12_commit Q) 0 [some (.ref 130), some (.int p0), some (.int x2)] []) (fun x13 h12 => ((¬ x13 = 0 → MetPM m_X12_laysAside [.ref 130] h12 (rV (hnd Q (At m_X12_commit Q) 0 [some (.ref 130), some (.int p0), some (.int x2)] []) (fun h14 => MetPM m_X12_commits [.ref 130, .int p0] h14 (rI (hnd Q (At m_X12_commit Q) 0 [some (.ref 130), some (.int p0), some (.int x2)] []) (fun x16 h15 => MetPM m_X12_kept [.ref 130, .int x16] h15 (rI (hnd Q (At m_X12_commit Q) 0 [some (.ref 130), some (.int p0), some (.int x2)] []) (fun x18 h17 => Q (.inl (some (.int x18))) h17))))))) ∧ (x13 = 0 → Q (.inl (some (.int (nI 0)))) h12))))) ∧ (x11 = 0 → MetPM m_X12_goesBoth [.ref 130, .int x2, .int (nI 1)] h10 (rI (hnd Q (At m_X12_commit Q) 0 [some (.ref 130), some (.int p0), some (.int x2)] []) (fun x20 h19 => ((¬ x20 = 0 → MetPM m_X12_laysAside [.ref 130] h19 (rV (hnd Q (At m_X12_commit Q) 0 [some (.ref 130), some (.int p0), some (.int x2)] []) (fun h21 => MetPM m_X12_commits [.ref 130, .int p0] h21 (rI (hnd Q (At m_X12_commit Q) 0 [some (.ref 130), some (.int p0), some (.int x2)] []) (fun x23 h22 => MetPM m_X12_kept [.ref 130, .int x23] h22 (rI (hnd Q (At m_X12_commit Q) 0 [some (.ref 130), some (.int p0), some (.int x2)] []) (fun x25 h24 => Q (.inl (some (.int x25))) h24))))))) ∧ (x20 = 0 → Q (.inl (some (.int (nI 0)))) h19))))))))))))) :
    MetPM m_X12_commit [.ref 130, .int p0] h Q := by
  exact met_of o_X12_commit (Nat.le_of_ble_eq_true rfl) (fun q => absurd rfl q) (vg_ok k_X12_commit (stops := []) 79 0 0 _ [] h T)
set_option maxRecDepth 100000 in
set_option maxHeartbeats 4000000 in
theorem t_X12_tell {p0 : Int32} {h : PH} {Q : Res → PH → Prop}
    (T : (vp_in (gi h 130 38) 400 ∧ (let h1 : PH := (si (si h 146 (gi h 130 38).toNatClampNeg p0) 130 38 ((gi (si h 146 (gi h 130 38).toNatClampNeg p0) 130 38) + (nI 1))); Q (.inl none) h1))) :
    MetPM m_X12_tell [.ref 130, .int p0] h Q := by
  exact met_of o_X12_tell (Nat.le_of_ble_eq_true rfl) (fun q => absurd rfl q) (vg_ok k_X12_tell (stops := []) 63 0 0 _ [] h T)
set_option maxRecDepth 100000 in
set_option maxHeartbeats 4000000 in
theorem t_X12_tellName {p0 : Int64} {h : PH} {Q : Res → PH → Prop}
    (T : At m_X12_tellName Q 3 0 [some (.ref 130), some (.long p0), none, some (.int (nI 35))] [] h) :
    MetPM m_X12_tellName [.ref 130, .long p0] h Q := by
  exact met_of o_X12_tellName (Nat.le_of_ble_eq_true rfl) (fun q => absurd rfl q) (vg_ok k_X12_tellName (stops := [3]) 73 0 0 _ [] h T)
set_option maxRecDepth 100000 in
set_option maxHeartbeats 4000000 in
theorem u_X12_tellName_3 {v1 : Int64} {v3 : Int32} {h : PH} {Q : Res → PH → Prop}
    (T : ((v3 < 0 → Q (.inl none) h) ∧ (¬ v3 < 0 → (((lg_cmp (v1 >>> (v3.toInt64 &&& 63)) (lN 0)) ≤ 0 → At m_X12_tellName Q 3 0 [some (.ref 130), some (.long v1), none, some (.int (v3 + (-(nI 5))))] [] h) ∧ (¬ (lg_cmp (v1 >>> (v3.toInt64 &&& 63)) (lN 0)) ≤ 0 → MetPM m_X12_tell [.ref 130, .int ((nI 96) + (((v1 >>> (v3.toInt64 &&& 63)) &&& (lN 31)).toInt32))] h (rV (hnd Q (At m_X12_tellName Q) 0 [some (.ref 130), some (.long v1), none, some (.int v3)] []) (fun h1 => At m_X12_tellName Q 3 0 [some (.ref 130), some (.long v1), none, some (.int (v3 + (-(nI 5))))] [] h1))))))) :
    At m_X12_tellName Q 3 0 [some (.ref 130), some (.long v1), none, some (.int v3)] [] h := by
  exact vg_ok k_X12_tellName (stops := [3]) 73 3 0 _ _ h T
set_option maxRecDepth 100000 in
set_option maxHeartbeats 4000000 in
theorem t_X12_writeReport {h : PH} {Q : Res → PH → Prop}
    (T : (isB (nI 1) ∧ At m_X12_writeReport Q 17 0 [some (.ref 130), some (.int (nI 0))] [] (si (si (si h 130 0 (nI 0)) 130 38 (nI 0)) 130 39 (nI 1)))) :
    MetPM m_X12_writeReport [.ref 130] h Q := by
  exact met_of o_X12_writeReport (Nat.le_of_ble_eq_true rfl) (fun q => absurd rfl q) (vg_ok k_X12_writeReport (stops := [17, 77, 102, 118]) 128 0 0 _ [] h T)
set_option maxRecDepth 100000 in
set_option maxHeartbeats 4000000 in
theorem u_X12_writeReport_17 {v1 : Int32} {h : PH} {Q : Res → PH → Prop}
    (T : (vp_in (nI 2) 253 ∧ (((gi h 132 (nI 2).toNatClampNeg) ≤ v1 → Q (.inl (some (.int (gi h 130 38)))) h) ∧ (¬ (gi h 132 (nI 2).toNatClampNeg) ≤ v1 → (vp_in ((nI 13) + v1) 25 ∧ MetPM m_X12_tellName [.ref 130, .long (gl h 137 ((nI 13) + v1).toNatClampNeg)] h (rV (hnd Q (At m_X12_writeReport Q) 0 [some (.ref 130), some (.int v1)] []) (fun h1 => MetPM m_X12_tell [.ref 130, .int (nI 32)] h1 (rV (hnd Q (At m_X12_writeReport Q) 0 [some (.ref 130), some (.int v1)] []) (fun h2 => MetPM m_X12_of [.ref 130, .int v1, .int (nI 1)] h2 (rI (hnd Q (At m_X12_writeReport Q) 0 [some (.ref 130), some (.int v1)] []) (fun x4 h3 => (vp_in ((nI 0) + x4) 25 ∧ MetPM m_X12_tellName [.ref 130, .long (gl h3 137 ((nI 0) + x4).toNatClampNeg)] h3 (rV (hnd Q (At m_X12_writeReport Q) 0 [some (.ref 130), some (.int v1)] []) (fun h5 => MetPM m_X12_isDown [.ref 130, .int v1] h5 (rI (hnd Q (At m_X12_writeReport Q) 0 [some (.ref 130), some (.int v1)] []) (fun x7 h6 => ((x7 = 0 → At m_X12_writeReport Q 77 0 [some (.ref 130), some (.int v1)] [] h6) ∧ (¬ x7 = 0 → MetPM m_X12_tell [.ref 130, .int (nI 62)] h6 (rV (hnd Q (At m_X12_writeReport Q) 0 [some (.ref 130), some (.int v1)] []) (fun h8 => At m_X12_writeReport Q 77 0 [some (.ref 130), some (.int v1)] [] h8)))))))))))))))))))) :
    At m_X12_writeReport Q 17 0 [some (.ref 130), some (.int v1)] [] h := by
  exact vg_ok k_X12_writeReport (stops := [17, 77, 102, 118]) 128 17 0 _ _ h T
set_option maxRecDepth 100000 in
set_option maxHeartbeats 4000000 in
theorem u_X12_writeReport_77 {v1 : Int32} {h : PH} {Q : Res → PH → Prop}
    (T : MetPM m_X12_isDown [.ref 130, .int v1] h (rI (hnd Q (At m_X12_writeReport Q) 0 [some (.ref 130), some (.int v1)] []) (fun x2 h1 => ((x2 = 0 → At m_X12_writeReport Q 102 0 [some (.ref 130), some (.int v1)] [] h1) ∧ (¬ x2 = 0 → MetPM m_X12_of [.ref 130, .int v1, .int (nI 2)] h1 (rI (hnd Q (At m_X12_writeReport Q) 0 [some (.ref 130), some (.int v1)] []) (fun x4 h3 => (vp_in ((nI 0) + x4) 25 ∧ MetPM m_X12_tellName [.ref 130, .long (gl h3 137 ((nI 0) + x4).toNatClampNeg)] h3 (rV (hnd Q (At m_X12_writeReport Q) 0 [some (.ref 130), some (.int v1)] []) (fun h5 => At m_X12_writeReport Q 102 0 [some (.ref 130), some (.int v1)] [] h5)))))))))) :
    At m_X12_writeReport Q 77 0 [some (.ref 130), some (.int v1)] [] h := by
  exact vg_ok k_X12_writeReport (stops := [17, 77, 102, 118]) 128 77 0 _ _ h T
set_option maxRecDepth 100000 in
set_option maxHeartbeats 4000000 in
theorem u_X12_writeReport_102 {v1 : Int32} {h : PH} {Q : Res → PH → Prop}
    (T : MetPM m_X12_of [.ref 130, .int v1, .int (nI 5)] h (rI (hnd Q (At m_X12_writeReport Q) 0 [some (.ref 130), some (.int v1)] []) (fun x2 h1 => ((¬ x2 = (nI 1) → At m_X12_writeReport Q 118 0 [some (.ref 130), some (.int v1)] [] h1) ∧ (x2 = (nI 1) → MetPM m_X12_tell [.ref 130, .int (nI 33)] h1 (rV (hnd Q (At m_X12_writeReport Q) 0 [some (.ref 130), some (.int v1)] []) (fun h3 => At m_X12_writeReport Q 118 0 [some (.ref 130), some (.int v1)] [] h3))))))) :
    At m_X12_writeReport Q 102 0 [some (.ref 130), some (.int v1)] [] h := by
  exact vg_ok k_X12_writeReport (stops := [17, 77, 102, 118]) 128 102 0 _ _ h T
set_option maxRecDepth 100000 in
set_option maxHeartbeats 4000000 in
theorem u_X12_writeReport_118 {v1 : Int32} {h : PH} {Q : Res → PH → Prop}
    (T : MetPM m_X12_tell [.ref 130, .int (nI 10)] h (rV (hnd Q (At m_X12_writeReport Q) 0 [some (.ref 130), some (.int v1)] []) (fun h1 => At m_X12_writeReport Q 17 0 [some (.ref 130), some (.int (v1 + (nI 1)))] [] h1))) :
    At m_X12_writeReport Q 118 0 [some (.ref 130), some (.int v1)] [] h := by
  exact vg_ok k_X12_writeReport (stops := [17, 77, 102, 118]) 128 118 0 _ _ h T
set_option maxRecDepth 100000 in
set_option maxHeartbeats 4000000 in
theorem t_X12_reportByte {p0 : Int32} {h : PH} {Q : Res → PH → Prop}
    (T : (((gi h 130 39) = 0 → MetPM m_X12_goes [.ref 130, .int (nI 0)] h (rI (hnd Q (At m_X12_reportByte Q) 0 [some (.ref 130), some (.int p0)] []) (fun x2 h1 => ((x2 = 0 → Q (.inl (some (.int (nI 0)))) h1) ∧ (¬ x2 = 0 → (vp_in p0 400 ∧ Q (.inl (some (.int (gi h1 146 p0.toNatClampNeg)))) h1)))))) ∧ (¬ (gi h 130 39) = 0 → MetPM m_X12_isIn [.long (p0.toInt64), .long (lN 0), .long (((gi h 130 38) - (nI 1)).toInt64)] h (rI (hnd Q (At m_X12_reportByte Q) 0 [some (.ref 130), some (.int p0)] []) (fun x4 h3 => ((x4 = 0 → MetPM m_X12_goes [.ref 130, .int (nI 0)] h3 (rI (hnd Q (At m_X12_reportByte Q) 0 [some (.ref 130), some (.int p0)] []) (fun x6 h5 => ((x6 = 0 → Q (.inl (some (.int (nI 0)))) h5) ∧ (¬ x6 = 0 → (vp_in p0 400 ∧ Q (.inl (some (.int (gi h5 146 p0.toNatClampNeg)))) h5)))))) ∧ (¬ x4 = 0 → MetPM m_X12_goes [.ref 130, .int (nI 1)] h3 (rI (hnd Q (At m_X12_reportByte Q) 0 [some (.ref 130), some (.int p0)] []) (fun x8 h7 => ((x8 = 0 → Q (.inl (some (.int (nI 0)))) h7) ∧ (¬ x8 = 0 → (vp_in p0 400 ∧ Q (.inl (some (.int (gi h7 146 p0.toNatClampNeg)))) h7)))))))))))) :
    MetPM m_X12_reportByte [.ref 130, .int p0] h Q := by
  exact met_of o_X12_reportByte (Nat.le_of_ble_eq_true rfl) (fun q => absurd rfl q) (vg_ok k_X12_reportByte (stops := []) 76 0 0 _ [] h T)
set_option maxRecDepth 100000 in
set_option maxHeartbeats 4000000 in
theorem t_X12_undo {h : PH} {Q : Res → PH → Prop}
    (T : ((¬ (gi (si h 130 0 (nI 0)) 130 21) = 0 → At m_X12_undo Q 26 0 [some (.ref 130), some (.int (nI 0))] [] (si (si h 130 0 (nI 0)) 130 21 ((gi (si h 130 0 (nI 0)) 130 21) - (nI 1)))) ∧ ((gi (si h 130 0 (nI 0)) 130 21) = 0 → Q (.inl (some (.int (-(nI 1))))) (si h 130 0 (nI 0))))) :
    MetPM m_X12_undo [.ref 130] h Q := by
  exact met_of o_X12_undo (Nat.le_of_ble_eq_true rfl) (fun q => absurd rfl q) (vg_ok k_X12_undo (stops := [26]) 87 0 0 _ [] h T)
set_option maxRecDepth 100000 in
set_option maxHeartbeats 4000000 in
theorem u_X12_undo_26 {v1 : Int32} {h : PH} {Q : Res → PH → Prop}
    (T : (((nI 253) ≤ v1 → Q (.inl (some (.int (gi h 130 21)))) h) ∧ (¬ (nI 253) ≤ v1 → (vp_in (((nI 253) * (gi h 130 21)) + v1) 1518 ∧ (vp_in v1 253 ∧ At m_X12_undo Q 26 0 [some (.ref 130), some (.int (v1 + (nI 1)))] [] (si h 132 v1.toNatClampNeg (gi h 134 (((nI 253) * (gi h 130 21)) + v1).toNatClampNeg))))))) :
    At m_X12_undo Q 26 0 [some (.ref 130), some (.int v1)] [] h := by
  exact vg_ok k_X12_undo (stops := [26]) 87 26 0 _ _ h T
set_option maxRecDepth 100000 in
set_option maxHeartbeats 4000000 in
theorem t_X12_save {h : PH} {Q : Res → PH → Prop}
    (T : At m_X12_save Q 7 0 [some (.ref 130), some (.int (nI 0))] [] (si h 130 0 (nI 0))) :
    MetPM m_X12_save [.ref 130] h Q := by
  exact met_of o_X12_save (Nat.le_of_ble_eq_true rfl) (fun q => absurd rfl q) (vg_ok k_X12_save (stops := [7, 34]) 91 0 0 _ [] h T)
set_option maxRecDepth 100000 in
set_option maxHeartbeats 4000000 in
theorem u_X12_save_7 {v1 : Int32} {h : PH} {Q : Res → PH → Prop}
    (T : (((nI 253) ≤ v1 → At m_X12_save Q 34 0 [some (.ref 130), some (.int (nI 0))] [] h) ∧ (¬ (nI 253) ≤ v1 → (vp_in v1 253 ∧ (vp_in v1 253 ∧ At m_X12_save Q 7 0 [some (.ref 130), some (.int (v1 + (nI 1)))] [] (si h 133 v1.toNatClampNeg (gi h 132 v1.toNatClampNeg))))))) :
    At m_X12_save Q 7 0 [some (.ref 130), some (.int v1)] [] h := by
  exact vg_ok k_X12_save (stops := [7, 34]) 91 7 0 _ _ h T
set_option maxRecDepth 100000 in
set_option maxHeartbeats 4000000 in
theorem u_X12_save_34 {v1 : Int32} {h : PH} {Q : Res → PH → Prop}
    (T : (((nI 25) ≤ v1 → (isB (nI 1) ∧ (vp_in (nI 11) 253 ∧ Q (.inl (some (.int (gi (si h 130 22 (nI 1)) 132 (nI 11).toNatClampNeg)))) (si h 130 22 (nI 1))))) ∧ (¬ (nI 25) ≤ v1 → (vp_in v1 25 ∧ (vp_in v1 25 ∧ At m_X12_save Q 34 0 [some (.ref 130), some (.int (v1 + (nI 1)))] [] (sl h 138 v1.toNatClampNeg (gl h 137 v1.toNatClampNeg))))))) :
    At m_X12_save Q 34 0 [some (.ref 130), some (.int v1)] [] h := by
  exact vg_ok k_X12_save (stops := [7, 34]) 91 34 0 _ _ h T
set_option maxRecDepth 100000 in
set_option maxHeartbeats 4000000 in
theorem t_X12_restore {h : PH} {Q : Res → PH → Prop}
    (T : MetPM m_X12_goes [.ref 130, .int (gi h 130 22)] h (rI (hnd Q (At m_X12_restore Q) 0 [some (.ref 130), none] []) (fun x2 h1 => ((¬ x2 = 0 → At m_X12_restore Q 15 0 [some (.ref 130), some (.int (nI 0))] [] h1) ∧ (x2 = 0 → Q (.inl (some (.int (nI 0)))) h1))))) :
    MetPM m_X12_restore [.ref 130] h Q := by
  exact met_of o_X12_restore (Nat.le_of_ble_eq_true rfl) (fun q => absurd rfl q) (vg_ok k_X12_restore (stops := [15, 42]) 95 0 0 _ [] h T)
set_option maxRecDepth 100000 in
set_option maxHeartbeats 4000000 in
theorem u_X12_restore_15 {v1 : Int32} {h : PH} {Q : Res → PH → Prop}
    (T : (((nI 253) ≤ v1 → At m_X12_restore Q 42 0 [some (.ref 130), some (.int (nI 0))] [] h) ∧ (¬ (nI 253) ≤ v1 → (vp_in v1 253 ∧ (vp_in v1 253 ∧ At m_X12_restore Q 15 0 [some (.ref 130), some (.int (v1 + (nI 1)))] [] (si h 132 v1.toNatClampNeg (gi h 133 v1.toNatClampNeg))))))) :
    At m_X12_restore Q 15 0 [some (.ref 130), some (.int v1)] [] h := by
  exact vg_ok k_X12_restore (stops := [15, 42]) 95 15 0 _ _ h T
set_option maxRecDepth 100000 in
set_option maxHeartbeats 4000000 in
theorem u_X12_restore_42 {v1 : Int32} {h : PH} {Q : Res → PH → Prop}
    (T : (((nI 25) ≤ v1 → (vp_in (nI 11) 253 ∧ Q (.inl (some (.int (gi (si h 130 21 (nI 0)) 132 (nI 11).toNatClampNeg)))) (si h 130 21 (nI 0)))) ∧ (¬ (nI 25) ≤ v1 → (vp_in v1 25 ∧ (vp_in v1 25 ∧ At m_X12_restore Q 42 0 [some (.ref 130), some (.int (v1 + (nI 1)))] [] (sl h 137 v1.toNatClampNeg (gl h 138 v1.toNatClampNeg))))))) :
    At m_X12_restore Q 42 0 [some (.ref 130), some (.int v1)] [] h := by
  exact vg_ok k_X12_restore (stops := [15, 42]) 95 42 0 _ _ h T
