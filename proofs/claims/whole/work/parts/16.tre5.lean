/-! ===== what each method does, step by step, 5 ===== -/
set_option maxRecDepth 100000 in
set_option maxHeartbeats 4000000 in
theorem t_X12_truth {p0 : Int32} {h : PH} {Q : Res → PH → Prop}
    (T : ((p0 = 0 → Q (.inl (some (.int (nI 0)))) h) ∧ (¬ p0 = 0 → Q (.inl (some (.int (nI 1)))) h))) :
    MetPM m_X12_truth [.int p0] h Q := by
  exact met_of o_X12_truth (Nat.le_of_ble_eq_true rfl) (fun q => absurd rfl q) (vg_ok k_X12_truth (stops := []) 56 0 0 _ [] h T)
set_option maxRecDepth 100000 in
set_option maxHeartbeats 4000000 in
theorem t_X12_goes {p0 : Int32} {h : PH} {Q : Res → PH → Prop}
    (T : ((¬ p0 = 0 → MetPM m_X12_truth [.int (nI 0)] h (rI (hnd Q (At m_X12_goes Q) 0 [some (.ref 130), some (.int p0)] []) (fun x2 h1 => (isB p0 ∧ Q (.inl (some (.int p0))) (si h1 130 0 x2))))) ∧ (p0 = 0 → MetPM m_X12_truth [.int (nI 1)] h (rI (hnd Q (At m_X12_goes Q) 0 [some (.ref 130), some (.int p0)] []) (fun x4 h3 => (isB p0 ∧ Q (.inl (some (.int p0))) (si h3 130 0 x4))))))) :
    MetPM m_X12_goes [.ref 130, .int p0] h Q := by
  exact met_of o_X12_goes (Nat.le_of_ble_eq_true rfl) (fun q => absurd rfl q) (vg_ok k_X12_goes (stops := []) 60 0 0 _ [] h T)
set_option maxRecDepth 100000 in
set_option maxHeartbeats 4000000 in
theorem t_X12_four {p0 : Int32} {h : PH} {Q : Res → PH → Prop}
    (T : At m_X12_four Q 3 0 [some (.ref 130), some (.int p0), some (.int (nI 24))] [] h) :
    MetPM m_X12_four [.ref 130, .int p0] h Q := by
  exact met_of o_X12_four (Nat.le_of_ble_eq_true rfl) (fun q => absurd rfl q) (vg_ok k_X12_four (stops := [3]) 73 0 0 _ [] h T)
set_option maxRecDepth 100000 in
set_option maxHeartbeats 4000000 in
theorem u_X12_four_3 {v1 : Int32} {v2 : Int32} {h : PH} {Q : Res → PH → Prop}
    (T : ((v2 < 0 → Q (.inl none) h) ∧ (¬ v2 < 0 → (vp_in (gi h 130 2) 900 ∧ (let y1 : Int32 := ((gi (si h 131 (gi h 130 2).toNatClampNeg ((v1 >>> (v2 &&& 31)) &&& (nI 255))) 130 2) + (nI 1)); At m_X12_four Q 3 0 [some (.ref 130), some (.int v1), some (.int (v2 + (-(nI 8))))] [] (si (si h 131 (gi h 130 2).toNatClampNeg ((v1 >>> (v2 &&& 31)) &&& (nI 255))) 130 2 y1)))))) :
    At m_X12_four Q 3 0 [some (.ref 130), some (.int v1), some (.int v2)] [] h := by
  exact vg_ok k_X12_four (stops := [3]) 73 3 0 _ _ h T
set_option maxRecDepth 100000 in
set_option maxHeartbeats 4000000 in
theorem t_X12_feed {p0 : Int32} {p1 : Int32} {p2 : Int32} {p3 : Int32} {p4 : Int32} {h : PH} {Q : Res → PH → Prop}
    (T : (((nI 900) < ((gi h 130 2) + (nI 20)) → MetPM m_X12_goes [.ref 130, .int (nI 0)] h (rI (hnd Q (At m_X12_feed Q) 0 [some (.ref 130), some (.int p0), some (.int p1), some (.int p2), some (.int p3), some (.int p4)] []) (fun x2 h1 => ((¬ x2 = 0 → MetPM m_X12_four [.ref 130, .int p0] h1 (rV (hnd Q (At m_X12_feed Q) 0 [some (.ref 130), some (.int p0), some (.int p1), some (.int p2), some (.int p3), some (.int p4)] []) (fun h3 => MetPM m_X12_four [.ref 130, .int p1] h3 (rV (hnd Q (At m_X12_feed Q) 0 [some (.ref 130), some (.int p0), some (.int p1), some (.int p2), some (.int p3), some (.int p4)] []) (fun h4 => MetPM m_X12_four [.ref 130, .int p2] h4 (rV (hnd Q (At m_X12_feed Q) 0 [some (.ref 130), some (.int p0), some (.int p1), some (.int p2), some (.int p3), some (.int p4)] []) (fun h5 => MetPM m_X12_four [.ref 130, .int p3] h5 (rV (hnd Q (At m_X12_feed Q) 0 [some (.ref 130), some (.int p0), some (.int p1), some (.int p2), some (.int p3), some (.int p4)] []) (fun h6 => MetPM m_X12_four [.ref 130, .int p4] h6 (rV (hnd Q (At m_X12_feed Q) 0 [some (.ref 130), some (.int p0), some (.int p1), some (.int p2), some (.int p3), some (.int p4)] []) (fun h7 => Q (.inl (some (.int (gi h7 130 2)))) h7))))))))))) ∧ (x2 = 0 → Q (.inl (some (.int (nI 0)))) h1))))) ∧ (¬ (nI 900) < ((gi h 130 2) + (nI 20)) → MetPM m_X12_goes [.ref 130, .int (nI 1)] h (rI (hnd Q (At m_X12_feed Q) 0 [some (.ref 130), some (.int p0), some (.int p1), some (.int p2), some (.int p3), some (.int p4)] []) (fun x9 h8 => ((¬ x9 = 0 → MetPM m_X12_four [.ref 130, .int p0] h8 (rV (hnd Q (At m_X12_feed Q) 0 [some (.ref 130), some (.int p0), some (.int p1), some (.int p2), some (.int p3), some (.int p4)] []) (fun h10 => MetPM m_X12_four [.ref 130, .int p1] h10 (rV (hnd Q (At m_X12_feed Q) 0 [some (.ref 130), some (.int p0), some (.int p1), some (.int p2), some (.int p3), some (.int p4)] []) (fun h11 => MetPM m_X12_four [.ref 130, .int p2] h11 (rV (hnd Q (At m_X12_feed Q) 0 [some (.ref 130), some (.int p0), some (.int p1), some (.int p2), some (.int p3), some (.int p4)] []) (fun h12 => MetPM m_X12_four [.ref 130, .int p3] h12 (rV (hnd Q (At m_X12_feed Q) 0 [some (.ref 130), some (.int p0), some (.int p1), some (.int p2), some (.int p3), some (.int p4)] []) (fun h13 => MetPM m_X12_four [.ref 130, .int p4] h13 (rV (hnd Q (At m_X12_feed Q) 0 [some (.ref 130), some (.int p0), some (.int p1), some (.int p2), some (.int p3), some (.int p4)] []) (fun h14 => Q (.inl (some (.int (gi h14 130 2)))) h14))))))))))) ∧ (x9 = 0 → Q (.inl (some (.int (nI 0)))) h8))))))) :
    MetPM m_X12_feed [.ref 130, .int p0, .int p1, .int p2, .int p3, .int p4] h Q := by
  exact met_of o_X12_feed (Nat.le_of_ble_eq_true rfl) (fun q => absurd rfl q) (vg_ok k_X12_feed (stops := []) 82 0 0 _ [] h T)
set_option maxRecDepth 100000 in
set_option maxHeartbeats 4000000 in
theorem t_X12_thrown {h : PH} {Q : Res → PH → Prop}
    (T : Q (.inl (some (.int (gi h 130 0)))) h) :
    MetPM m_X12_thrown [.ref 130] h Q := by
  exact met_of o_X12_thrown (Nat.le_of_ble_eq_true rfl) (fun q => absurd rfl q) (vg_ok k_X12_thrown (stops := []) 53 0 0 _ [] h T)
set_option maxRecDepth 100000 in
set_option maxHeartbeats 4000000 in
theorem t_X12_isIn {p0 : Int64} {p1 : Int64} {p2 : Int64} {h : PH} {Q : Res → PH → Prop}
    (T : (((lg_cmp p0 p1) < 0 → (isB (nI 0) ∧ Q (.inl (some (.int (nI 0)))) h)) ∧ (¬ (lg_cmp p0 p1) < 0 → ((0 < (lg_cmp p0 p2) → (isB (nI 0) ∧ Q (.inl (some (.int (nI 0)))) h)) ∧ (¬ 0 < (lg_cmp p0 p2) → (isB (nI 1) ∧ Q (.inl (some (.int (nI 1)))) h)))))) :
    MetPM m_X12_isIn [.long p0, .long p1, .long p2] h Q := by
  exact met_of o_X12_isIn (Nat.le_of_ble_eq_true rfl) (fun q => absurd rfl q) (vg_ok k_X12_isIn (stops := []) 62 0 0 _ [] h T)
set_option maxRecDepth 100000 in
set_option maxHeartbeats 4000000 in
theorem t_X12_truncate {p0 : Int32} {h : PH} {Q : Res → PH → Prop}
    (T : MetPM m_X12_isIn [.long (p0.toInt64), .long (lN 0), .long ((gi h 130 2).toInt64)] h (rI (hnd Q (At m_X12_truncate Q) 0 [some (.ref 130), some (.int p0)] []) (fun x2 h1 => MetPM m_X12_goes [.ref 130, .int x2] h1 (rI (hnd Q (At m_X12_truncate Q) 0 [some (.ref 130), some (.int p0)] []) (fun x4 h3 => ((¬ x4 = 0 → Q (.inl (some (.int p0))) (si h3 130 2 p0)) ∧ (x4 = 0 → Q (.inl (some (.int (nI 0)))) h3))))))) :
    MetPM m_X12_truncate [.ref 130, .int p0] h Q := by
  exact met_of o_X12_truncate (Nat.le_of_ble_eq_true rfl) (fun q => absurd rfl q) (vg_ok k_X12_truncate (stops := []) 67 0 0 _ [] h T)
set_option maxRecDepth 100000 in
set_option maxHeartbeats 4000000 in
theorem t_X12_here {p0 : Int32} {h : PH} {Q : Res → PH → Prop}
    (T : (((gi h 130 3) ≤ ((gi h 130 4) + p0) → Q (.inl (some (.int (-(nI 1))))) h) ∧ (¬ (gi h 130 3) ≤ ((gi h 130 4) + p0) → (vp_in ((gi h 130 4) + p0) 900 ∧ Q (.inl (some (.int (gi h 131 ((gi h 130 4) + p0).toNatClampNeg)))) h)))) :
    MetPM m_X12_here [.ref 130, .int p0] h Q := by
  exact met_of o_X12_here (Nat.le_of_ble_eq_true rfl) (fun q => absurd rfl q) (vg_ok k_X12_here (stops := []) 67 0 0 _ [] h T)
set_option maxRecDepth 100000 in
set_option maxHeartbeats 4000000 in
theorem t_X12_isLetter {p0 : Int32} {h : PH} {Q : Res → PH → Prop}
    (T : ((p0 < (nI 97) → (isB (nI 0) ∧ Q (.inl (some (.int (nI 0)))) h)) ∧ (¬ p0 < (nI 97) → (((nI 122) < p0 → (isB (nI 0) ∧ Q (.inl (some (.int (nI 0)))) h)) ∧ (¬ (nI 122) < p0 → (isB (nI 1) ∧ Q (.inl (some (.int (nI 1)))) h)))))) :
    MetPM m_X12_isLetter [.int p0] h Q := by
  exact met_of o_X12_isLetter (Nat.le_of_ble_eq_true rfl) (fun q => absurd rfl q) (vg_ok k_X12_isLetter (stops := []) 60 0 0 _ [] h T)
set_option maxRecDepth 100000 in
set_option maxHeartbeats 4000000 in
theorem t_X12_isDigit {p0 : Int32} {h : PH} {Q : Res → PH → Prop}
    (T : ((p0 < (nI 48) → (isB (nI 0) ∧ Q (.inl (some (.int (nI 0)))) h)) ∧ (¬ p0 < (nI 48) → (((nI 57) < p0 → (isB (nI 0) ∧ Q (.inl (some (.int (nI 0)))) h)) ∧ (¬ (nI 57) < p0 → (isB (nI 1) ∧ Q (.inl (some (.int (nI 1)))) h)))))) :
    MetPM m_X12_isDigit [.int p0] h Q := by
  exact met_of o_X12_isDigit (Nat.le_of_ble_eq_true rfl) (fun q => absurd rfl q) (vg_ok k_X12_isDigit (stops := []) 60 0 0 _ [] h T)
set_option maxRecDepth 100000 in
set_option maxHeartbeats 4000000 in
theorem t_X12_goOn {h : PH} {Q : Res → PH → Prop}
    (T : MetPM m_X12_here [.ref 130, .int (nI 0)] h (rI (hnd Q (At m_X12_goOn Q) 0 [some (.ref 130), none, none] []) (fun x2 h1 => ((x2 = (nI 32) → At m_X12_goOn Q 20 0 [some (.ref 130), none, none] [] h1) ∧ (¬ x2 = (nI 32) → MetPM m_X12_here [.ref 130, .int (nI 0)] h1 (rI (hnd Q (At m_X12_goOn Q) 0 [some (.ref 130), none, none] []) (fun x4 h3 => ((¬ x4 = (nI 10) → MetPM m_X12_here [.ref 130, .int (nI 0)] (si (sl (si h3 130 5 (gi h3 130 4)) 130 12 (lN 0)) 130 7 (nI 0)) (rI (hnd Q (At m_X12_goOn Q) 0 [some (.ref 130), none, none] []) (fun x6 h5 => ((0 ≤ x6 → MetPM m_X12_isLetter [.int x6] h5 (rI (hnd Q (At m_X12_goOn Q) 0 [some (.ref 130), some (.int x6), some (.int (nI 0))] []) (fun x8 h7 => ((x8 = 0 → MetPM m_X12_isDigit [.int x6] h7 (rI (hnd Q (At m_X12_goOn Q) 0 [some (.ref 130), some (.int x6), some (.int (nI 0))] []) (fun x10 h9 => ((x10 = 0 → ((x6 = (nI 59) → At m_X12_goOn Q 239 0 [some (.ref 130), some (.int x6), some (.int (nI 1))] [] (si (si h9 130 6 (nI 3)) 130 7 x6)) ∧ (¬ x6 = (nI 59) → ((x6 = (nI 40) → At m_X12_goOn Q 239 0 [some (.ref 130), some (.int x6), some (.int (nI 1))] [] (si (si h9 130 6 (nI 3)) 130 7 x6)) ∧ (¬ x6 = (nI 40) → ((¬ x6 = (nI 41) → At m_X12_goOn Q 239 0 [some (.ref 130), some (.int x6), some (.int (nI 1))] [] (si (si h9 130 6 (nI 4)) 130 7 x6)) ∧ (x6 = (nI 41) → At m_X12_goOn Q 239 0 [some (.ref 130), some (.int x6), some (.int (nI 1))] [] (si (si h9 130 6 (nI 3)) 130 7 x6)))))))) ∧ (¬ x10 = 0 → At m_X12_goOn Q 146 0 [some (.ref 130), some (.int x6), some (.int (nI 0))] [] h9))))) ∧ (¬ x8 = 0 → At m_X12_goOn Q 76 0 [some (.ref 130), some (.int x6), some (.int (nI 0))] [] h7))))) ∧ (¬ 0 ≤ x6 → Q (.inl none) (si h5 130 6 (nI 0))))))) ∧ (x4 = (nI 10) → At m_X12_goOn Q 20 0 [some (.ref 130), none, none] [] h3))))))))) :
    MetPM m_X12_goOn [.ref 130] h Q := by
  exact met_of o_X12_goOn (Nat.le_of_ble_eq_true rfl) (fun q => absurd rfl q) (vg_ok k_X12_goOn (stops := [0, 20, 76, 115, 146, 182, 239]) 186 0 0 _ [] h T)
set_option maxRecDepth 100000 in
set_option maxHeartbeats 4000000 in
theorem u_X12_goOn_0 {h : PH} {Q : Res → PH → Prop}
    (T : MetPM m_X12_here [.ref 130, .int (nI 0)] h (rI (hnd Q (At m_X12_goOn Q) 0 [some (.ref 130), none, none] []) (fun x2 h1 => ((x2 = (nI 32) → At m_X12_goOn Q 20 0 [some (.ref 130), none, none] [] h1) ∧ (¬ x2 = (nI 32) → MetPM m_X12_here [.ref 130, .int (nI 0)] h1 (rI (hnd Q (At m_X12_goOn Q) 0 [some (.ref 130), none, none] []) (fun x4 h3 => ((¬ x4 = (nI 10) → MetPM m_X12_here [.ref 130, .int (nI 0)] (si (sl (si h3 130 5 (gi h3 130 4)) 130 12 (lN 0)) 130 7 (nI 0)) (rI (hnd Q (At m_X12_goOn Q) 0 [some (.ref 130), none, none] []) (fun x6 h5 => ((0 ≤ x6 → MetPM m_X12_isLetter [.int x6] h5 (rI (hnd Q (At m_X12_goOn Q) 0 [some (.ref 130), some (.int x6), some (.int (nI 0))] []) (fun x8 h7 => ((x8 = 0 → MetPM m_X12_isDigit [.int x6] h7 (rI (hnd Q (At m_X12_goOn Q) 0 [some (.ref 130), some (.int x6), some (.int (nI 0))] []) (fun x10 h9 => ((x10 = 0 → ((x6 = (nI 59) → At m_X12_goOn Q 239 0 [some (.ref 130), some (.int x6), some (.int (nI 1))] [] (si (si h9 130 6 (nI 3)) 130 7 x6)) ∧ (¬ x6 = (nI 59) → ((x6 = (nI 40) → At m_X12_goOn Q 239 0 [some (.ref 130), some (.int x6), some (.int (nI 1))] [] (si (si h9 130 6 (nI 3)) 130 7 x6)) ∧ (¬ x6 = (nI 40) → ((¬ x6 = (nI 41) → At m_X12_goOn Q 239 0 [some (.ref 130), some (.int x6), some (.int (nI 1))] [] (si (si h9 130 6 (nI 4)) 130 7 x6)) ∧ (x6 = (nI 41) → At m_X12_goOn Q 239 0 [some (.ref 130), some (.int x6), some (.int (nI 1))] [] (si (si h9 130 6 (nI 3)) 130 7 x6)))))))) ∧ (¬ x10 = 0 → At m_X12_goOn Q 146 0 [some (.ref 130), some (.int x6), some (.int (nI 0))] [] h9))))) ∧ (¬ x8 = 0 → At m_X12_goOn Q 76 0 [some (.ref 130), some (.int x6), some (.int (nI 0))] [] h7))))) ∧ (¬ 0 ≤ x6 → Q (.inl none) (si h5 130 6 (nI 0))))))) ∧ (x4 = (nI 10) → At m_X12_goOn Q 20 0 [some (.ref 130), none, none] [] h3))))))))) :
    At m_X12_goOn Q 0 0 [some (.ref 130), none, none] [] h := by
  exact vg_ok k_X12_goOn (stops := [0, 20, 76, 115, 146, 182, 239]) 186 0 0 _ _ h T
set_option maxRecDepth 100000 in
set_option maxHeartbeats 4000000 in
theorem u_X12_goOn_20 {h : PH} {Q : Res → PH → Prop}
    (T : At m_X12_goOn Q 0 0 [some (.ref 130), none, none] [] (si h 130 4 ((gi h 130 4) + (nI 1)))) :
    At m_X12_goOn Q 20 0 [some (.ref 130), none, none] [] h := by
  exact vg_ok k_X12_goOn (stops := [0, 20, 76, 115, 146, 182, 239]) 186 20 0 _ _ h T
set_option maxRecDepth 100000 in
set_option maxHeartbeats 4000000 in
theorem u_X12_goOn_76 {v1 : Int32} {v2 : Int32} {h : PH} {Q : Res → PH → Prop}
    (T : MetPM m_X12_here [.ref 130, .int v2] h (rI (hnd Q (At m_X12_goOn Q) 0 [some (.ref 130), some (.int v1), some (.int v2)] []) (fun x2 h1 => MetPM m_X12_isLetter [.int x2] h1 (rI (hnd Q (At m_X12_goOn Q) 0 [some (.ref 130), some (.int v1), some (.int v2)] []) (fun x4 h3 => ((x4 = 0 → ((v2 ≤ (nI 8) → At m_X12_goOn Q 239 0 [some (.ref 130), some (.int v1), some (.int v2)] [] (si h3 130 6 (nI 1))) ∧ (¬ v2 ≤ (nI 8) → At m_X12_goOn Q 239 0 [some (.ref 130), some (.int v1), some (.int v2)] [] (si h3 130 6 (nI 4))))) ∧ (¬ x4 = 0 → (((nI 8) ≤ v2 → At m_X12_goOn Q 115 0 [some (.ref 130), some (.int v1), some (.int v2)] [] h3) ∧ (¬ (nI 8) ≤ v2 → MetPM m_X12_here [.ref 130, .int v2] h3 (rI (hnd Q (At m_X12_goOn Q) 0 [some (.ref 130), some (.int v1), some (.int v2)] []) (fun x6 h5 => (let h7 : PH := (sl h5 130 12 (((gl h3 130 12) <<< ((nI 5).toInt64 &&& 63)) ||| (((x6 - (nI 97)) + (nI 1)).toInt64))); At m_X12_goOn Q 115 0 [some (.ref 130), some (.int v1), some (.int v2)] [] h7)))))))))))) :
    At m_X12_goOn Q 76 0 [some (.ref 130), some (.int v1), some (.int v2)] [] h := by
  exact vg_ok k_X12_goOn (stops := [0, 20, 76, 115, 146, 182, 239]) 186 76 0 _ _ h T
set_option maxRecDepth 100000 in
set_option maxHeartbeats 4000000 in
theorem u_X12_goOn_115 {v1 : Int32} {v2 : Int32} {h : PH} {Q : Res → PH → Prop}
    (T : At m_X12_goOn Q 76 0 [some (.ref 130), some (.int v1), some (.int (v2 + (nI 1)))] [] h) :
    At m_X12_goOn Q 115 0 [some (.ref 130), some (.int v1), some (.int v2)] [] h := by
  exact vg_ok k_X12_goOn (stops := [0, 20, 76, 115, 146, 182, 239]) 186 115 0 _ _ h T
set_option maxRecDepth 100000 in
set_option maxHeartbeats 4000000 in
theorem u_X12_goOn_146 {v1 : Int32} {v2 : Int32} {h : PH} {Q : Res → PH → Prop}
    (T : MetPM m_X12_here [.ref 130, .int v2] h (rI (hnd Q (At m_X12_goOn Q) 0 [some (.ref 130), some (.int v1), some (.int v2)] []) (fun x2 h1 => MetPM m_X12_isDigit [.int x2] h1 (rI (hnd Q (At m_X12_goOn Q) 0 [some (.ref 130), some (.int v1), some (.int v2)] []) (fun x4 h3 => ((x4 = 0 → ((v2 ≤ (nI 3) → At m_X12_goOn Q 239 0 [some (.ref 130), some (.int v1), some (.int v2)] [] (si h3 130 6 (nI 2))) ∧ (¬ v2 ≤ (nI 3) → At m_X12_goOn Q 239 0 [some (.ref 130), some (.int v1), some (.int v2)] [] (si h3 130 6 (nI 4))))) ∧ (¬ x4 = 0 → (((nI 3) ≤ v2 → At m_X12_goOn Q 182 0 [some (.ref 130), some (.int v1), some (.int v2)] [] h3) ∧ (¬ (nI 3) ≤ v2 → MetPM m_X12_here [.ref 130, .int v2] h3 (rI (hnd Q (At m_X12_goOn Q) 0 [some (.ref 130), some (.int v1), some (.int v2)] []) (fun x6 h5 => At m_X12_goOn Q 182 0 [some (.ref 130), some (.int v1), some (.int v2)] [] (si h5 130 7 ((((nI 10) * (gi h3 130 7)) + x6) - (nI 48)))))))))))))) :
    At m_X12_goOn Q 146 0 [some (.ref 130), some (.int v1), some (.int v2)] [] h := by
  exact vg_ok k_X12_goOn (stops := [0, 20, 76, 115, 146, 182, 239]) 186 146 0 _ _ h T
set_option maxRecDepth 100000 in
set_option maxHeartbeats 4000000 in
theorem u_X12_goOn_182 {v1 : Int32} {v2 : Int32} {h : PH} {Q : Res → PH → Prop}
    (T : At m_X12_goOn Q 146 0 [some (.ref 130), some (.int v1), some (.int (v2 + (nI 1)))] [] h) :
    At m_X12_goOn Q 182 0 [some (.ref 130), some (.int v1), some (.int v2)] [] h := by
  exact vg_ok k_X12_goOn (stops := [0, 20, 76, 115, 146, 182, 239]) 186 182 0 _ _ h T
set_option maxRecDepth 100000 in
set_option maxHeartbeats 4000000 in
theorem u_X12_goOn_239 {v1 : Int32} {v2 : Int32} {h : PH} {Q : Res → PH → Prop}
    (T : Q (.inl none) (si h 130 4 ((gi h 130 4) + v2))) :
    At m_X12_goOn Q 239 0 [some (.ref 130), some (.int v1), some (.int v2)] [] h := by
  exact vg_ok k_X12_goOn (stops := [0, 20, 76, 115, 146, 182, 239]) 186 239 0 _ _ h T
set_option maxRecDepth 100000 in
set_option maxHeartbeats 4000000 in
theorem t_X12_beginsText {h : PH} {Q : Res → PH → Prop}
    (T : (let h1 : PH := (si (si (si (si (si h 130 3 (gi h 130 2)) 130 2 (nI 0)) 130 4 (nI 0)) 130 8 (nI 0)) 130 9 (-(nI 1))); MetPM m_X12_goOn [.ref 130] h1 (rV (hnd Q (At m_X12_beginsText Q) 0 [some (.ref 130)] []) (fun h2 => Q (.inl none) h2)))) :
    MetPM m_X12_beginsText [.ref 130] h Q := by
  exact met_of o_X12_beginsText (Nat.le_of_ble_eq_true rfl) (fun q => absurd rfl q) (vg_ok k_X12_beginsText (stops := []) 69 0 0 _ [] h T)
set_option maxRecDepth 100000 in
set_option maxHeartbeats 4000000 in
theorem t_X12_laysAside {h : PH} {Q : Res → PH → Prop}
    (T : At m_X12_laysAside Q 2 0 [some (.ref 130), some (.int (nI 0))] [] h) :
    MetPM m_X12_laysAside [.ref 130] h Q := by
  exact met_of o_X12_laysAside (Nat.le_of_ble_eq_true rfl) (fun q => absurd rfl q) (vg_ok k_X12_laysAside (stops := [2]) 66 0 0 _ [] h T)
set_option maxRecDepth 100000 in
set_option maxHeartbeats 4000000 in
theorem u_X12_laysAside_2 {v1 : Int32} {h : PH} {Q : Res → PH → Prop}
    (T : (((nI 253) ≤ v1 → Q (.inl none) h) ∧ (¬ (nI 253) ≤ v1 → (vp_in v1 253 ∧ (vp_in v1 253 ∧ At m_X12_laysAside Q 2 0 [some (.ref 130), some (.int (v1 + (nI 1)))] [] (si h 135 v1.toNatClampNeg (gi h 132 v1.toNatClampNeg))))))) :
    At m_X12_laysAside Q 2 0 [some (.ref 130), some (.int v1)] [] h := by
  exact vg_ok k_X12_laysAside (stops := [2]) 66 2 0 _ _ h T
set_option maxRecDepth 100000 in
set_option maxHeartbeats 4000000 in
theorem t_X12_clears {h : PH} {Q : Res → PH → Prop}
    (T : At m_X12_clears Q 2 0 [some (.ref 130), some (.int (nI 0))] [] h) :
    MetPM m_X12_clears [.ref 130] h Q := by
  exact met_of o_X12_clears (Nat.le_of_ble_eq_true rfl) (fun q => absurd rfl q) (vg_ok k_X12_clears (stops := [2, 25]) 105 0 0 _ [] h T)
set_option maxRecDepth 100000 in
set_option maxHeartbeats 4000000 in
theorem u_X12_clears_2 {v1 : Int32} {h : PH} {Q : Res → PH → Prop}
    (T : (((nI 253) ≤ v1 → At m_X12_clears Q 25 0 [some (.ref 130), some (.int (nI 44))] [] h) ∧ (¬ (nI 253) ≤ v1 → (vp_in v1 253 ∧ At m_X12_clears Q 2 0 [some (.ref 130), some (.int (v1 + (nI 1)))] [] (si h 132 v1.toNatClampNeg (nI 0)))))) :
    At m_X12_clears Q 2 0 [some (.ref 130), some (.int v1)] [] h := by
  exact vg_ok k_X12_clears (stops := [2, 25]) 105 2 0 _ _ h T
set_option maxRecDepth 100000 in
set_option maxHeartbeats 4000000 in
theorem u_X12_clears_25 {v1 : Int32} {h : PH} {Q : Res → PH → Prop}
    (T : (((nI 49) ≤ v1 → (vp_in (nI 5) 253 ∧ (vp_in (nI 6) 253 ∧ (vp_in (nI 7) 253 ∧ (let h1 : PH := (si (si (si h 132 (nI 5).toNatClampNeg (nI 1)) 132 (nI 6).toNatClampNeg (nI 1)) 132 (nI 7).toNatClampNeg (nI 1)); (vp_in (nI 8) 253 ∧ (vp_in (nI 9) 253 ∧ (vp_in (nI 10) 253 ∧ (let h2 : PH := (si (si (si h1 132 (nI 8).toNatClampNeg (nI 5)) 132 (nI 9).toNatClampNeg (nI 10)) 132 (nI 10).toNatClampNeg (nI 50)); Q (.inl none) h2))))))))) ∧ (¬ (nI 49) ≤ v1 → (vp_in v1 253 ∧ At m_X12_clears Q 25 0 [some (.ref 130), some (.int (v1 + (nI 1)))] [] (si h 132 v1.toNatClampNeg (-(nI 1))))))) :
    At m_X12_clears Q 25 0 [some (.ref 130), some (.int v1)] [] h := by
  exact vg_ok k_X12_clears (stops := [2, 25]) 105 25 0 _ _ h T
set_option maxRecDepth 100000 in
set_option maxHeartbeats 4000000 in
theorem t_X12_isGood {h : PH} {Q : Res → PH → Prop}
    (T : ((¬ (gi h 130 8) = 0 → (isB (nI 0) ∧ Q (.inl (some (.int (nI 0)))) h)) ∧ ((gi h 130 8) = 0 → (isB (nI 1) ∧ Q (.inl (some (.int (nI 1)))) h)))) :
    MetPM m_X12_isGood [.ref 130] h Q := by
  exact met_of o_X12_isGood (Nat.le_of_ble_eq_true rfl) (fun q => absurd rfl q) (vg_ok k_X12_isGood (stops := []) 57 0 0 _ [] h T)
set_option maxRecDepth 100000 in
set_option maxHeartbeats 4000000 in
theorem t_X12_isWord {p0 : Int64} {h : PH} {Q : Res → PH → Prop}
    (T : ((¬ (gi h 130 8) = 0 → (isB (nI 0) ∧ Q (.inl (some (.int (nI 0)))) h)) ∧ ((gi h 130 8) = 0 → ((¬ (gi h 130 6) = (nI 1) → (isB (nI 0) ∧ Q (.inl (some (.int (nI 0)))) h)) ∧ ((gi h 130 6) = (nI 1) → ((¬ (lg_cmp (gl h 130 12) p0) = 0 → (isB (nI 0) ∧ Q (.inl (some (.int (nI 0)))) h)) ∧ ((lg_cmp (gl h 130 12) p0) = 0 → (isB (nI 1) ∧ Q (.inl (some (.int (nI 1)))) h)))))))) :
    MetPM m_X12_isWord [.ref 130, .long p0] h Q := by
  exact met_of o_X12_isWord (Nat.le_of_ble_eq_true rfl) (fun q => absurd rfl q) (vg_ok k_X12_isWord (stops := []) 66 0 0 _ [] h T)
set_option maxRecDepth 100000 in
set_option maxHeartbeats 4000000 in
theorem t_X12_wrong {p0 : Int32} {h : PH} {Q : Res → PH → Prop}
    (T : (((gi h 130 8) ≤ 0 → ((¬ (gi h 130 6) = (nI 4) → Q (.inl none) (si (si h 130 8 p0) 130 9 (gi (si h 130 8 p0) 130 5))) ∧ ((gi h 130 6) = (nI 4) → Q (.inl none) (si (si h 130 8 (nI 1)) 130 9 (gi (si h 130 8 (nI 1)) 130 5))))) ∧ (¬ (gi h 130 8) ≤ 0 → Q (.inl none) h))) :
    MetPM m_X12_wrong [.ref 130, .int p0] h Q := by
  exact met_of o_X12_wrong (Nat.le_of_ble_eq_true rfl) (fun q => absurd rfl q) (vg_ok k_X12_wrong (stops := []) 68 0 0 _ [] h T)
set_option maxRecDepth 100000 in
set_option maxHeartbeats 4000000 in
theorem t_X12_named {p0 : Int32} {p1 : Int32} {h : PH} {Q : Res → PH → Prop}
    (T : At m_X12_named Q 5 0 [some (.ref 130), some (.int p0), some (.int p1), some (.int (-(nI 1))), some (.int (nI 0))] [] h) :
    MetPM m_X12_named [.ref 130, .int p0, .int p1] h Q := by
  exact met_of o_X12_named (Nat.le_of_ble_eq_true rfl) (fun q => absurd rfl q) (vg_ok k_X12_named (stops := [5]) 75 0 0 _ [] h T)
set_option maxRecDepth 100000 in
set_option maxHeartbeats 4000000 in
theorem u_X12_named_5 {v1 : Int32} {v2 : Int32} {v3 : Int32} {v4 : Int32} {h : PH} {Q : Res → PH → Prop}
    (T : ((v2 ≤ v4 → Q (.inl (some (.int v3))) h) ∧ (¬ v2 ≤ v4 → (vp_in (v1 + v4) 25 ∧ ((¬ (lg_cmp (gl h 137 (v1 + v4).toNatClampNeg) (gl h 130 12)) = 0 → At m_X12_named Q 5 0 [some (.ref 130), some (.int v1), some (.int v2), some (.int v3), some (.int (v4 + (nI 1)))] [] h) ∧ ((lg_cmp (gl h 137 (v1 + v4).toNatClampNeg) (gl h 130 12)) = 0 → At m_X12_named Q 5 0 [some (.ref 130), some (.int v1), some (.int v2), some (.int v4), some (.int (v4 + (nI 1)))] [] h)))))) :
    At m_X12_named Q 5 0 [some (.ref 130), some (.int v1), some (.int v2), some (.int v3), some (.int v4)] [] h := by
  exact vg_ok k_X12_named (stops := [5]) 75 5 0 _ _ h T
set_option maxRecDepth 100000 in
set_option maxHeartbeats 4000000 in
theorem t_X12_newName {p0 : Int32} {p1 : Int32} {p2 : Int32} {h : PH} {Q : Res → PH → Prop}
    (T : ((¬ p1 = p2 → At m_X12_newName Q 11 0 [some (.ref 130), some (.int p0), some (.int p1), some (.int p2)] [] h) ∧ (p1 = p2 → MetPM m_X12_wrong [.ref 130, .int (nI 6)] h (rV (hnd Q (At m_X12_newName Q) 0 [some (.ref 130), some (.int p0), some (.int p1), some (.int p2)] []) (fun h1 => At m_X12_newName Q 11 0 [some (.ref 130), some (.int p0), some (.int p1), some (.int p2)] [] h1))))) :
    MetPM m_X12_newName [.ref 130, .int p0, .int p1, .int p2] h Q := by
  exact met_of o_X12_newName (Nat.le_of_ble_eq_true rfl) (fun q => absurd rfl q) (vg_ok k_X12_newName (stops := [11, 22, 42, 64]) 98 0 0 _ [] h T)
set_option maxRecDepth 100000 in
set_option maxHeartbeats 4000000 in
theorem u_X12_newName_11 {v1 : Int32} {v2 : Int32} {v3 : Int32} {h : PH} {Q : Res → PH → Prop}
    (T : MetPM m_X12_isGood [.ref 130] h (rI (hnd Q (At m_X12_newName Q) 0 [some (.ref 130), some (.int v1), some (.int v2), some (.int v3)] []) (fun x2 h1 => ((x2 = 0 → At m_X12_newName Q 22 0 [some (.ref 130), some (.int v1), some (.int v2), some (.int v3)] [] h1) ∧ (¬ x2 = 0 → MetPM m_X12_goOn [.ref 130] h1 (rV (hnd Q (At m_X12_newName Q) 0 [some (.ref 130), some (.int v1), some (.int v2), some (.int v3)] []) (fun h3 => At m_X12_newName Q 22 0 [some (.ref 130), some (.int v1), some (.int v2), some (.int v3)] [] h3))))))) :
    At m_X12_newName Q 11 0 [some (.ref 130), some (.int v1), some (.int v2), some (.int v3)] [] h := by
  exact vg_ok k_X12_newName (stops := [11, 22, 42, 64]) 98 11 0 _ _ h T
set_option maxRecDepth 100000 in
set_option maxHeartbeats 4000000 in
theorem u_X12_newName_22 {v1 : Int32} {v2 : Int32} {v3 : Int32} {h : PH} {Q : Res → PH → Prop}
    (T : MetPM m_X12_isGood [.ref 130] h (rI (hnd Q (At m_X12_newName Q) 0 [some (.ref 130), some (.int v1), some (.int v2), some (.int v3)] []) (fun x2 h1 => ((x2 = 0 → At m_X12_newName Q 42 0 [some (.ref 130), some (.int v1), some (.int v2), some (.int v3)] [] h1) ∧ (¬ x2 = 0 → (((gi h1 130 6) = (nI 1) → At m_X12_newName Q 42 0 [some (.ref 130), some (.int v1), some (.int v2), some (.int v3)] [] h1) ∧ (¬ (gi h1 130 6) = (nI 1) → MetPM m_X12_wrong [.ref 130, .int (nI 1)] h1 (rV (hnd Q (At m_X12_newName Q) 0 [some (.ref 130), some (.int v1), some (.int v2), some (.int v3)] []) (fun h3 => At m_X12_newName Q 42 0 [some (.ref 130), some (.int v1), some (.int v2), some (.int v3)] [] h3))))))))) :
    At m_X12_newName Q 22 0 [some (.ref 130), some (.int v1), some (.int v2), some (.int v3)] [] h := by
  exact vg_ok k_X12_newName (stops := [11, 22, 42, 64]) 98 22 0 _ _ h T
set_option maxRecDepth 100000 in
set_option maxHeartbeats 4000000 in
theorem u_X12_newName_42 {v1 : Int32} {v2 : Int32} {v3 : Int32} {h : PH} {Q : Res → PH → Prop}
    (T : MetPM m_X12_isGood [.ref 130] h (rI (hnd Q (At m_X12_newName Q) 0 [some (.ref 130), some (.int v1), some (.int v2), some (.int v3)] []) (fun x2 h1 => ((x2 = 0 → At m_X12_newName Q 64 0 [some (.ref 130), some (.int v1), some (.int v2), some (.int v3)] [] h1) ∧ (¬ x2 = 0 → MetPM m_X12_named [.ref 130, .int v1, .int v2] h1 (rI (hnd Q (At m_X12_newName Q) 0 [some (.ref 130), some (.int v1), some (.int v2), some (.int v3)] []) (fun x4 h3 => ((x4 = (-(nI 1)) → At m_X12_newName Q 64 0 [some (.ref 130), some (.int v1), some (.int v2), some (.int v3)] [] h3) ∧ (¬ x4 = (-(nI 1)) → MetPM m_X12_wrong [.ref 130, .int (nI 3)] h3 (rV (hnd Q (At m_X12_newName Q) 0 [some (.ref 130), some (.int v1), some (.int v2), some (.int v3)] []) (fun h5 => At m_X12_newName Q 64 0 [some (.ref 130), some (.int v1), some (.int v2), some (.int v3)] [] h5))))))))))) :
    At m_X12_newName Q 42 0 [some (.ref 130), some (.int v1), some (.int v2), some (.int v3)] [] h := by
  exact vg_ok k_X12_newName (stops := [11, 22, 42, 64]) 98 42 0 _ _ h T
set_option maxRecDepth 100000 in
set_option maxHeartbeats 4000000 in
theorem u_X12_newName_64 {v1 : Int32} {v2 : Int32} {v3 : Int32} {h : PH} {Q : Res → PH → Prop}
    (T : MetPM m_X12_isGood [.ref 130] h (rI (hnd Q (At m_X12_newName Q) 0 [some (.ref 130), some (.int v1), some (.int v2), some (.int v3)] []) (fun x2 h1 => ((¬ x2 = 0 → (vp_in (v1 + v2) 25 ∧ MetPM m_X12_goOn [.ref 130] (sl h1 137 (v1 + v2).toNatClampNeg (gl h1 130 12)) (rV (hnd Q (At m_X12_newName Q) 0 [some (.ref 130), some (.int v1), some (.int v2), some (.int v3)] []) (fun h3 => Q (.inl none) h3)))) ∧ (x2 = 0 → Q (.inl none) h1))))) :
    At m_X12_newName Q 64 0 [some (.ref 130), some (.int v1), some (.int v2), some (.int v3)] [] h := by
  exact vg_ok k_X12_newName (stops := [11, 22, 42, 64]) 98 64 0 _ _ h T
set_option maxRecDepth 100000 in
set_option maxHeartbeats 4000000 in
theorem t_X12_number {p0 : Int32} {p1 : Int32} {h : PH} {Q : Res → PH → Prop}
    (T : MetPM m_X12_isGood [.ref 130] h (rI (hnd Q (At m_X12_number Q) 0 [some (.ref 130), some (.int p0), some (.int p1), none] []) (fun x2 h1 => ((x2 = 0 → At m_X12_number Q 20 0 [some (.ref 130), some (.int p0), some (.int p1), none] [] h1) ∧ (¬ x2 = 0 → (((gi h1 130 6) = (nI 2) → At m_X12_number Q 20 0 [some (.ref 130), some (.int p0), some (.int p1), none] [] h1) ∧ (¬ (gi h1 130 6) = (nI 2) → MetPM m_X12_wrong [.ref 130, .int (nI 1)] h1 (rV (hnd Q (At m_X12_number Q) 0 [some (.ref 130), some (.int p0), some (.int p1), none] []) (fun h3 => At m_X12_number Q 20 0 [some (.ref 130), some (.int p0), some (.int p1), none] [] h3))))))))) :
    MetPM m_X12_number [.ref 130, .int p0, .int p1] h Q := by
  exact met_of o_X12_number (Nat.le_of_ble_eq_true rfl) (fun q => absurd rfl q) (vg_ok k_X12_number (stops := [20, 49, 60]) 84 0 0 _ [] h T)
set_option maxRecDepth 100000 in
set_option maxHeartbeats 4000000 in
theorem u_X12_number_20 {v1 : Int32} {v2 : Int32} {h : PH} {Q : Res → PH → Prop}
    (T : MetPM m_X12_isGood [.ref 130] h (rI (hnd Q (At m_X12_number Q) 0 [some (.ref 130), some (.int v1), some (.int v2), some (.int (gi h 130 7))] []) (fun x2 h1 => ((x2 = 0 → At m_X12_number Q 49 0 [some (.ref 130), some (.int v1), some (.int v2), some (.int (gi h 130 7))] [] h1) ∧ (¬ x2 = 0 → MetPM m_X12_isIn [.long ((gi h 130 7).toInt64), .long (v1.toInt64), .long (v2.toInt64)] h1 (rI (hnd Q (At m_X12_number Q) 0 [some (.ref 130), some (.int v1), some (.int v2), some (.int (gi h 130 7))] []) (fun x4 h3 => ((¬ x4 = 0 → At m_X12_number Q 49 0 [some (.ref 130), some (.int v1), some (.int v2), some (.int (gi h 130 7))] [] h3) ∧ (x4 = 0 → MetPM m_X12_wrong [.ref 130, .int (nI 2)] h3 (rV (hnd Q (At m_X12_number Q) 0 [some (.ref 130), some (.int v1), some (.int v2), some (.int (gi h 130 7))] []) (fun h5 => At m_X12_number Q 49 0 [some (.ref 130), some (.int v1), some (.int v2), some (.int (gi h 130 7))] [] h5))))))))))) :
    At m_X12_number Q 20 0 [some (.ref 130), some (.int v1), some (.int v2), none] [] h := by
  exact vg_ok k_X12_number (stops := [20, 49, 60]) 84 20 0 _ _ h T
set_option maxRecDepth 100000 in
set_option maxHeartbeats 4000000 in
theorem u_X12_number_49 {v1 : Int32} {v2 : Int32} {v3 : Int32} {h : PH} {Q : Res → PH → Prop}
    (T : MetPM m_X12_isGood [.ref 130] h (rI (hnd Q (At m_X12_number Q) 0 [some (.ref 130), some (.int v1), some (.int v2), some (.int v3)] []) (fun x2 h1 => ((x2 = 0 → At m_X12_number Q 60 0 [some (.ref 130), some (.int v1), some (.int v2), some (.int v3)] [] h1) ∧ (¬ x2 = 0 → MetPM m_X12_goOn [.ref 130] h1 (rV (hnd Q (At m_X12_number Q) 0 [some (.ref 130), some (.int v1), some (.int v2), some (.int v3)] []) (fun h3 => At m_X12_number Q 60 0 [some (.ref 130), some (.int v1), some (.int v2), some (.int v3)] [] h3))))))) :
    At m_X12_number Q 49 0 [some (.ref 130), some (.int v1), some (.int v2), some (.int v3)] [] h := by
  exact vg_ok k_X12_number (stops := [20, 49, 60]) 84 49 0 _ _ h T
set_option maxRecDepth 100000 in
set_option maxHeartbeats 4000000 in
theorem u_X12_number_60 {v1 : Int32} {v2 : Int32} {v3 : Int32} {h : PH} {Q : Res → PH → Prop}
    (T : Q (.inl (some (.int v3))) h) :
    At m_X12_number Q 60 0 [some (.ref 130), some (.int v1), some (.int v2), some (.int v3)] [] h := by
  exact vg_ok k_X12_number (stops := [20, 49, 60]) 84 60 0 _ _ h T
set_option maxRecDepth 100000 in
set_option maxHeartbeats 4000000 in
theorem t_X12_readsVersion {h : PH} {Q : Res → PH → Prop}
    (T : (vp_in (nI 0) 253 ∧ MetPM m_X12_newName [.ref 130, .int (nI 0), .int (gi h 132 (nI 0).toNatClampNeg), .int (nI 8)] h (rV (hnd Q (At m_X12_readsVersion Q) 0 [some (.ref 130), none, none] []) (fun h1 => MetPM m_X12_number [.ref 130, .int (nI 1), .int (nI 9)] h1 (rI (hnd Q (At m_X12_readsVersion Q) 0 [some (.ref 130), none, none] []) (fun x3 h2 => MetPM m_X12_number [.ref 130, .int x3, .int (nI 9)] h2 (rI (hnd Q (At m_X12_readsVersion Q) 0 [some (.ref 130), some (.int x3), none] []) (fun x5 h4 => MetPM m_X12_isGood [.ref 130] h4 (rI (hnd Q (At m_X12_readsVersion Q) 0 [some (.ref 130), some (.int x3), some (.int x5)] []) (fun x7 h6 => ((¬ x7 = 0 → (vp_in (nI 0) 253 ∧ (vp_in ((nI 20) + (gi h6 132 (nI 0).toNatClampNeg)) 253 ∧ (vp_in (nI 0) 253 ∧ (let y8 : Int32 := (gi (si h6 132 ((nI 20) + (gi h6 132 (nI 0).toNatClampNeg)).toNatClampNeg x3) 132 (nI 0).toNatClampNeg); (vp_in ((nI 28) + y8) 253 ∧ (let h9 : PH := (si (si h6 132 ((nI 20) + (gi h6 132 (nI 0).toNatClampNeg)).toNatClampNeg x3) 132 ((nI 28) + y8).toNatClampNeg x5); (vp_in (nI 0) 253 ∧ (vp_in (nI 0) 253 ∧ Q (.inl none) (si h9 132 (nI 0).toNatClampNeg ((gi h9 132 (nI 0).toNatClampNeg) + (nI 1)))))))))))) ∧ (x7 = 0 → Q (.inl none) h6)))))))))))) :
    MetPM m_X12_readsVersion [.ref 130] h Q := by
  exact met_of o_X12_readsVersion (Nat.le_of_ble_eq_true rfl) (fun q => absurd rfl q) (vg_ok k_X12_readsVersion (stops := []) 101 0 0 _ [] h T)
set_option maxRecDepth 100000 in
set_option maxHeartbeats 4000000 in
theorem t_X12_seenName {p0 : Int32} {p1 : Int32} {h : PH} {Q : Res → PH → Prop}
    (T : MetPM m_X12_isGood [.ref 130] h (rI (hnd Q (At m_X12_seenName Q) 0 [some (.ref 130), some (.int p0), some (.int p1), none] []) (fun x2 h1 => ((x2 = 0 → At m_X12_seenName Q 20 0 [some (.ref 130), some (.int p0), some (.int p1), none] [] h1) ∧ (¬ x2 = 0 → (((gi h1 130 6) = (nI 1) → At m_X12_seenName Q 20 0 [some (.ref 130), some (.int p0), some (.int p1), none] [] h1) ∧ (¬ (gi h1 130 6) = (nI 1) → MetPM m_X12_wrong [.ref 130, .int (nI 1)] h1 (rV (hnd Q (At m_X12_seenName Q) 0 [some (.ref 130), some (.int p0), some (.int p1), none] []) (fun h3 => At m_X12_seenName Q 20 0 [some (.ref 130), some (.int p0), some (.int p1), none] [] h3))))))))) :
    MetPM m_X12_seenName [.ref 130, .int p0, .int p1] h Q := by
  exact met_of o_X12_seenName (Nat.le_of_ble_eq_true rfl) (fun q => absurd rfl q) (vg_ok k_X12_seenName (stops := [20, 44]) 76 0 0 _ [] h T)
set_option maxRecDepth 100000 in
set_option maxHeartbeats 4000000 in
theorem u_X12_seenName_20 {v1 : Int32} {v2 : Int32} {h : PH} {Q : Res → PH → Prop}
    (T : MetPM m_X12_named [.ref 130, .int v1, .int v2] h (rI (hnd Q (At m_X12_seenName Q) 0 [some (.ref 130), some (.int v1), some (.int v2), none] []) (fun x2 h1 => MetPM m_X12_isGood [.ref 130] h1 (rI (hnd Q (At m_X12_seenName Q) 0 [some (.ref 130), some (.int v1), some (.int v2), some (.int x2)] []) (fun x4 h3 => ((x4 = 0 → At m_X12_seenName Q 44 0 [some (.ref 130), some (.int v1), some (.int v2), some (.int x2)] [] h3) ∧ (¬ x4 = 0 → ((¬ x2 = (-(nI 1)) → At m_X12_seenName Q 44 0 [some (.ref 130), some (.int v1), some (.int v2), some (.int x2)] [] h3) ∧ (x2 = (-(nI 1)) → MetPM m_X12_wrong [.ref 130, .int (nI 3)] h3 (rV (hnd Q (At m_X12_seenName Q) 0 [some (.ref 130), some (.int v1), some (.int v2), some (.int x2)] []) (fun h5 => At m_X12_seenName Q 44 0 [some (.ref 130), some (.int v1), some (.int v2), some (.int x2)] [] h5))))))))))) :
    At m_X12_seenName Q 20 0 [some (.ref 130), some (.int v1), some (.int v2), none] [] h := by
  exact vg_ok k_X12_seenName (stops := [20, 44]) 76 20 0 _ _ h T
set_option maxRecDepth 100000 in
set_option maxHeartbeats 4000000 in
theorem u_X12_seenName_44 {v1 : Int32} {v2 : Int32} {v3 : Int32} {h : PH} {Q : Res → PH → Prop}
    (T : Q (.inl (some (.int v3))) h) :
    At m_X12_seenName Q 44 0 [some (.ref 130), some (.int v1), some (.int v2), some (.int v3)] [] h := by
  exact vg_ok k_X12_seenName (stops := [20, 44]) 76 44 0 _ _ h T
set_option maxRecDepth 100000 in
set_option maxHeartbeats 4000000 in
theorem t_X12_told {p0 : Int32} {p1 : Int32} {h : PH} {Q : Res → PH → Prop}
    (T : MetPM m_X12_seenName [.ref 130, .int p0, .int p1] h (rI (hnd Q (At m_X12_told Q) 0 [some (.ref 130), some (.int p0), some (.int p1), none] []) (fun x2 h1 => MetPM m_X12_isGood [.ref 130] h1 (rI (hnd Q (At m_X12_told Q) 0 [some (.ref 130), some (.int p0), some (.int p1), some (.int x2)] []) (fun x4 h3 => ((x4 = 0 → Q (.inl (some (.int x2))) h3) ∧ (¬ x4 = 0 → MetPM m_X12_goOn [.ref 130] h3 (rV (hnd Q (At m_X12_told Q) 0 [some (.ref 130), some (.int p0), some (.int p1), some (.int x2)] []) (fun h5 => Q (.inl (some (.int x2))) h5))))))))) :
    MetPM m_X12_told [.ref 130, .int p0, .int p1] h Q := by
  exact met_of o_X12_told (Nat.le_of_ble_eq_true rfl) (fun q => absurd rfl q) (vg_ok k_X12_told (stops := []) 62 0 0 _ [] h T)
set_option maxRecDepth 100000 in
set_option maxHeartbeats 4000000 in
theorem t_X12_toldVersion {h : PH} {Q : Res → PH → Prop}
    (T : (vp_in (nI 0) 253 ∧ MetPM m_X12_told [.ref 130, .int (nI 0), .int (gi h 132 (nI 0).toNatClampNeg)] h (rI (hnd Q (At m_X12_toldVersion Q) 0 [some (.ref 130)] []) (fun x2 h1 => Q (.inl (some (.int x2))) h1)))) :
    MetPM m_X12_toldVersion [.ref 130] h Q := by
  exact met_of o_X12_toldVersion (Nat.le_of_ble_eq_true rfl) (fun q => absurd rfl q) (vg_ok k_X12_toldVersion (stops := []) 58 0 0 _ [] h T)
set_option maxRecDepth 100000 in
set_option maxHeartbeats 4000000 in
theorem t_X12_hasBit {p0 : Int32} {p1 : Int32} {h : PH} {Q : Res → PH → Prop}
    (T : ((¬ ((p0 >>> (p1 &&& 31)) &&& (nI 1)) = (nI 1) → (isB (nI 0) ∧ Q (.inl (some (.int (nI 0)))) h)) ∧ (((p0 >>> (p1 &&& 31)) &&& (nI 1)) = (nI 1) → (isB (nI 1) ∧ Q (.inl (some (.int (nI 1)))) h)))) :
    MetPM m_X12_hasBit [.int p0, .int p1] h Q := by
  exact met_of o_X12_hasBit (Nat.le_of_ble_eq_true rfl) (fun q => absurd rfl q) (vg_ok k_X12_hasBit (stops := []) 61 0 0 _ [] h T)
set_option maxRecDepth 100000 in
set_option maxHeartbeats 4000000 in
theorem t_X12_talk {p0 : Int32} {p1 : Int32} {h : PH} {Q : Res → PH → Prop}
    (T : ((p0 = p1 → (isB (nI 1) ∧ Q (.inl (some (.int (nI 1)))) h)) ∧ (¬ p0 = p1 → (vp_in ((nI 36) + p0) 253 ∧ MetPM m_X12_hasBit [.int (gi h 132 ((nI 36) + p0).toNatClampNeg), .int p1] h (rI (hnd Q (At m_X12_talk Q) 0 [some (.ref 130), some (.int p0), some (.int p1)] []) (fun x2 h1 => ((x2 = 0 → (isB (nI 0) ∧ Q (.inl (some (.int (nI 0)))) h1)) ∧ (¬ x2 = 0 → (isB (nI 1) ∧ Q (.inl (some (.int (nI 1)))) h1))))))))) :
    MetPM m_X12_talk [.ref 130, .int p0, .int p1] h Q := by
  exact met_of o_X12_talk (Nat.le_of_ble_eq_true rfl) (fun q => absurd rfl q) (vg_ok k_X12_talk (stops := []) 66 0 0 _ [] h T)
set_option maxRecDepth 100000 in
set_option maxHeartbeats 4000000 in
theorem t_X12_readsTalks {h : PH} {Q : Res → PH → Prop}
    (T : MetPM m_X12_goOn [.ref 130] h (rV (hnd Q (At m_X12_readsTalks Q) 0 [some (.ref 130), none, none] []) (fun h1 => MetPM m_X12_toldVersion [.ref 130] h1 (rI (hnd Q (At m_X12_readsTalks Q) 0 [some (.ref 130), none, none] []) (fun x3 h2 => (vp_in (nI 0) 253 ∧ MetPM m_X12_seenName [.ref 130, .int (nI 0), .int (gi h2 132 (nI 0).toNatClampNeg)] h2 (rI (hnd Q (At m_X12_readsTalks Q) 0 [some (.ref 130), some (.int x3), none] []) (fun x5 h4 => MetPM m_X12_isGood [.ref 130] h4 (rI (hnd Q (At m_X12_readsTalks Q) 0 [some (.ref 130), some (.int x3), some (.int x5)] []) (fun x7 h6 => ((x7 = 0 → At m_X12_readsTalks Q 38 0 [some (.ref 130), some (.int x3), some (.int x5)] [] h6) ∧ (¬ x7 = 0 → ((¬ x3 = x5 → At m_X12_readsTalks Q 38 0 [some (.ref 130), some (.int x3), some (.int x5)] [] h6) ∧ (x3 = x5 → MetPM m_X12_wrong [.ref 130, .int (nI 3)] h6 (rV (hnd Q (At m_X12_readsTalks Q) 0 [some (.ref 130), some (.int x3), some (.int x5)] []) (fun h8 => At m_X12_readsTalks Q 38 0 [some (.ref 130), some (.int x3), some (.int x5)] [] h8)))))))))))))))) :
    MetPM m_X12_readsTalks [.ref 130] h Q := by
  exact met_of o_X12_readsTalks (Nat.le_of_ble_eq_true rfl) (fun q => absurd rfl q) (vg_ok k_X12_readsTalks (stops := [38, 59]) 114 0 0 _ [] h T)
set_option maxRecDepth 100000 in
set_option maxHeartbeats 4000000 in
theorem u_X12_readsTalks_38 {v1 : Int32} {v2 : Int32} {h : PH} {Q : Res → PH → Prop}
    (T : MetPM m_X12_isGood [.ref 130] h (rI (hnd Q (At m_X12_readsTalks Q) 0 [some (.ref 130), some (.int v1), some (.int v2)] []) (fun x2 h1 => ((x2 = 0 → At m_X12_readsTalks Q 59 0 [some (.ref 130), some (.int v1), some (.int v2)] [] h1) ∧ (¬ x2 = 0 → MetPM m_X12_talk [.ref 130, .int v1, .int v2] h1 (rI (hnd Q (At m_X12_readsTalks Q) 0 [some (.ref 130), some (.int v1), some (.int v2)] []) (fun x4 h3 => ((x4 = 0 → At m_X12_readsTalks Q 59 0 [some (.ref 130), some (.int v1), some (.int v2)] [] h3) ∧ (¬ x4 = 0 → MetPM m_X12_wrong [.ref 130, .int (nI 4)] h3 (rV (hnd Q (At m_X12_readsTalks Q) 0 [some (.ref 130), some (.int v1), some (.int v2)] []) (fun h5 => At m_X12_readsTalks Q 59 0 [some (.ref 130), some (.int v1), some (.int v2)] [] h5))))))))))) :
    At m_X12_readsTalks Q 38 0 [some (.ref 130), some (.int v1), some (.int v2)] [] h := by
  exact vg_ok k_X12_readsTalks (stops := [38, 59]) 114 38 0 _ _ h T
set_option maxRecDepth 100000 in
set_option maxHeartbeats 4000000 in
theorem u_X12_readsTalks_59 {v1 : Int32} {v2 : Int32} {h : PH} {Q : Res → PH → Prop}
    (T : MetPM m_X12_isGood [.ref 130] h (rI (hnd Q (At m_X12_readsTalks Q) 0 [some (.ref 130), some (.int v1), some (.int v2)] []) (fun x2 h1 => ((¬ x2 = 0 → MetPM m_X12_goOn [.ref 130] h1 (rV (hnd Q (At m_X12_readsTalks Q) 0 [some (.ref 130), some (.int v1), some (.int v2)] []) (fun h3 => (vp_in ((nI 36) + v1) 253 ∧ (vp_in ((nI 36) + v1) 253 ∧ (let h4 : PH := (si h3 132 ((nI 36) + v1).toNatClampNeg ((gi h3 132 ((nI 36) + v1).toNatClampNeg) ||| ((nI 1) <<< (v2 &&& 31)))); (vp_in ((nI 36) + v2) 253 ∧ (vp_in ((nI 36) + v2) 253 ∧ (let h5 : PH := (si h4 132 ((nI 36) + v2).toNatClampNeg ((gi h4 132 ((nI 36) + v2).toNatClampNeg) ||| ((nI 1) <<< (v1 &&& 31)))); Q (.inl none) h5))))))))) ∧ (x2 = 0 → Q (.inl none) h1))))) :
    At m_X12_readsTalks Q 59 0 [some (.ref 130), some (.int v1), some (.int v2)] [] h := by
  exact vg_ok k_X12_readsTalks (stops := [38, 59]) 114 59 0 _ _ h T
set_option maxRecDepth 100000 in
set_option maxHeartbeats 4000000 in
theorem t_X12_readsPlace {h : PH} {Q : Res → PH → Prop}
    (T : (vp_in (nI 1) 253 ∧ MetPM m_X12_newName [.ref 130, .int (nI 8), .int (gi h 132 (nI 1).toNatClampNeg), .int (nI 5)] h (rV (hnd Q (At m_X12_readsPlace Q) 0 [some (.ref 130)] []) (fun h1 => (vp_in (nI 1) 253 ∧ MetPM m_X12_isGood [.ref 130] h1 (rI (hnd Q (At m_X12_readsPlace Q) 0 [some (.ref 130)] []) (fun x3 h2 => MetPM m_X12_truth [.int x3] h2 (rI (hnd Q (At m_X12_readsPlace Q) 0 [some (.ref 130)] []) (fun x5 h4 => (vp_in (nI 1) 253 ∧ Q (.inl none) (si h4 132 (nI 1).toNatClampNeg ((gi h1 132 (nI 1).toNatClampNeg) + x5)))))))))))) :
    MetPM m_X12_readsPlace [.ref 130] h Q := by
  exact met_of o_X12_readsPlace (Nat.le_of_ble_eq_true rfl) (fun q => absurd rfl q) (vg_ok k_X12_readsPlace (stops := []) 69 0 0 _ [] h T)
set_option maxRecDepth 100000 in
set_option maxHeartbeats 4000000 in
theorem t_X12_reads {p0 : Int32} {p1 : Int32} {h : PH} {Q : Res → PH → Prop}
    (T : (vp_in ((nI 20) + p0) 253 ∧ (vp_in ((nI 28) + p0) 253 ∧ MetPM m_X12_isIn [.long (p1.toInt64), .long ((gi h 132 ((nI 20) + p0).toNatClampNeg).toInt64), .long ((gi h 132 ((nI 28) + p0).toNatClampNeg).toInt64)] h (rI (hnd Q (At m_X12_reads Q) 0 [some (.ref 130), some (.int p0), some (.int p1)] []) (fun x2 h1 => (isB x2 ∧ Q (.inl (some (.int x2))) h1)))))) :
    MetPM m_X12_reads [.ref 130, .int p0, .int p1] h Q := by
  exact met_of o_X12_reads (Nat.le_of_ble_eq_true rfl) (fun q => absurd rfl q) (vg_ok k_X12_reads (stops := []) 68 0 0 _ [] h T)
set_option maxRecDepth 100000 in
set_option maxHeartbeats 4000000 in
theorem t_X12_of {p0 : Int32} {p1 : Int32} {h : PH} {Q : Res → PH → Prop}
    (T : (vp_in (((nI 49) + ((nI 7) * p0)) + p1) 253 ∧ Q (.inl (some (.int (gi h 132 (((nI 49) + ((nI 7) * p0)) + p1).toNatClampNeg)))) h)) :
    MetPM m_X12_of [.ref 130, .int p0, .int p1] h Q := by
  exact met_of o_X12_of (Nat.le_of_ble_eq_true rfl) (fun q => absurd rfl q) (vg_ok k_X12_of (stops := []) 61 0 0 _ [] h T)
set_option maxRecDepth 100000 in
set_option maxHeartbeats 4000000 in
theorem t_X12_apart {p0 : Int32} {p1 : Int32} {h : PH} {Q : Res → PH → Prop}
    (T : ((p0 ≤ p1 → Q (.inl (some (.int (p1 - p0)))) h) ∧ (¬ p0 ≤ p1 → Q (.inl (some (.int (p0 - p1)))) h))) :
    MetPM m_X12_apart [.int p0, .int p1] h Q := by
  exact met_of o_X12_apart (Nat.le_of_ble_eq_true rfl) (fun q => absurd rfl q) (vg_ok k_X12_apart (stops := []) 61 0 0 _ [] h T)
set_option maxRecDepth 100000 in
set_option maxHeartbeats 4000000 in
theorem t_X12_mayBe {p0 : Int32} {p1 : Int32} {h : PH} {Q : Res → PH → Prop}
    (T : (vp_in (nI 5) 253 ∧ MetPM m_X12_reads [.ref 130, .int p1, .int (gi h 132 (nI 5).toNatClampNeg)] h (rI (hnd Q (At m_X12_mayBe Q) 0 [some (.ref 130), some (.int p0), some (.int p1), none, none, none] []) (fun x2 h1 => At m_X12_mayBe Q 15 0 [some (.ref 130), some (.int p0), some (.int p1), some (.int x2), some (.int (nI 0)), none] [] h1)))) :
    MetPM m_X12_mayBe [.ref 130, .int p0, .int p1] h Q := by
  exact met_of o_X12_mayBe (Nat.le_of_ble_eq_true rfl) (fun q => absurd rfl q) (vg_ok k_X12_mayBe (stops := [15, 76, 80]) 100 0 0 _ [] h T)
set_option maxRecDepth 100000 in
set_option maxHeartbeats 4000000 in
theorem u_X12_mayBe_15 {v1 : Int32} {v2 : Int32} {v3 : Int32} {v4 : Int32} {o5 : Option Value} {h : PH} {Q : Res → PH → Prop}
    (T : (vp_in (nI 2) 253 ∧ (((gi h 132 (nI 2).toNatClampNeg) ≤ v4 → (isB v3 ∧ Q (.inl (some (.int v3))) h)) ∧ (¬ (gi h 132 (nI 2).toNatClampNeg) ≤ v4 → MetPM m_X12_of [.ref 130, .int v4, .int (nI 1)] h (rI (hnd Q (At m_X12_mayBe Q) 0 [some (.ref 130), some (.int v1), some (.int v2), some (.int v3), some (.int v4), o5] []) (fun x2 h1 => ((v3 = 0 → At m_X12_mayBe Q 80 0 [some (.ref 130), some (.int v1), some (.int v2), some (.int v3), some (.int v4), some (.int x2)] [] h1) ∧ (¬ v3 = 0 → MetPM m_X12_apart [.int v2, .int x2] h1 (rI (hnd Q (At m_X12_mayBe Q) 0 [some (.ref 130), some (.int v1), some (.int v2), some (.int v3), some (.int v4), some (.int x2)] []) (fun x4 h3 => (vp_in (nI 6) 253 ∧ (((gi h3 132 (nI 6).toNatClampNeg) < x4 → At m_X12_mayBe Q 80 0 [some (.ref 130), some (.int v1), some (.int v2), some (.int v3), some (.int v4), some (.int x2)] [] h3) ∧ (¬ (gi h3 132 (nI 6).toNatClampNeg) < x4 → MetPM m_X12_of [.ref 130, .int v4, .int (nI 0)] h3 (rI (hnd Q (At m_X12_mayBe Q) 0 [some (.ref 130), some (.int v1), some (.int v2), some (.int v3), some (.int v4), some (.int x2)] []) (fun x6 h5 => ((¬ x6 = v1 → At m_X12_mayBe Q 76 0 [some (.ref 130), some (.int v1), some (.int v2), some (.int v3), some (.int v4), some (.int x2)] [] h5) ∧ (x6 = v1 → MetPM m_X12_talk [.ref 130, .int v2, .int x2] h5 (rI (hnd Q (At m_X12_mayBe Q) 0 [some (.ref 130), some (.int v1), some (.int v2), some (.int v3), some (.int v4), some (.int x2)] []) (fun x8 h7 => ((x8 = 0 → At m_X12_mayBe Q 80 0 [some (.ref 130), some (.int v1), some (.int v2), some (.int v3), some (.int v4), some (.int x2)] [] h7) ∧ (¬ x8 = 0 → At m_X12_mayBe Q 76 0 [some (.ref 130), some (.int v1), some (.int v2), some (.int v3), some (.int v4), some (.int x2)] [] h7))))))))))))))))))))) :
    At m_X12_mayBe Q 15 0 [some (.ref 130), some (.int v1), some (.int v2), some (.int v3), some (.int v4), o5] [] h := by
  exact vg_ok k_X12_mayBe (stops := [15, 76, 80]) 100 15 0 _ _ h T
set_option maxRecDepth 100000 in
set_option maxHeartbeats 4000000 in
theorem u_X12_mayBe_76 {v1 : Int32} {v2 : Int32} {v3 : Int32} {v4 : Int32} {v5 : Int32} {h : PH} {Q : Res → PH → Prop}
    (T : At m_X12_mayBe Q 15 0 [some (.ref 130), some (.int v1), some (.int v2), some (.int (nI 1)), some (.int (v4 + (nI 1))), some (.int v5)] [] h) :
    At m_X12_mayBe Q 76 0 [some (.ref 130), some (.int v1), some (.int v2), some (.int v3), some (.int v4), some (.int v5)] [] h := by
  exact vg_ok k_X12_mayBe (stops := [15, 76, 80]) 100 76 0 _ _ h T
set_option maxRecDepth 100000 in
set_option maxHeartbeats 4000000 in
theorem u_X12_mayBe_80 {v1 : Int32} {v2 : Int32} {v3 : Int32} {v4 : Int32} {v5 : Int32} {h : PH} {Q : Res → PH → Prop}
    (T : At m_X12_mayBe Q 15 0 [some (.ref 130), some (.int v1), some (.int v2), some (.int (nI 0)), some (.int (v4 + (nI 1))), some (.int v5)] [] h) :
    At m_X12_mayBe Q 80 0 [some (.ref 130), some (.int v1), some (.int v2), some (.int v3), some (.int v4), some (.int v5)] [] h := by
  exact vg_ok k_X12_mayBe (stops := [15, 76, 80]) 100 80 0 _ _ h T
set_option maxRecDepth 100000 in
set_option maxHeartbeats 4000000 in
theorem t_X12_lays {p0 : Int32} {p1 : Int32} {p2 : Int32} {h : PH} {Q : Res → PH → Prop}
    (T : (vp_in (((nI 49) + ((nI 7) * p0)) + p1) 253 ∧ Q (.inl none) (si h 132 (((nI 49) + ((nI 7) * p0)) + p1).toNatClampNeg p2))) :
    MetPM m_X12_lays [.ref 130, .int p0, .int p1, .int p2] h Q := by
  exact met_of o_X12_lays (Nat.le_of_ble_eq_true rfl) (fun q => absurd rfl q) (vg_ok k_X12_lays (stops := []) 62 0 0 _ [] h T)
set_option maxRecDepth 100000 in
set_option maxHeartbeats 4000000 in
theorem t_X12_readsMember {h : PH} {Q : Res → PH → Prop}
    (T : (vp_in (nI 2) 253 ∧ MetPM m_X12_newName [.ref 130, .int (nI 13), .int (gi h 132 (nI 2).toNatClampNeg), .int (nI 12)] h (rV (hnd Q (At m_X12_readsMember Q) 0 [some (.ref 130), none, none, none, none] []) (fun h1 => (vp_in (nI 1) 253 ∧ MetPM m_X12_told [.ref 130, .int (nI 8), .int (gi h1 132 (nI 1).toNatClampNeg)] h1 (rI (hnd Q (At m_X12_readsMember Q) 0 [some (.ref 130), none, none, none, none] []) (fun x3 h2 => (vp_in (nI 0) 253 ∧ MetPM m_X12_seenName [.ref 130, .int (nI 0), .int (gi h2 132 (nI 0).toNatClampNeg)] h2 (rI (hnd Q (At m_X12_readsMember Q) 0 [some (.ref 130), some (.int x3), none, none, none] []) (fun x5 h4 => MetPM m_X12_isGood [.ref 130] h4 (rI (hnd Q (At m_X12_readsMember Q) 0 [some (.ref 130), some (.int x3), some (.int x5), none, none] []) (fun x7 h6 => ((x7 = 0 → At m_X12_readsMember Q 60 0 [some (.ref 130), some (.int x3), some (.int x5), none, none] [] h6) ∧ (¬ x7 = 0 → MetPM m_X12_mayBe [.ref 130, .int x3, .int x5] h6 (rI (hnd Q (At m_X12_readsMember Q) 0 [some (.ref 130), some (.int x3), some (.int x5), none, none] []) (fun x9 h8 => ((¬ x9 = 0 → At m_X12_readsMember Q 60 0 [some (.ref 130), some (.int x3), some (.int x5), none, none] [] h8) ∧ (x9 = 0 → MetPM m_X12_wrong [.ref 130, .int (nI 5)] h8 (rV (hnd Q (At m_X12_readsMember Q) 0 [some (.ref 130), some (.int x3), some (.int x5), none, none] []) (fun h10 => At m_X12_readsMember Q 60 0 [some (.ref 130), some (.int x3), some (.int x5), none, none] [] h10)))))))))))))))))))) :
    MetPM m_X12_readsMember [.ref 130] h Q := by
  exact met_of o_X12_readsMember (Nat.le_of_ble_eq_true rfl) (fun q => absurd rfl q) (vg_ok k_X12_readsMember (stops := [60, 71, 87]) 142 0 0 _ [] h T)
set_option maxRecDepth 100000 in
set_option maxHeartbeats 4000000 in
theorem u_X12_readsMember_60 {v1 : Int32} {v2 : Int32} {h : PH} {Q : Res → PH → Prop}
    (T : MetPM m_X12_isGood [.ref 130] h (rI (hnd Q (At m_X12_readsMember Q) 0 [some (.ref 130), some (.int v1), some (.int v2), none, none] []) (fun x2 h1 => ((x2 = 0 → At m_X12_readsMember Q 71 0 [some (.ref 130), some (.int v1), some (.int v2), none, none] [] h1) ∧ (¬ x2 = 0 → MetPM m_X12_goOn [.ref 130] h1 (rV (hnd Q (At m_X12_readsMember Q) 0 [some (.ref 130), some (.int v1), some (.int v2), none, none] []) (fun h3 => At m_X12_readsMember Q 71 0 [some (.ref 130), some (.int v1), some (.int v2), none, none] [] h3))))))) :
    At m_X12_readsMember Q 60 0 [some (.ref 130), some (.int v1), some (.int v2), none, none] [] h := by
  exact vg_ok k_X12_readsMember (stops := [60, 71, 87]) 142 60 0 _ _ h T
set_option maxRecDepth 100000 in
set_option maxHeartbeats 4000000 in
theorem u_X12_readsMember_71 {v1 : Int32} {v2 : Int32} {h : PH} {Q : Res → PH → Prop}
    (T : MetPM m_X12_isWord [.ref 130, .long (lN 267652)] h (rI (hnd Q (At m_X12_readsMember Q) 0 [some (.ref 130), some (.int v1), some (.int v2), none, none] []) (fun x2 h1 => ((x2 = 0 → At m_X12_readsMember Q 87 0 [some (.ref 130), some (.int v1), some (.int v2), some (.int x2), none] [] h1) ∧ (¬ x2 = 0 → MetPM m_X12_goOn [.ref 130] h1 (rV (hnd Q (At m_X12_readsMember Q) 0 [some (.ref 130), some (.int v1), some (.int v2), some (.int x2), none] []) (fun h3 => At m_X12_readsMember Q 87 0 [some (.ref 130), some (.int v1), some (.int v2), some (.int x2), none] [] h3))))))) :
    At m_X12_readsMember Q 71 0 [some (.ref 130), some (.int v1), some (.int v2), none, none] [] h := by
  exact vg_ok k_X12_readsMember (stops := [60, 71, 87]) 142 71 0 _ _ h T
set_option maxRecDepth 100000 in
set_option maxHeartbeats 4000000 in
theorem u_X12_readsMember_87 {v1 : Int32} {v2 : Int32} {v3 : Int32} {h : PH} {Q : Res → PH → Prop}
    (T : MetPM m_X12_isGood [.ref 130] h (rI (hnd Q (At m_X12_readsMember Q) 0 [some (.ref 130), some (.int v1), some (.int v2), some (.int v3), none] []) (fun x2 h1 => ((¬ x2 = 0 → (vp_in (nI 2) 253 ∧ MetPM m_X12_lays [.ref 130, .int (gi h1 132 (nI 2).toNatClampNeg), .int (nI 0), .int v1] h1 (rV (hnd Q (At m_X12_readsMember Q) 0 [some (.ref 130), some (.int v1), some (.int v2), some (.int v3), some (.int (gi h1 132 (nI 2).toNatClampNeg))] []) (fun h3 => MetPM m_X12_lays [.ref 130, .int (gi h1 132 (nI 2).toNatClampNeg), .int (nI 1), .int v2] h3 (rV (hnd Q (At m_X12_readsMember Q) 0 [some (.ref 130), some (.int v1), some (.int v2), some (.int v3), some (.int (gi h1 132 (nI 2).toNatClampNeg))] []) (fun h4 => MetPM m_X12_lays [.ref 130, .int (gi h1 132 (nI 2).toNatClampNeg), .int (nI 2), .int (-(nI 1))] h4 (rV (hnd Q (At m_X12_readsMember Q) 0 [some (.ref 130), some (.int v1), some (.int v2), some (.int v3), some (.int (gi h1 132 (nI 2).toNatClampNeg))] []) (fun h5 => MetPM m_X12_lays [.ref 130, .int (gi h1 132 (nI 2).toNatClampNeg), .int (nI 3), .int (-(nI 1))] h5 (rV (hnd Q (At m_X12_readsMember Q) 0 [some (.ref 130), some (.int v1), some (.int v2), some (.int v3), some (.int (gi h1 132 (nI 2).toNatClampNeg))] []) (fun h6 => MetPM m_X12_truth [.int v3] h6 (rI (hnd Q (At m_X12_readsMember Q) 0 [some (.ref 130), some (.int v1), some (.int v2), some (.int v3), some (.int (gi h1 132 (nI 2).toNatClampNeg))] []) (fun x8 h7 => MetPM m_X12_lays [.ref 130, .int (gi h1 132 (nI 2).toNatClampNeg), .int (nI 5), .int x8] h7 (rV (hnd Q (At m_X12_readsMember Q) 0 [some (.ref 130), some (.int v1), some (.int v2), some (.int v3), some (.int (gi h1 132 (nI 2).toNatClampNeg))] []) (fun h9 => (vp_in (nI 2) 253 ∧ (vp_in (nI 2) 253 ∧ Q (.inl none) (si h9 132 (nI 2).toNatClampNeg ((gi h9 132 (nI 2).toNatClampNeg) + (nI 1))))))))))))))))))) ∧ (x2 = 0 → Q (.inl none) h1))))) :
    At m_X12_readsMember Q 87 0 [some (.ref 130), some (.int v1), some (.int v2), some (.int v3), none] [] h := by
  exact vg_ok k_X12_readsMember (stops := [60, 71, 87]) 142 87 0 _ _ h T
set_option maxRecDepth 100000 in
set_option maxHeartbeats 4000000 in
theorem t_X12_toldMember {h : PH} {Q : Res → PH → Prop}
    (T : (vp_in (nI 2) 253 ∧ MetPM m_X12_told [.ref 130, .int (nI 13), .int (gi h 132 (nI 2).toNatClampNeg)] h (rI (hnd Q (At m_X12_toldMember Q) 0 [some (.ref 130)] []) (fun x2 h1 => Q (.inl (some (.int x2))) h1)))) :
    MetPM m_X12_toldMember [.ref 130] h Q := by
  exact met_of o_X12_toldMember (Nat.le_of_ble_eq_true rfl) (fun q => absurd rfl q) (vg_ok k_X12_toldMember (stops := []) 58 0 0 _ [] h T)
set_option maxRecDepth 100000 in
set_option maxHeartbeats 4000000 in
theorem t_X12_readsLink {h : PH} {Q : Res → PH → Prop}
    (T : (vp_in (nI 4) 253 ∧ ((¬ (gi h 132 (nI 4).toNatClampNeg) = (nI 20) → At m_X12_readsLink Q 17 0 [some (.ref 130), none, none] [] h) ∧ ((gi h 132 (nI 4).toNatClampNeg) = (nI 20) → MetPM m_X12_wrong [.ref 130, .int (nI 6)] h (rV (hnd Q (At m_X12_readsLink Q) 0 [some (.ref 130), none, none] []) (fun h1 => At m_X12_readsLink Q 17 0 [some (.ref 130), none, none] [] h1)))))) :
    MetPM m_X12_readsLink [.ref 130] h Q := by
  exact met_of o_X12_readsLink (Nat.le_of_ble_eq_true rfl) (fun q => absurd rfl q) (vg_ok k_X12_readsLink (stops := [17, 28, 73, 99, 130]) 159 0 0 _ [] h T)
set_option maxRecDepth 100000 in
set_option maxHeartbeats 4000000 in
theorem u_X12_readsLink_17 {h : PH} {Q : Res → PH → Prop}
    (T : MetPM m_X12_isGood [.ref 130] h (rI (hnd Q (At m_X12_readsLink Q) 0 [some (.ref 130), none, none] []) (fun x2 h1 => ((x2 = 0 → At m_X12_readsLink Q 28 0 [some (.ref 130), none, none] [] h1) ∧ (¬ x2 = 0 → MetPM m_X12_goOn [.ref 130] h1 (rV (hnd Q (At m_X12_readsLink Q) 0 [some (.ref 130), none, none] []) (fun h3 => At m_X12_readsLink Q 28 0 [some (.ref 130), none, none] [] h3))))))) :
    At m_X12_readsLink Q 17 0 [some (.ref 130), none, none] [] h := by
  exact vg_ok k_X12_readsLink (stops := [17, 28, 73, 99, 130]) 159 17 0 _ _ h T
set_option maxRecDepth 100000 in
set_option maxHeartbeats 4000000 in
theorem u_X12_readsLink_28 {h : PH} {Q : Res → PH → Prop}
    (T : MetPM m_X12_toldMember [.ref 130] h (rI (hnd Q (At m_X12_readsLink Q) 0 [some (.ref 130), none, none] []) (fun x2 h1 => (vp_in (nI 2) 253 ∧ MetPM m_X12_seenName [.ref 130, .int (nI 13), .int (gi h1 132 (nI 2).toNatClampNeg)] h1 (rI (hnd Q (At m_X12_readsLink Q) 0 [some (.ref 130), some (.int x2), none] []) (fun x4 h3 => MetPM m_X12_isGood [.ref 130] h3 (rI (hnd Q (At m_X12_readsLink Q) 0 [some (.ref 130), some (.int x2), some (.int x4)] []) (fun x6 h5 => ((x6 = 0 → At m_X12_readsLink Q 73 0 [some (.ref 130), some (.int x2), some (.int x4)] [] h5) ∧ (¬ x6 = 0 → MetPM m_X12_of [.ref 130, .int x2, .int (nI 0)] h5 (rI (hnd Q (At m_X12_readsLink Q) 0 [some (.ref 130), some (.int x2), some (.int x4)] []) (fun x8 h7 => MetPM m_X12_of [.ref 130, .int x4, .int (nI 0)] h7 (rI (hnd Q (At m_X12_readsLink Q) 0 [some (.ref 130), some (.int x2), some (.int x4)] []) (fun x10 h9 => ((¬ x8 = x10 → At m_X12_readsLink Q 73 0 [some (.ref 130), some (.int x2), some (.int x4)] [] h9) ∧ (x8 = x10 → MetPM m_X12_wrong [.ref 130, .int (nI 3)] h9 (rV (hnd Q (At m_X12_readsLink Q) 0 [some (.ref 130), some (.int x2), some (.int x4)] []) (fun h11 => At m_X12_readsLink Q 73 0 [some (.ref 130), some (.int x2), some (.int x4)] [] h11)))))))))))))))))) :
    At m_X12_readsLink Q 28 0 [some (.ref 130), none, none] [] h := by
  exact vg_ok k_X12_readsLink (stops := [17, 28, 73, 99, 130]) 159 28 0 _ _ h T
set_option maxRecDepth 100000 in
set_option maxHeartbeats 4000000 in
theorem u_X12_readsLink_73 {v1 : Int32} {v2 : Int32} {h : PH} {Q : Res → PH → Prop}
    (T : MetPM m_X12_isGood [.ref 130] h (rI (hnd Q (At m_X12_readsLink Q) 0 [some (.ref 130), some (.int v1), some (.int v2)] []) (fun x2 h1 => ((x2 = 0 → At m_X12_readsLink Q 99 0 [some (.ref 130), some (.int v1), some (.int v2)] [] h1) ∧ (¬ x2 = 0 → MetPM m_X12_of [.ref 130, .int v1, .int (nI 6)] h1 (rI (hnd Q (At m_X12_readsLink Q) 0 [some (.ref 130), some (.int v1), some (.int v2)] []) (fun x4 h3 => MetPM m_X12_hasBit [.int x4, .int v2] h3 (rI (hnd Q (At m_X12_readsLink Q) 0 [some (.ref 130), some (.int v1), some (.int v2)] []) (fun x6 h5 => ((x6 = 0 → At m_X12_readsLink Q 99 0 [some (.ref 130), some (.int v1), some (.int v2)] [] h5) ∧ (¬ x6 = 0 → MetPM m_X12_wrong [.ref 130, .int (nI 4)] h5 (rV (hnd Q (At m_X12_readsLink Q) 0 [some (.ref 130), some (.int v1), some (.int v2)] []) (fun h7 => At m_X12_readsLink Q 99 0 [some (.ref 130), some (.int v1), some (.int v2)] [] h7))))))))))))) :
    At m_X12_readsLink Q 73 0 [some (.ref 130), some (.int v1), some (.int v2)] [] h := by
  exact vg_ok k_X12_readsLink (stops := [17, 28, 73, 99, 130]) 159 73 0 _ _ h T
set_option maxRecDepth 100000 in
set_option maxHeartbeats 4000000 in
theorem u_X12_readsLink_99 {v1 : Int32} {v2 : Int32} {h : PH} {Q : Res → PH → Prop}
    (T : MetPM m_X12_isGood [.ref 130] h (rI (hnd Q (At m_X12_readsLink Q) 0 [some (.ref 130), some (.int v1), some (.int v2)] []) (fun x2 h1 => ((x2 = 0 → At m_X12_readsLink Q 130 0 [some (.ref 130), some (.int v1), some (.int v2)] [] h1) ∧ (¬ x2 = 0 → MetPM m_X12_of [.ref 130, .int v1, .int (nI 1)] h1 (rI (hnd Q (At m_X12_readsLink Q) 0 [some (.ref 130), some (.int v1), some (.int v2)] []) (fun x4 h3 => MetPM m_X12_of [.ref 130, .int v2, .int (nI 1)] h3 (rI (hnd Q (At m_X12_readsLink Q) 0 [some (.ref 130), some (.int v1), some (.int v2)] []) (fun x6 h5 => MetPM m_X12_talk [.ref 130, .int x4, .int x6] h5 (rI (hnd Q (At m_X12_readsLink Q) 0 [some (.ref 130), some (.int v1), some (.int v2)] []) (fun x8 h7 => ((¬ x8 = 0 → At m_X12_readsLink Q 130 0 [some (.ref 130), some (.int v1), some (.int v2)] [] h7) ∧ (x8 = 0 → MetPM m_X12_wrong [.ref 130, .int (nI 5)] h7 (rV (hnd Q (At m_X12_readsLink Q) 0 [some (.ref 130), some (.int v1), some (.int v2)] []) (fun h9 => At m_X12_readsLink Q 130 0 [some (.ref 130), some (.int v1), some (.int v2)] [] h9))))))))))))))) :
    At m_X12_readsLink Q 99 0 [some (.ref 130), some (.int v1), some (.int v2)] [] h := by
  exact vg_ok k_X12_readsLink (stops := [17, 28, 73, 99, 130]) 159 99 0 _ _ h T
set_option maxRecDepth 100000 in
set_option maxHeartbeats 4000000 in
theorem u_X12_readsLink_130 {v1 : Int32} {v2 : Int32} {h : PH} {Q : Res → PH → Prop}
    (T : MetPM m_X12_isGood [.ref 130] h (rI (hnd Q (At m_X12_readsLink Q) 0 [some (.ref 130), some (.int v1), some (.int v2)] []) (fun x2 h1 => ((¬ x2 = 0 → MetPM m_X12_goOn [.ref 130] h1 (rV (hnd Q (At m_X12_readsLink Q) 0 [some (.ref 130), some (.int v1), some (.int v2)] []) (fun h3 => MetPM m_X12_of [.ref 130, .int v1, .int (nI 6)] h3 (rI (hnd Q (At m_X12_readsLink Q) 0 [some (.ref 130), some (.int v1), some (.int v2)] []) (fun x5 h4 => MetPM m_X12_lays [.ref 130, .int v1, .int (nI 6), .int (x5 ||| ((nI 1) <<< (v2 &&& 31)))] h4 (rV (hnd Q (At m_X12_readsLink Q) 0 [some (.ref 130), some (.int v1), some (.int v2)] []) (fun h6 => MetPM m_X12_of [.ref 130, .int v2, .int (nI 6)] h6 (rI (hnd Q (At m_X12_readsLink Q) 0 [some (.ref 130), some (.int v1), some (.int v2)] []) (fun x8 h7 => MetPM m_X12_lays [.ref 130, .int v2, .int (nI 6), .int (x8 ||| ((nI 1) <<< (v1 &&& 31)))] h7 (rV (hnd Q (At m_X12_readsLink Q) 0 [some (.ref 130), some (.int v1), some (.int v2)] []) (fun h9 => (vp_in (nI 4) 253 ∧ (vp_in (nI 4) 253 ∧ Q (.inl none) (si h9 132 (nI 4).toNatClampNeg ((gi h9 132 (nI 4).toNatClampNeg) + (nI 1)))))))))))))))) ∧ (x2 = 0 → Q (.inl none) h1))))) :
    At m_X12_readsLink Q 130 0 [some (.ref 130), some (.int v1), some (.int v2)] [] h := by
  exact vg_ok k_X12_readsLink (stops := [17, 28, 73, 99, 130]) 159 130 0 _ _ h T
set_option maxRecDepth 100000 in
set_option maxHeartbeats 4000000 in
theorem t_X12_readsWave {h : PH} {Q : Res → PH → Prop}
    (T : (vp_in (nI 3) 253 ∧ ((¬ (gi h 132 (nI 3).toNatClampNeg) = (nI 5) → At m_X12_readsWave Q 16 0 [some (.ref 130), none, none] [] h) ∧ ((gi h 132 (nI 3).toNatClampNeg) = (nI 5) → MetPM m_X12_wrong [.ref 130, .int (nI 6)] h (rV (hnd Q (At m_X12_readsWave Q) 0 [some (.ref 130), none, none] []) (fun h1 => At m_X12_readsWave Q 16 0 [some (.ref 130), none, none] [] h1)))))) :
    MetPM m_X12_readsWave [.ref 130] h Q := by
  exact met_of o_X12_readsWave (Nat.le_of_ble_eq_true rfl) (fun q => absurd rfl q) (vg_ok k_X12_readsWave (stops := [16, 27, 29, 78, 122, 139]) 130 0 0 _ [] h T)
set_option maxRecDepth 100000 in
set_option maxHeartbeats 4000000 in
theorem u_X12_readsWave_16 {h : PH} {Q : Res → PH → Prop}
    (T : MetPM m_X12_isGood [.ref 130] h (rI (hnd Q (At m_X12_readsWave Q) 0 [some (.ref 130), none, none] []) (fun x2 h1 => ((x2 = 0 → At m_X12_readsWave Q 27 0 [some (.ref 130), none, none] [] h1) ∧ (¬ x2 = 0 → MetPM m_X12_goOn [.ref 130] h1 (rV (hnd Q (At m_X12_readsWave Q) 0 [some (.ref 130), none, none] []) (fun h3 => At m_X12_readsWave Q 27 0 [some (.ref 130), none, none] [] h3))))))) :
    At m_X12_readsWave Q 16 0 [some (.ref 130), none, none] [] h := by
  exact vg_ok k_X12_readsWave (stops := [16, 27, 29, 78, 122, 139]) 130 16 0 _ _ h T
set_option maxRecDepth 100000 in
set_option maxHeartbeats 4000000 in
theorem u_X12_readsWave_27 {h : PH} {Q : Res → PH → Prop}
    (T : At m_X12_readsWave Q 29 0 [some (.ref 130), some (.int (nI 1)), none] [] h) :
    At m_X12_readsWave Q 27 0 [some (.ref 130), none, none] [] h := by
  exact vg_ok k_X12_readsWave (stops := [16, 27, 29, 78, 122, 139]) 130 27 0 _ _ h T
set_option maxRecDepth 100000 in
set_option maxHeartbeats 4000000 in
theorem u_X12_readsWave_29 {v1 : Int32} {o2 : Option Value} {h : PH} {Q : Res → PH → Prop}
    (T : ((v1 = 0 → At m_X12_readsWave Q 122 0 [some (.ref 130), some (.int v1), o2] [] h) ∧ (¬ v1 = 0 → MetPM m_X12_isGood [.ref 130] h (rI (hnd Q (At m_X12_readsWave Q) 0 [some (.ref 130), some (.int v1), o2] []) (fun x2 h1 => ((x2 = 0 → At m_X12_readsWave Q 122 0 [some (.ref 130), some (.int v1), o2] [] h1) ∧ (¬ x2 = 0 → (vp_in (nI 1) 253 ∧ MetPM m_X12_seenName [.ref 130, .int (nI 8), .int (gi h1 132 (nI 1).toNatClampNeg)] h1 (rI (hnd Q (At m_X12_readsWave Q) 0 [some (.ref 130), some (.int v1), o2] []) (fun x4 h3 => MetPM m_X12_isGood [.ref 130] h3 (rI (hnd Q (At m_X12_readsWave Q) 0 [some (.ref 130), some (.int v1), some (.int x4)] []) (fun x6 h5 => ((x6 = 0 → At m_X12_readsWave Q 78 0 [some (.ref 130), some (.int v1), some (.int x4)] [] h5) ∧ (¬ x6 = 0 → (vp_in ((nI 44) + x4) 253 ∧ (((gi h5 132 ((nI 44) + x4).toNatClampNeg) = (-(nI 1)) → At m_X12_readsWave Q 78 0 [some (.ref 130), some (.int v1), some (.int x4)] [] h5) ∧ (¬ (gi h5 132 ((nI 44) + x4).toNatClampNeg) = (-(nI 1)) → MetPM m_X12_wrong [.ref 130, .int (nI 4)] h5 (rV (hnd Q (At m_X12_readsWave Q) 0 [some (.ref 130), some (.int v1), some (.int x4)] []) (fun h7 => At m_X12_readsWave Q 78 0 [some (.ref 130), some (.int v1), some (.int x4)] [] h7))))))))))))))))))) :
    At m_X12_readsWave Q 29 0 [some (.ref 130), some (.int v1), o2] [] h := by
  exact vg_ok k_X12_readsWave (stops := [16, 27, 29, 78, 122, 139]) 130 29 0 _ _ h T
set_option maxRecDepth 100000 in
set_option maxHeartbeats 4000000 in
theorem u_X12_readsWave_78 {v1 : Int32} {v2 : Int32} {h : PH} {Q : Res → PH → Prop}
    (T : MetPM m_X12_isGood [.ref 130] h (rI (hnd Q (At m_X12_readsWave Q) 0 [some (.ref 130), some (.int v1), some (.int v2)] []) (fun x2 h1 => ((¬ x2 = 0 → (vp_in (nI 3) 253 ∧ (vp_in ((nI 44) + v2) 253 ∧ MetPM m_X12_goOn [.ref 130] (si h1 132 ((nI 44) + v2).toNatClampNeg (gi h1 132 (nI 3).toNatClampNeg)) (rV (hnd Q (At m_X12_readsWave Q) 0 [some (.ref 130), some (.int v1), some (.int v2)] []) (fun h3 => ((¬ (gi h3 130 6) = (nI 1) → At m_X12_readsWave Q 29 0 [some (.ref 130), some (.int (nI 0)), some (.int v2)] [] h3) ∧ ((gi h3 130 6) = (nI 1) → At m_X12_readsWave Q 29 0 [some (.ref 130), some (.int (nI 1)), some (.int v2)] [] h3))))))) ∧ (x2 = 0 → Q (.inl none) h1))))) :
    At m_X12_readsWave Q 78 0 [some (.ref 130), some (.int v1), some (.int v2)] [] h := by
  exact vg_ok k_X12_readsWave (stops := [16, 27, 29, 78, 122, 139]) 130 78 0 _ _ h T
set_option maxRecDepth 100000 in
set_option maxHeartbeats 4000000 in
theorem u_X12_readsWave_122 {v1 : Int32} {o2 : Option Value} {h : PH} {Q : Res → PH → Prop}
    (T : MetPM m_X12_isGood [.ref 130] h (rI (hnd Q (At m_X12_readsWave Q) 0 [some (.ref 130), some (.int v1), o2] []) (fun x2 h1 => ((x2 = 0 → At m_X12_readsWave Q 139 0 [some (.ref 130), some (.int v1), o2] [] h1) ∧ (¬ x2 = 0 → (vp_in (nI 3) 253 ∧ (vp_in (nI 3) 253 ∧ At m_X12_readsWave Q 139 0 [some (.ref 130), some (.int v1), o2] [] (si h1 132 (nI 3).toNatClampNeg ((gi h1 132 (nI 3).toNatClampNeg) + (nI 1)))))))))) :
    At m_X12_readsWave Q 122 0 [some (.ref 130), some (.int v1), o2] [] h := by
  exact vg_ok k_X12_readsWave (stops := [16, 27, 29, 78, 122, 139]) 130 122 0 _ _ h T
set_option maxRecDepth 100000 in
set_option maxHeartbeats 4000000 in
theorem u_X12_readsWave_139 {v1 : Int32} {o2 : Option Value} {h : PH} {Q : Res → PH → Prop}
    (T : Q (.inl none) h) :
    At m_X12_readsWave Q 139 0 [some (.ref 130), some (.int v1), o2] [] h := by
  exact vg_ok k_X12_readsWave (stops := [16, 27, 29, 78, 122, 139]) 130 139 0 _ _ h T
set_option maxRecDepth 100000 in
set_option maxHeartbeats 4000000 in
theorem t_X12_readsOnce {p0 : Int32} {p1 : Int32} {p2 : Int32} {h : PH} {Q : Res → PH → Prop}
    (T : MetPM m_X12_hasBit [.int (gi h 130 23), .int p0] h (rI (hnd Q (At m_X12_readsOnce Q) 0 [some (.ref 130), some (.int p0), some (.int p1), some (.int p2), none] []) (fun x2 h1 => ((¬ x2 = 0 → At m_X12_readsOnce Q 31 0 [some (.ref 130), some (.int p0), some (.int p1), some (.int p2), none] [] h1) ∧ (x2 = 0 → ((p0 = (nI 5) → At m_X12_readsOnce Q 22 0 [some (.ref 130), some (.int p0), some (.int p1), some (.int p2), none] [] h1) ∧ (¬ p0 = (nI 5) → ((¬ p0 = (nI 6) → At m_X12_readsOnce Q 36 0 [some (.ref 130), some (.int p0), some (.int p1), some (.int p2), none] [] h1) ∧ (p0 = (nI 6) → At m_X12_readsOnce Q 22 0 [some (.ref 130), some (.int p0), some (.int p1), some (.int p2), none] [] h1))))))))) :
    MetPM m_X12_readsOnce [.ref 130, .int p0, .int p1, .int p2] h Q := by
  exact met_of o_X12_readsOnce (Nat.le_of_ble_eq_true rfl) (fun q => absurd rfl q) (vg_ok k_X12_readsOnce (stops := [22, 31, 36, 59, 82]) 96 0 0 _ [] h T)
set_option maxRecDepth 100000 in
set_option maxHeartbeats 4000000 in
theorem u_X12_readsOnce_22 {v1 : Int32} {v2 : Int32} {v3 : Int32} {h : PH} {Q : Res → PH → Prop}
    (T : (vp_in (nI 2) 253 ∧ (((gi h 132 (nI 2).toNatClampNeg) ≤ 0 → At m_X12_readsOnce Q 36 0 [some (.ref 130), some (.int v1), some (.int v2), some (.int v3), none] [] h) ∧ (¬ (gi h 132 (nI 2).toNatClampNeg) ≤ 0 → At m_X12_readsOnce Q 31 0 [some (.ref 130), some (.int v1), some (.int v2), some (.int v3), none] [] h)))) :
    At m_X12_readsOnce Q 22 0 [some (.ref 130), some (.int v1), some (.int v2), some (.int v3), none] [] h := by
  exact vg_ok k_X12_readsOnce (stops := [22, 31, 36, 59, 82]) 96 22 0 _ _ h T
set_option maxRecDepth 100000 in
set_option maxHeartbeats 4000000 in
theorem u_X12_readsOnce_31 {v1 : Int32} {v2 : Int32} {v3 : Int32} {h : PH} {Q : Res → PH → Prop}
    (T : MetPM m_X12_wrong [.ref 130, .int (nI 4)] h (rV (hnd Q (At m_X12_readsOnce Q) 0 [some (.ref 130), some (.int v1), some (.int v2), some (.int v3), none] []) (fun h1 => At m_X12_readsOnce Q 36 0 [some (.ref 130), some (.int v1), some (.int v2), some (.int v3), none] [] h1))) :
    At m_X12_readsOnce Q 31 0 [some (.ref 130), some (.int v1), some (.int v2), some (.int v3), none] [] h := by
  exact vg_ok k_X12_readsOnce (stops := [22, 31, 36, 59, 82]) 96 31 0 _ _ h T
set_option maxRecDepth 100000 in
set_option maxHeartbeats 4000000 in
theorem u_X12_readsOnce_36 {v1 : Int32} {v2 : Int32} {v3 : Int32} {h : PH} {Q : Res → PH → Prop}
    (T : MetPM m_X12_isGood [.ref 130] (si h 130 23 ((gi h 130 23) ||| ((nI 1) <<< (v1 &&& 31)))) (rI (hnd Q (At m_X12_readsOnce Q) 0 [some (.ref 130), some (.int v1), some (.int v2), some (.int v3), none] []) (fun x2 h1 => ((x2 = 0 → At m_X12_readsOnce Q 59 0 [some (.ref 130), some (.int v1), some (.int v2), some (.int v3), none] [] h1) ∧ (¬ x2 = 0 → MetPM m_X12_goOn [.ref 130] h1 (rV (hnd Q (At m_X12_readsOnce Q) 0 [some (.ref 130), some (.int v1), some (.int v2), some (.int v3), none] []) (fun h3 => At m_X12_readsOnce Q 59 0 [some (.ref 130), some (.int v1), some (.int v2), some (.int v3), none] [] h3))))))) :
    At m_X12_readsOnce Q 36 0 [some (.ref 130), some (.int v1), some (.int v2), some (.int v3), none] [] h := by
  exact vg_ok k_X12_readsOnce (stops := [22, 31, 36, 59, 82]) 96 36 0 _ _ h T
set_option maxRecDepth 100000 in
set_option maxHeartbeats 4000000 in
theorem u_X12_readsOnce_59 {v1 : Int32} {v2 : Int32} {v3 : Int32} {h : PH} {Q : Res → PH → Prop}
    (T : MetPM m_X12_number [.ref 130, .int v2, .int v3] h (rI (hnd Q (At m_X12_readsOnce Q) 0 [some (.ref 130), some (.int v1), some (.int v2), some (.int v3), none] []) (fun x2 h1 => MetPM m_X12_isGood [.ref 130] h1 (rI (hnd Q (At m_X12_readsOnce Q) 0 [some (.ref 130), some (.int v1), some (.int v2), some (.int v3), some (.int x2)] []) (fun x4 h3 => ((x4 = 0 → At m_X12_readsOnce Q 82 0 [some (.ref 130), some (.int v1), some (.int v2), some (.int v3), some (.int x2)] [] h3) ∧ (¬ x4 = 0 → (vp_in v1 253 ∧ At m_X12_readsOnce Q 82 0 [some (.ref 130), some (.int v1), some (.int v2), some (.int v3), some (.int x2)] [] (si h3 132 v1.toNatClampNeg x2))))))))) :
    At m_X12_readsOnce Q 59 0 [some (.ref 130), some (.int v1), some (.int v2), some (.int v3), none] [] h := by
  exact vg_ok k_X12_readsOnce (stops := [22, 31, 36, 59, 82]) 96 59 0 _ _ h T
set_option maxRecDepth 100000 in
set_option maxHeartbeats 4000000 in
theorem u_X12_readsOnce_82 {v1 : Int32} {v2 : Int32} {v3 : Int32} {v4 : Int32} {h : PH} {Q : Res → PH → Prop}
    (T : Q (.inl none) h) :
    At m_X12_readsOnce Q 82 0 [some (.ref 130), some (.int v1), some (.int v2), some (.int v3), some (.int v4)] [] h := by
  exact vg_ok k_X12_readsOnce (stops := [22, 31, 36, 59, 82]) 96 82 0 _ _ h T
set_option maxRecDepth 100000 in
set_option maxHeartbeats 4000000 in
theorem t_X12_isSign {p0 : Int32} {h : PH} {Q : Res → PH → Prop}
    (T : ((¬ (gi h 130 8) = 0 → (isB (nI 0) ∧ Q (.inl (some (.int (nI 0)))) h)) ∧ ((gi h 130 8) = 0 → ((¬ (gi h 130 6) = (nI 3) → (isB (nI 0) ∧ Q (.inl (some (.int (nI 0)))) h)) ∧ ((gi h 130 6) = (nI 3) → ((¬ (gi h 130 7) = p0 → (isB (nI 0) ∧ Q (.inl (some (.int (nI 0)))) h)) ∧ ((gi h 130 7) = p0 → (isB (nI 1) ∧ Q (.inl (some (.int (nI 1)))) h)))))))) :
    MetPM m_X12_isSign [.ref 130, .int p0] h Q := by
  exact met_of o_X12_isSign (Nat.le_of_ble_eq_true rfl) (fun q => absurd rfl q) (vg_ok k_X12_isSign (stops := []) 65 0 0 _ [] h T)
set_option maxRecDepth 100000 in
set_option maxHeartbeats 4000000 in
theorem t_X12_mustSign {p0 : Int32} {h : PH} {Q : Res → PH → Prop}
    (T : MetPM m_X12_isGood [.ref 130] h (rI (hnd Q (At m_X12_mustSign Q) 0 [some (.ref 130), some (.int p0)] []) (fun x2 h1 => ((x2 = 0 → MetPM m_X12_isGood [.ref 130] h1 (rI (hnd Q (At m_X12_mustSign Q) 0 [some (.ref 130), some (.int p0)] []) (fun x4 h3 => ((x4 = 0 → Q (.inl none) h3) ∧ (¬ x4 = 0 → MetPM m_X12_goOn [.ref 130] h3 (rV (hnd Q (At m_X12_mustSign Q) 0 [some (.ref 130), some (.int p0)] []) (fun h5 => Q (.inl none) h5))))))) ∧ (¬ x2 = 0 → MetPM m_X12_isSign [.ref 130, .int p0] h1 (rI (hnd Q (At m_X12_mustSign Q) 0 [some (.ref 130), some (.int p0)] []) (fun x7 h6 => ((¬ x7 = 0 → MetPM m_X12_isGood [.ref 130] h6 (rI (hnd Q (At m_X12_mustSign Q) 0 [some (.ref 130), some (.int p0)] []) (fun x9 h8 => ((x9 = 0 → Q (.inl none) h8) ∧ (¬ x9 = 0 → MetPM m_X12_goOn [.ref 130] h8 (rV (hnd Q (At m_X12_mustSign Q) 0 [some (.ref 130), some (.int p0)] []) (fun h10 => Q (.inl none) h10))))))) ∧ (x7 = 0 → MetPM m_X12_wrong [.ref 130, .int (nI 1)] h6 (rV (hnd Q (At m_X12_mustSign Q) 0 [some (.ref 130), some (.int p0)] []) (fun h11 => MetPM m_X12_isGood [.ref 130] h11 (rI (hnd Q (At m_X12_mustSign Q) 0 [some (.ref 130), some (.int p0)] []) (fun x13 h12 => ((x13 = 0 → Q (.inl none) h12) ∧ (¬ x13 = 0 → MetPM m_X12_goOn [.ref 130] h12 (rV (hnd Q (At m_X12_mustSign Q) 0 [some (.ref 130), some (.int p0)] []) (fun h14 => Q (.inl none) h14))))))))))))))))) :
    MetPM m_X12_mustSign [.ref 130, .int p0] h Q := by
  exact met_of o_X12_mustSign (Nat.le_of_ble_eq_true rfl) (fun q => absurd rfl q) (vg_ok k_X12_mustSign (stops := []) 66 0 0 _ [] h T)
set_option maxRecDepth 100000 in
set_option maxHeartbeats 4000000 in
theorem t_X12_statement {h : PH} {Q : Res → PH → Prop}
    (T : MetPM m_X12_isWord [.ref 130, .long (lN 23809598958)] h (rI (hnd Q (At m_X12_statement Q) 0 [some (.ref 130)] []) (fun x2 h1 => ((x2 = 0 → MetPM m_X12_isWord [.ref 130, .long (lN 21016947)] h1 (rI (hnd Q (At m_X12_statement Q) 0 [some (.ref 130)] []) (fun x4 h3 => ((x4 = 0 → MetPM m_X12_isWord [.ref 130, .long (lN 17171557)] h3 (rI (hnd Q (At m_X12_statement Q) 0 [some (.ref 130)] []) (fun x6 h5 => ((x6 = 0 → MetPM m_X12_isWord [.ref 130, .long (lN 441878706)] h5 (rI (hnd Q (At m_X12_statement Q) 0 [some (.ref 130)] []) (fun x8 h7 => ((x8 = 0 → MetPM m_X12_isWord [.ref 130, .long (lN 402891)] h7 (rI (hnd Q (At m_X12_statement Q) 0 [some (.ref 130)] []) (fun x10 h9 => ((x10 = 0 → MetPM m_X12_isWord [.ref 130, .long (lN 755397)] h9 (rI (hnd Q (At m_X12_statement Q) 0 [some (.ref 130)] []) (fun x12 h11 => ((x12 = 0 → MetPM m_X12_isWord [.ref 130, .long (lN 217658420)] h11 (rI (hnd Q (At m_X12_statement Q) 0 [some (.ref 130)] []) (fun x14 h13 => ((x14 = 0 → MetPM m_X12_isWord [.ref 130, .long (lN 634039)] h13 (rI (hnd Q (At m_X12_statement Q) 0 [some (.ref 130)] []) (fun x16 h15 => ((x16 = 0 → MetPM m_X12_isWord [.ref 130, .long (lN 147182)] h15 (rI (hnd Q (At m_X12_statement Q) 0 [some (.ref 130)] []) (fun x18 h17 => ((x18 = 0 → MetPM m_X12_isWord [.ref 130, .long (lN 21015731)] h17 (rI (hnd Q (At m_X12_statement Q) 0 [some (.ref 130)] []) (fun x20 h19 => ((x20 = 0 → MetPM m_X12_isWord [.ref 130, .long (lN 637995)] h19 (rI (hnd Q (At m_X12_statement Q) 0 [some (.ref 130)] []) (fun x22 h21 => ((x22 = 0 → MetPM m_X12_isWord [.ref 130, .long (lN 12891444)] h21 (rI (hnd Q (At m_X12_statement Q) 0 [some (.ref 130)] []) (fun x24 h23 => ((x24 = 0 → MetPM m_X12_wrong [.ref 130, .int (nI 1)] h23 (rV (hnd Q (At m_X12_statement Q) 0 [some (.ref 130)] []) (fun h25 => At m_X12_statement Q 239 0 [some (.ref 130)] [] h25))) ∧ (¬ x24 = 0 → MetPM m_X12_readsOnce [.ref 130, .int (nI 10), .int (nI 0), .int (nI 999)] h23 (rV (hnd Q (At m_X12_statement Q) 0 [some (.ref 130)] []) (fun h26 => At m_X12_statement Q 239 0 [some (.ref 130)] [] h26))))))) ∧ (¬ x22 = 0 → MetPM m_X12_readsOnce [.ref 130, .int (nI 9), .int (nI 0), .int (nI 99)] h21 (rV (hnd Q (At m_X12_statement Q) 0 [some (.ref 130)] []) (fun h27 => At m_X12_statement Q 239 0 [some (.ref 130)] [] h27))))))) ∧ (¬ x20 = 0 → MetPM m_X12_readsOnce [.ref 130, .int (nI 8), .int (nI 1), .int (nI 99)] h19 (rV (hnd Q (At m_X12_statement Q) 0 [some (.ref 130)] []) (fun h28 => At m_X12_statement Q 239 0 [some (.ref 130)] [] h28))))))) ∧ (¬ x18 = 0 → MetPM m_X12_readsOnce [.ref 130, .int (nI 7), .int (nI 1), .int (nI 12)] h17 (rV (hnd Q (At m_X12_statement Q) 0 [some (.ref 130)] []) (fun h29 => At m_X12_statement Q 239 0 [some (.ref 130)] [] h29))))))) ∧ (¬ x16 = 0 → MetPM m_X12_readsOnce [.ref 130, .int (nI 6), .int (nI 0), .int (nI 7)] h15 (rV (hnd Q (At m_X12_statement Q) 0 [some (.ref 130)] []) (fun h30 => At m_X12_statement Q 239 0 [some (.ref 130)] [] h30))))))) ∧ (¬ x14 = 0 → MetPM m_X12_readsOnce [.ref 130, .int (nI 5), .int (nI 1), .int (nI 9)] h13 (rV (hnd Q (At m_X12_statement Q) 0 [some (.ref 130)] []) (fun h31 => At m_X12_statement Q 239 0 [some (.ref 130)] [] h31))))))) ∧ (¬ x12 = 0 → MetPM m_X12_readsWave [.ref 130] h11 (rV (hnd Q (At m_X12_statement Q) 0 [some (.ref 130)] []) (fun h32 => At m_X12_statement Q 239 0 [some (.ref 130)] [] h32))))))) ∧ (¬ x10 = 0 → MetPM m_X12_readsLink [.ref 130] h9 (rV (hnd Q (At m_X12_statement Q) 0 [some (.ref 130)] []) (fun h33 => At m_X12_statement Q 239 0 [some (.ref 130)] [] h33))))))) ∧ (¬ x8 = 0 → MetPM m_X12_readsMember [.ref 130] h7 (rV (hnd Q (At m_X12_statement Q) 0 [some (.ref 130)] []) (fun h34 => At m_X12_statement Q 239 0 [some (.ref 130)] [] h34))))))) ∧ (¬ x6 = 0 → MetPM m_X12_readsPlace [.ref 130] h5 (rV (hnd Q (At m_X12_statement Q) 0 [some (.ref 130)] []) (fun h35 => At m_X12_statement Q 239 0 [some (.ref 130)] [] h35))))))) ∧ (¬ x4 = 0 → MetPM m_X12_readsTalks [.ref 130] h3 (rV (hnd Q (At m_X12_statement Q) 0 [some (.ref 130)] []) (fun h36 => At m_X12_statement Q 239 0 [some (.ref 130)] [] h36))))))) ∧ (¬ x2 = 0 → MetPM m_X12_readsVersion [.ref 130] h1 (rV (hnd Q (At m_X12_statement Q) 0 [some (.ref 130)] []) (fun h37 => At m_X12_statement Q 239 0 [some (.ref 130)] [] h37))))))) :
    MetPM m_X12_statement [.ref 130] h Q := by
  exact met_of o_X12_statement (Nat.le_of_ble_eq_true rfl) (fun q => absurd rfl q) (vg_ok k_X12_statement (stops := [239]) 159 0 0 _ [] h T)
set_option maxRecDepth 100000 in
set_option maxHeartbeats 4000000 in
theorem u_X12_statement_239 {h : PH} {Q : Res → PH → Prop}
    (T : MetPM m_X12_mustSign [.ref 130, .int (nI 59)] h (rV (hnd Q (At m_X12_statement Q) 0 [some (.ref 130)] []) (fun h1 => Q (.inl none) h1))) :
    At m_X12_statement Q 239 0 [some (.ref 130)] [] h := by
  exact vg_ok k_X12_statement (stops := [239]) 159 239 0 _ _ h T
set_option maxRecDepth 100000 in
set_option maxHeartbeats 4000000 in
theorem t_X12_endsText {h : PH} {Q : Res → PH → Prop}
    (T : ((¬ (gi (si (si h 130 10 (gi h 130 8)) 130 11 (gi (si h 130 10 (gi h 130 8)) 130 9)) 130 8) = 0 → MetPM m_X12_goes [.ref 130, .int (nI 0)] (si (si h 130 10 (gi h 130 8)) 130 11 (gi (si h 130 10 (gi h 130 8)) 130 9)) (rI (hnd Q (At m_X12_endsText Q) 0 [some (.ref 130)] []) (fun x2 h1 => (isB x2 ∧ Q (.inl (some (.int x2))) h1)))) ∧ ((gi (si (si h 130 10 (gi h 130 8)) 130 11 (gi (si h 130 10 (gi h 130 8)) 130 9)) 130 8) = 0 → MetPM m_X12_goes [.ref 130, .int (nI 1)] (si (si h 130 10 (gi h 130 8)) 130 11 (gi (si h 130 10 (gi h 130 8)) 130 9)) (rI (hnd Q (At m_X12_endsText Q) 0 [some (.ref 130)] []) (fun x4 h3 => (isB x4 ∧ Q (.inl (some (.int x4))) h3)))))) :
    MetPM m_X12_endsText [.ref 130] h Q := by
  exact met_of o_X12_endsText (Nat.le_of_ble_eq_true rfl) (fun q => absurd rfl q) (vg_ok k_X12_endsText (stops := []) 67 0 0 _ [] h T)
set_option maxRecDepth 100000 in
set_option maxHeartbeats 4000000 in
theorem t_X12_readText {h : PH} {Q : Res → PH → Prop}
    (T : MetPM m_X12_beginsText [.ref 130] h (rV (hnd Q (At m_X12_readText Q) 0 [some (.ref 130), none] []) (fun h1 => MetPM m_X12_laysAside [.ref 130] h1 (rV (hnd Q (At m_X12_readText Q) 0 [some (.ref 130), none] []) (fun h2 => At m_X12_readText Q 10 0 [some (.ref 130), some (.int (nI 0))] [] h2))))) :
    MetPM m_X12_readText [.ref 130] h Q := by
  exact met_of o_X12_readText (Nat.le_of_ble_eq_true rfl) (fun q => absurd rfl q) (vg_ok k_X12_readText (stops := [10, 43, 64, 73, 100]) 126 0 0 _ [] h T)
set_option maxRecDepth 100000 in
set_option maxHeartbeats 4000000 in
theorem u_X12_readText_10 {v1 : Int32} {h : PH} {Q : Res → PH → Prop}
    (T : (((nI 25) ≤ v1 → MetPM m_X12_clears [.ref 130] h (rV (hnd Q (At m_X12_readText Q) 0 [some (.ref 130), some (.int v1)] []) (fun h1 => At m_X12_readText Q 43 0 [some (.ref 130), some (.int v1)] [] (si h1 130 23 (nI 0))))) ∧ (¬ (nI 25) ≤ v1 → (vp_in v1 25 ∧ (vp_in v1 25 ∧ At m_X12_readText Q 10 0 [some (.ref 130), some (.int (v1 + (nI 1)))] [] (sl h 139 v1.toNatClampNeg (gl h 137 v1.toNatClampNeg))))))) :
    At m_X12_readText Q 10 0 [some (.ref 130), some (.int v1)] [] h := by
  exact vg_ok k_X12_readText (stops := [10, 43, 64, 73, 100]) 126 10 0 _ _ h T
set_option maxRecDepth 100000 in
set_option maxHeartbeats 4000000 in
theorem u_X12_readText_43 {v1 : Int32} {h : PH} {Q : Res → PH → Prop}
    (T : MetPM m_X12_isGood [.ref 130] h (rI (hnd Q (At m_X12_readText Q) 0 [some (.ref 130), some (.int v1)] []) (fun x2 h1 => ((x2 = 0 → At m_X12_readText Q 64 0 [some (.ref 130), some (.int v1)] [] h1) ∧ (¬ x2 = 0 → (((gi h1 130 6) = 0 → At m_X12_readText Q 64 0 [some (.ref 130), some (.int v1)] [] h1) ∧ (¬ (gi h1 130 6) = 0 → MetPM m_X12_statement [.ref 130] h1 (rV (hnd Q (At m_X12_readText Q) 0 [some (.ref 130), some (.int v1)] []) (fun h3 => At m_X12_readText Q 43 0 [some (.ref 130), some (.int v1)] [] h3))))))))) :
    At m_X12_readText Q 43 0 [some (.ref 130), some (.int v1)] [] h := by
  exact vg_ok k_X12_readText (stops := [10, 43, 64, 73, 100]) 126 43 0 _ _ h T
set_option maxRecDepth 100000 in
set_option maxHeartbeats 4000000 in
theorem u_X12_readText_64 {v1 : Int32} {h : PH} {Q : Res → PH → Prop}
    (T : MetPM m_X12_endsText [.ref 130] h (rI (hnd Q (At m_X12_readText Q) 0 [some (.ref 130), some (.int v1)] []) (fun x2 h1 => ((¬ x2 = 0 → (vp_in (nI 2) 253 ∧ Q (.inl (some (.int (gi (si h1 130 21 (nI 0)) 132 (nI 2).toNatClampNeg)))) (si h1 130 21 (nI 0)))) ∧ (x2 = 0 → At m_X12_readText Q 73 0 [some (.ref 130), some (.int (nI 0))] [] h1))))) :
    At m_X12_readText Q 64 0 [some (.ref 130), some (.int v1)] [] h := by
  exact vg_ok k_X12_readText (stops := [10, 43, 64, 73, 100]) 126 64 0 _ _ h T
set_option maxRecDepth 100000 in
set_option maxHeartbeats 4000000 in
theorem u_X12_readText_73 {v1 : Int32} {h : PH} {Q : Res → PH → Prop}
    (T : (((nI 253) ≤ v1 → At m_X12_readText Q 100 0 [some (.ref 130), some (.int (nI 0))] [] h) ∧ (¬ (nI 253) ≤ v1 → (vp_in v1 253 ∧ (vp_in v1 253 ∧ At m_X12_readText Q 73 0 [some (.ref 130), some (.int (v1 + (nI 1)))] [] (si h 132 v1.toNatClampNeg (gi h 135 v1.toNatClampNeg))))))) :
    At m_X12_readText Q 73 0 [some (.ref 130), some (.int v1)] [] h := by
  exact vg_ok k_X12_readText (stops := [10, 43, 64, 73, 100]) 126 73 0 _ _ h T
set_option maxRecDepth 100000 in
set_option maxHeartbeats 4000000 in
theorem u_X12_readText_100 {v1 : Int32} {h : PH} {Q : Res → PH → Prop}
    (T : (((nI 25) ≤ v1 → Q (.inl (some (.int (nI 0)))) h) ∧ (¬ (nI 25) ≤ v1 → (vp_in v1 25 ∧ (vp_in v1 25 ∧ At m_X12_readText Q 100 0 [some (.ref 130), some (.int (v1 + (nI 1)))] [] (sl h 137 v1.toNatClampNeg (gl h 139 v1.toNatClampNeg))))))) :
    At m_X12_readText Q 100 0 [some (.ref 130), some (.int v1)] [] h := by
  exact vg_ok k_X12_readText (stops := [10, 43, 64, 73, 100]) 126 100 0 _ _ h T
set_option maxRecDepth 100000 in
set_option maxHeartbeats 4000000 in
theorem t_X12_commandHere {h : PH} {Q : Res → PH → Prop}
    (T : MetPM m_X12_isWord [.ref 130, .long (lN 525939)] h (rI (hnd Q (At m_X12_commandHere Q) 0 [some (.ref 130)] []) (fun x2 h1 => ((x2 = 0 → MetPM m_X12_isWord [.ref 130, .long (lN 20579924)] h1 (rI (hnd Q (At m_X12_commandHere Q) 0 [some (.ref 130)] []) (fun x4 h3 => ((x4 = 0 → MetPM m_X12_isWord [.ref 130, .long (lN 643568)] h3 (rI (hnd Q (At m_X12_commandHere Q) 0 [some (.ref 130)] []) (fun x6 h5 => ((x6 = 0 → MetPM m_X12_isWord [.ref 130, .long (lN 239)] h5 (rI (hnd Q (At m_X12_commandHere Q) 0 [some (.ref 130)] []) (fun x8 h7 => ((x8 = 0 → MetPM m_X12_isWord [.ref 130, .long (lN 277892)] h7 (rI (hnd Q (At m_X12_commandHere Q) 0 [some (.ref 130)] []) (fun x10 h9 => ((x10 = 0 → MetPM m_X12_isWord [.ref 130, .long (lN 215205)] h9 (rI (hnd Q (At m_X12_commandHere Q) 0 [some (.ref 130)] []) (fun x12 h11 => ((x12 = 0 → MetPM m_X12_isWord [.ref 130, .long (lN 609762900)] h11 (rI (hnd Q (At m_X12_commandHere Q) 0 [some (.ref 130)] []) (fun x14 h13 => ((x14 = 0 → MetPM m_X12_isWord [.ref 130, .long (lN 109099237)] h13 (rI (hnd Q (At m_X12_commandHere Q) 0 [some (.ref 130)] []) (fun x16 h15 => ((x16 = 0 → MetPM m_X12_isWord [.ref 130, .long (lN 116831540)] h15 (rI (hnd Q (At m_X12_commandHere Q) 0 [some (.ref 130)] []) (fun x18 h17 => ((x18 = 0 → MetPM m_X12_isWord [.ref 130, .long (lN 609752116)] h17 (rI (hnd Q (At m_X12_commandHere Q) 0 [some (.ref 130)] []) (fun x20 h19 => ((x20 = 0 → Q (.inl (some (.int (-(nI 1))))) h19) ∧ (¬ x20 = 0 → Q (.inl (some (.int (nI 9)))) h19))))) ∧ (¬ x18 = 0 → Q (.inl (some (.int (nI 8)))) h17))))) ∧ (¬ x16 = 0 → Q (.inl (some (.int (nI 7)))) h15))))) ∧ (¬ x14 = 0 → Q (.inl (some (.int (nI 6)))) h13))))) ∧ (¬ x12 = 0 → Q (.inl (some (.int (nI 5)))) h11))))) ∧ (¬ x10 = 0 → Q (.inl (some (.int (nI 4)))) h9))))) ∧ (¬ x8 = 0 → Q (.inl (some (.int (nI 3)))) h7))))) ∧ (¬ x6 = 0 → Q (.inl (some (.int (nI 2)))) h5))))) ∧ (¬ x4 = 0 → Q (.inl (some (.int (nI 1)))) h3))))) ∧ (¬ x2 = 0 → Q (.inl (some (.int (nI 0)))) h1))))) :
    MetPM m_X12_commandHere [.ref 130] h Q := by
  exact met_of o_X12_commandHere (Nat.le_of_ble_eq_true rfl) (fun q => absurd rfl q) (vg_ok k_X12_commandHere (stops := []) 112 0 0 _ [] h T)
set_option maxRecDepth 100000 in
set_option maxHeartbeats 4000000 in
theorem t_X12_command {h : PH} {Q : Res → PH → Prop}
    (T : MetPM m_X12_commandHere [.ref 130] h (rI (hnd Q (At m_X12_command Q) 0 [some (.ref 130), none, none] []) (fun x2 h1 => ((¬ x2 = (-(nI 1)) → At m_X12_command Q 15 0 [some (.ref 130), some (.int x2), none] [] h1) ∧ (x2 = (-(nI 1)) → MetPM m_X12_wrong [.ref 130, .int (nI 1)] h1 (rV (hnd Q (At m_X12_command Q) 0 [some (.ref 130), some (.int x2), none] []) (fun h3 => At m_X12_command Q 15 0 [some (.ref 130), some (.int x2), none] [] h3))))))) :
    MetPM m_X12_command [.ref 130] h Q := by
  exact met_of o_X12_command (Nat.le_of_ble_eq_true rfl) (fun q => absurd rfl q) (vg_ok k_X12_command (stops := [15, 34, 49, 93, 107, 122, 143, 163, 179, 198, 210]) 190 0 0 _ [] h T)
set_option maxRecDepth 100000 in
set_option maxHeartbeats 4000000 in
theorem u_X12_command_15 {v1 : Int32} {h : PH} {Q : Res → PH → Prop}
    (T : ((¬ v1 = (nI 9) → At m_X12_command Q 34 0 [some (.ref 130), some (.int v1), none] [] h) ∧ (v1 = (nI 9) → ((¬ (gi h 130 35) = (nI 2) → At m_X12_command Q 34 0 [some (.ref 130), some (.int v1), none] [] h) ∧ ((gi h 130 35) = (nI 2) → MetPM m_X12_wrong [.ref 130, .int (nI 4)] h (rV (hnd Q (At m_X12_command Q) 0 [some (.ref 130), some (.int v1), none] []) (fun h1 => At m_X12_command Q 34 0 [some (.ref 130), some (.int v1), none] [] h1))))))) :
    At m_X12_command Q 15 0 [some (.ref 130), some (.int v1), none] [] h := by
  exact vg_ok k_X12_command (stops := [15, 34, 49, 93, 107, 122, 143, 163, 179, 198, 210]) 190 15 0 _ _ h T
set_option maxRecDepth 100000 in
set_option maxHeartbeats 4000000 in
theorem u_X12_command_34 {v1 : Int32} {h : PH} {Q : Res → PH → Prop}
    (T : ((¬ (gi h 130 34) = (nI 30) → At m_X12_command Q 49 0 [some (.ref 130), some (.int v1), none] [] h) ∧ ((gi h 130 34) = (nI 30) → MetPM m_X12_wrong [.ref 130, .int (nI 6)] h (rV (hnd Q (At m_X12_command Q) 0 [some (.ref 130), some (.int v1), none] []) (fun h1 => At m_X12_command Q 49 0 [some (.ref 130), some (.int v1), none] [] h1))))) :
    At m_X12_command Q 34 0 [some (.ref 130), some (.int v1), none] [] h := by
  exact vg_ok k_X12_command (stops := [15, 34, 49, 93, 107, 122, 143, 163, 179, 198, 210]) 190 34 0 _ _ h T
set_option maxRecDepth 100000 in
set_option maxHeartbeats 4000000 in
theorem u_X12_command_49 {v1 : Int32} {h : PH} {Q : Res → PH → Prop}
    (T : MetPM m_X12_isGood [.ref 130] h (rI (hnd Q (At m_X12_command Q) 0 [some (.ref 130), some (.int v1), none] []) (fun x2 h1 => ((¬ x2 = 0 → MetPM m_X12_goOn [.ref 130] (si h1 130 34 ((gi h1 130 34) + (nI 1))) (rV (hnd Q (At m_X12_command Q) 0 [some (.ref 130), some (.int v1), none] []) (fun h3 => (vp_in (gi h3 130 33) 60 ∧ ((v1 = 0 → At m_X12_command Q 93 0 [some (.ref 130), some (.int v1), some (.int (gi h3 130 33))] [] (si h3 141 (gi h3 130 33).toNatClampNeg v1)) ∧ (¬ v1 = 0 → ((¬ v1 = (nI 8) → At m_X12_command Q 107 0 [some (.ref 130), some (.int v1), some (.int (gi h3 130 33))] [] (si h3 141 (gi h3 130 33).toNatClampNeg v1)) ∧ (v1 = (nI 8) → At m_X12_command Q 93 0 [some (.ref 130), some (.int v1), some (.int (gi h3 130 33))] [] (si h3 141 (gi h3 130 33).toNatClampNeg v1))))))))) ∧ (x2 = 0 → Q (.inl none) h1))))) :
    At m_X12_command Q 49 0 [some (.ref 130), some (.int v1), none] [] h := by
  exact vg_ok k_X12_command (stops := [15, 34, 49, 93, 107, 122, 143, 163, 179, 198, 210]) 190 49 0 _ _ h T
set_option maxRecDepth 100000 in
set_option maxHeartbeats 4000000 in
theorem u_X12_command_93 {v1 : Int32} {v2 : Int32} {h : PH} {Q : Res → PH → Prop}
    (T : MetPM m_X12_number [.ref 130, .int (nI 0), .int (nI 999)] h (rI (hnd Q (At m_X12_command Q) 0 [some (.ref 130), some (.int v1), some (.int v2)] []) (fun x2 h1 => (vp_in v2 60 ∧ At m_X12_command Q 107 0 [some (.ref 130), some (.int v1), some (.int v2)] [] (si h1 142 v2.toNatClampNeg x2))))) :
    At m_X12_command Q 93 0 [some (.ref 130), some (.int v1), some (.int v2)] [] h := by
  exact vg_ok k_X12_command (stops := [15, 34, 49, 93, 107, 122, 143, 163, 179, 198, 210]) 190 93 0 _ _ h T
set_option maxRecDepth 100000 in
set_option maxHeartbeats 4000000 in
theorem u_X12_command_107 {v1 : Int32} {v2 : Int32} {h : PH} {Q : Res → PH → Prop}
    (T : ((¬ v1 = (nI 1) → At m_X12_command Q 122 0 [some (.ref 130), some (.int v1), some (.int v2)] [] h) ∧ (v1 = (nI 1) → MetPM m_X12_toldVersion [.ref 130] h (rI (hnd Q (At m_X12_command Q) 0 [some (.ref 130), some (.int v1), some (.int v2)] []) (fun x2 h1 => (vp_in v2 60 ∧ At m_X12_command Q 122 0 [some (.ref 130), some (.int v1), some (.int v2)] [] (si h1 142 v2.toNatClampNeg x2))))))) :
    At m_X12_command Q 107 0 [some (.ref 130), some (.int v1), some (.int v2)] [] h := by
  exact vg_ok k_X12_command (stops := [15, 34, 49, 93, 107, 122, 143, 163, 179, 198, 210]) 190 107 0 _ _ h T
set_option maxRecDepth 100000 in
set_option maxHeartbeats 4000000 in
theorem u_X12_command_122 {v1 : Int32} {v2 : Int32} {h : PH} {Q : Res → PH → Prop}
    (T : ((v1 < (nI 4) → At m_X12_command Q 143 0 [some (.ref 130), some (.int v1), some (.int v2)] [] h) ∧ (¬ v1 < (nI 4) → (((nI 7) < v1 → At m_X12_command Q 143 0 [some (.ref 130), some (.int v1), some (.int v2)] [] h) ∧ (¬ (nI 7) < v1 → MetPM m_X12_toldMember [.ref 130] h (rI (hnd Q (At m_X12_command Q) 0 [some (.ref 130), some (.int v1), some (.int v2)] []) (fun x2 h1 => (vp_in v2 60 ∧ At m_X12_command Q 143 0 [some (.ref 130), some (.int v1), some (.int v2)] [] (si h1 142 v2.toNatClampNeg x2))))))))) :
    At m_X12_command Q 122 0 [some (.ref 130), some (.int v1), some (.int v2)] [] h := by
  exact vg_ok k_X12_command (stops := [15, 34, 49, 93, 107, 122, 143, 163, 179, 198, 210]) 190 122 0 _ _ h T
set_option maxRecDepth 100000 in
set_option maxHeartbeats 4000000 in
theorem u_X12_command_143 {v1 : Int32} {v2 : Int32} {h : PH} {Q : Res → PH → Prop}
    (T : ((¬ v1 = (nI 6) → At m_X12_command Q 163 0 [some (.ref 130), some (.int v1), some (.int v2)] [] h) ∧ (v1 = (nI 6) → MetPM m_X12_number [.ref 130, .int (nI 0), .int (nI 999)] h (rI (hnd Q (At m_X12_command Q) 0 [some (.ref 130), some (.int v1), some (.int v2)] []) (fun x2 h1 => (vp_in v2 60 ∧ At m_X12_command Q 163 0 [some (.ref 130), some (.int v1), some (.int v2)] [] (si h1 143 v2.toNatClampNeg x2))))))) :
    At m_X12_command Q 143 0 [some (.ref 130), some (.int v1), some (.int v2)] [] h := by
  exact vg_ok k_X12_command (stops := [15, 34, 49, 93, 107, 122, 143, 163, 179, 198, 210]) 190 143 0 _ _ h T
set_option maxRecDepth 100000 in
set_option maxHeartbeats 4000000 in
theorem u_X12_command_163 {v1 : Int32} {v2 : Int32} {h : PH} {Q : Res → PH → Prop}
    (T : ((¬ v1 = (nI 7) → At m_X12_command Q 179 0 [some (.ref 130), some (.int v1), some (.int v2)] [] h) ∧ (v1 = (nI 7) → MetPM m_X12_toldVersion [.ref 130] h (rI (hnd Q (At m_X12_command Q) 0 [some (.ref 130), some (.int v1), some (.int v2)] []) (fun x2 h1 => (vp_in v2 60 ∧ At m_X12_command Q 179 0 [some (.ref 130), some (.int v1), some (.int v2)] [] (si h1 143 v2.toNatClampNeg x2))))))) :
    At m_X12_command Q 163 0 [some (.ref 130), some (.int v1), some (.int v2)] [] h := by
  exact vg_ok k_X12_command (stops := [15, 34, 49, 93, 107, 122, 143, 163, 179, 198, 210]) 190 163 0 _ _ h T
set_option maxRecDepth 100000 in
set_option maxHeartbeats 4000000 in
theorem u_X12_command_179 {v1 : Int32} {v2 : Int32} {h : PH} {Q : Res → PH → Prop}
    (T : ((¬ v1 = (nI 9) → At m_X12_command Q 198 0 [some (.ref 130), some (.int v1), some (.int v2)] [] h) ∧ (v1 = (nI 9) → MetPM m_X12_number [.ref 130, .int (nI 1), .int (nI 20)] h (rI (hnd Q (At m_X12_command Q) 0 [some (.ref 130), some (.int v1), some (.int v2)] []) (fun x2 h1 => (vp_in v2 60 ∧ At m_X12_command Q 198 0 [some (.ref 130), some (.int v1), some (.int v2)] [] (si h1 142 v2.toNatClampNeg x2))))))) :
    At m_X12_command Q 179 0 [some (.ref 130), some (.int v1), some (.int v2)] [] h := by
  exact vg_ok k_X12_command (stops := [15, 34, 49, 93, 107, 122, 143, 163, 179, 198, 210]) 190 179 0 _ _ h T
set_option maxRecDepth 100000 in
set_option maxHeartbeats 4000000 in
theorem u_X12_command_198 {v1 : Int32} {v2 : Int32} {h : PH} {Q : Res → PH → Prop}
    (T : ((¬ v1 = (nI 9) → At m_X12_command Q 210 0 [some (.ref 130), some (.int v1), some (.int v2)] [] h) ∧ (v1 = (nI 9) → MetPM m_X12_mustSign [.ref 130, .int (nI 40)] h (rV (hnd Q (At m_X12_command Q) 0 [some (.ref 130), some (.int v1), some (.int v2)] []) (fun h1 => At m_X12_command Q 210 0 [some (.ref 130), some (.int v1), some (.int v2)] [] h1))))) :
    At m_X12_command Q 198 0 [some (.ref 130), some (.int v1), some (.int v2)] [] h := by
  exact vg_ok k_X12_command (stops := [15, 34, 49, 93, 107, 122, 143, 163, 179, 198, 210]) 190 198 0 _ _ h T
set_option maxRecDepth 100000 in
set_option maxHeartbeats 4000000 in
theorem u_X12_command_210 {v1 : Int32} {v2 : Int32} {h : PH} {Q : Res → PH → Prop}
    (T : MetPM m_X12_isGood [.ref 130] h (rI (hnd Q (At m_X12_command Q) 0 [some (.ref 130), some (.int v1), some (.int v2)] []) (fun x2 h1 => ((¬ x2 = 0 → ((¬ v1 = (nI 9) → MetPM m_X12_truth [.int (nI 0)] (si h1 130 33 ((gi h1 130 33) + (nI 1))) (rI (hnd Q (At m_X12_command Q) 0 [some (.ref 130), some (.int v1), some (.int v2)] []) (fun x4 h3 => Q (.inl none) (si h3 130 35 ((gi (si h1 130 33 ((gi h1 130 33) + (nI 1))) 130 35) + x4))))) ∧ (v1 = (nI 9) → MetPM m_X12_truth [.int (nI 1)] (si h1 130 33 ((gi h1 130 33) + (nI 1))) (rI (hnd Q (At m_X12_command Q) 0 [some (.ref 130), some (.int v1), some (.int v2)] []) (fun x6 h5 => Q (.inl none) (si h5 130 35 ((gi (si h1 130 33 ((gi h1 130 33) + (nI 1))) 130 35) + x6))))))) ∧ (x2 = 0 → Q (.inl none) h1))))) :
    At m_X12_command Q 210 0 [some (.ref 130), some (.int v1), some (.int v2)] [] h := by
  exact vg_ok k_X12_command (stops := [15, 34, 49, 93, 107, 122, 143, 163, 179, 198, 210]) 190 210 0 _ _ h T
set_option maxRecDepth 100000 in
set_option maxHeartbeats 4000000 in
theorem t_X12_closes {h : PH} {Q : Res → PH → Prop}
    (T : (((gi h 130 35) ≤ 0 → Q (.inl none) h) ∧ (¬ (gi h 130 35) ≤ 0 → MetPM m_X12_isSign [.ref 130, .int (nI 41)] h (rI (hnd Q (At m_X12_closes Q) 0 [some (.ref 130)] []) (fun x2 h1 => ((x2 = 0 → Q (.inl none) h1) ∧ (¬ x2 = 0 → (vp_in (gi (si h1 130 35 ((gi h1 130 35) - (nI 1))) 130 33) 60 ∧ (let h3 : PH := (si (si h1 130 35 ((gi h1 130 35) - (nI 1))) 141 (gi (si h1 130 35 ((gi h1 130 35) - (nI 1))) 130 33).toNatClampNeg (nI 10)); MetPM m_X12_goOn [.ref 130] (si h3 130 33 ((gi h3 130 33) + (nI 1))) (rV (hnd Q (At m_X12_closes Q) 0 [some (.ref 130)] []) (fun h4 => MetPM m_X12_mustSign [.ref 130, .int (nI 59)] h4 (rV (hnd Q (At m_X12_closes Q) 0 [some (.ref 130)] []) (fun h5 => At m_X12_closes Q 0 0 [some (.ref 130)] [] h5))))))))))))) :
    MetPM m_X12_closes [.ref 130] h Q := by
  exact met_of o_X12_closes (Nat.le_of_ble_eq_true rfl) (fun q => absurd rfl q) (vg_ok k_X12_closes (stops := [0]) 82 0 0 _ [] h T)
set_option maxRecDepth 100000 in
set_option maxHeartbeats 4000000 in
theorem u_X12_closes_0 {h : PH} {Q : Res → PH → Prop}
    (T : (((gi h 130 35) ≤ 0 → Q (.inl none) h) ∧ (¬ (gi h 130 35) ≤ 0 → MetPM m_X12_isSign [.ref 130, .int (nI 41)] h (rI (hnd Q (At m_X12_closes Q) 0 [some (.ref 130)] []) (fun x2 h1 => ((x2 = 0 → Q (.inl none) h1) ∧ (¬ x2 = 0 → (vp_in (gi (si h1 130 35 ((gi h1 130 35) - (nI 1))) 130 33) 60 ∧ (let h3 : PH := (si (si h1 130 35 ((gi h1 130 35) - (nI 1))) 141 (gi (si h1 130 35 ((gi h1 130 35) - (nI 1))) 130 33).toNatClampNeg (nI 10)); MetPM m_X12_goOn [.ref 130] (si h3 130 33 ((gi h3 130 33) + (nI 1))) (rV (hnd Q (At m_X12_closes Q) 0 [some (.ref 130)] []) (fun h4 => MetPM m_X12_mustSign [.ref 130, .int (nI 59)] h4 (rV (hnd Q (At m_X12_closes Q) 0 [some (.ref 130)] []) (fun h5 => At m_X12_closes Q 0 0 [some (.ref 130)] [] h5))))))))))))) :
    At m_X12_closes Q 0 0 [some (.ref 130)] [] h := by
  exact vg_ok k_X12_closes (stops := [0]) 82 0 0 _ _ h T
set_option maxRecDepth 100000 in
set_option maxHeartbeats 4000000 in
theorem t_X12_mayPass {p0 : Int32} {h : PH} {Q : Res → PH → Prop}
    (T : MetPM m_X12_isIn [.long (p0.toInt64), .long (lN 0), .long (lN 999)] h (rI (hnd Q (At m_X12_mayPass Q) 0 [some (.ref 130), some (.int p0)] []) (fun x2 h1 => ((x2 = 0 → (isB (nI 0) ∧ Q (.inl (some (.int (nI 0)))) h1)) ∧ (¬ x2 = 0 → (vp_in (nI 11) 253 ∧ (((nI 20000) < ((gi h1 132 (nI 11).toNatClampNeg) + p0) → (isB (nI 0) ∧ Q (.inl (some (.int (nI 0)))) h1)) ∧ (¬ (nI 20000) < ((gi h1 132 (nI 11).toNatClampNeg) + p0) → (isB (nI 1) ∧ Q (.inl (some (.int (nI 1)))) h1))))))))) :
    MetPM m_X12_mayPass [.ref 130, .int p0] h Q := by
  exact met_of o_X12_mayPass (Nat.le_of_ble_eq_true rfl) (fun q => absurd rfl q) (vg_ok k_X12_mayPass (stops := []) 68 0 0 _ [] h T)
set_option maxRecDepth 100000 in
set_option maxHeartbeats 4000000 in
theorem t_X12_isGoing {h : PH} {Q : Res → PH → Prop}
    (T : (vp_in (nI 12) 253 ∧ (((gi h 132 (nI 12).toNatClampNeg) = (nI 1) → (isB (nI 1) ∧ Q (.inl (some (.int (nI 1)))) h)) ∧ (¬ (gi h 132 (nI 12).toNatClampNeg) = (nI 1) → (vp_in (nI 12) 253 ∧ ((¬ (gi h 132 (nI 12).toNatClampNeg) = (nI 2) → (isB (nI 0) ∧ Q (.inl (some (.int (nI 0)))) h)) ∧ ((gi h 132 (nI 12).toNatClampNeg) = (nI 2) → (isB (nI 1) ∧ Q (.inl (some (.int (nI 1)))) h)))))))) :
    MetPM m_X12_isGoing [.ref 130] h Q := by
  exact met_of o_X12_isGoing (Nat.le_of_ble_eq_true rfl) (fun q => absurd rfl q) (vg_ok k_X12_isGoing (stops := []) 66 0 0 _ [] h T)
set_option maxRecDepth 100000 in
set_option maxHeartbeats 4000000 in
theorem t_X12_mayStart {h : PH} {Q : Res → PH → Prop}
    (T : (vp_in (nI 3) 253 ∧ (((gi h 132 (nI 3).toNatClampNeg) ≤ 0 → (isB (nI 0) ∧ Q (.inl (some (.int (nI 0)))) h)) ∧ (¬ (gi h 132 (nI 3).toNatClampNeg) ≤ 0 → MetPM m_X12_isGoing [.ref 130] h (rI (hnd Q (At m_X12_mayStart Q) 0 [some (.ref 130)] []) (fun x2 h1 => ((¬ x2 = 0 → (isB (nI 0) ∧ Q (.inl (some (.int (nI 0)))) h1)) ∧ (x2 = 0 → (isB (nI 1) ∧ Q (.inl (some (.int (nI 1)))) h1))))))))) :
    MetPM m_X12_mayStart [.ref 130] h Q := by
  exact met_of o_X12_mayStart (Nat.le_of_ble_eq_true rfl) (fun q => absurd rfl q) (vg_ok k_X12_mayStart (stops := []) 62 0 0 _ [] h T)
set_option maxRecDepth 100000 in
set_option maxHeartbeats 4000000 in
theorem t_X12_isDown {p0 : Int32} {h : PH} {Q : Res → PH → Prop}
    (T : MetPM m_X12_of [.ref 130, .int p0, .int (nI 2)] h (rI (hnd Q (At m_X12_isDown Q) 0 [some (.ref 130), some (.int p0)] []) (fun x2 h1 => ((x2 = (-(nI 1)) → (isB (nI 0) ∧ Q (.inl (some (.int (nI 0)))) h1)) ∧ (¬ x2 = (-(nI 1)) → (isB (nI 1) ∧ Q (.inl (some (.int (nI 1)))) h1)))))) :
    MetPM m_X12_isDown [.ref 130, .int p0] h Q := by
  exact met_of o_X12_isDown (Nat.le_of_ble_eq_true rfl) (fun q => absurd rfl q) (vg_ok k_X12_isDown (stops := []) 60 0 0 _ [] h T)
set_option maxRecDepth 100000 in
set_option maxHeartbeats 4000000 in
theorem t_X12_downIn {p0 : Int32} {h : PH} {Q : Res → PH → Prop}
    (T : At m_X12_downIn Q 4 0 [some (.ref 130), some (.int p0), some (.int (nI 0)), some (.int (nI 0))] [] h) :
    MetPM m_X12_downIn [.ref 130, .int p0] h Q := by
  exact met_of o_X12_downIn (Nat.le_of_ble_eq_true rfl) (fun q => absurd rfl q) (vg_ok k_X12_downIn (stops := [4]) 83 0 0 _ [] h T)
set_option maxRecDepth 100000 in
set_option maxHeartbeats 4000000 in
theorem u_X12_downIn_4 {v1 : Int32} {v2 : Int32} {v3 : Int32} {h : PH} {Q : Res → PH → Prop}
    (T : (vp_in (nI 2) 253 ∧ (((gi h 132 (nI 2).toNatClampNeg) ≤ v3 → Q (.inl (some (.int v2))) h) ∧ (¬ (gi h 132 (nI 2).toNatClampNeg) ≤ v3 → MetPM m_X12_of [.ref 130, .int v3, .int (nI 0)] h (rI (hnd Q (At m_X12_downIn Q) 0 [some (.ref 130), some (.int v1), some (.int v2), some (.int v3)] []) (fun x2 h1 => ((¬ x2 = v1 → MetPM m_X12_truth [.int (nI 0)] h1 (rI (hnd Q (At m_X12_downIn Q) 0 [some (.ref 130), some (.int v1), some (.int v2), some (.int v3)] []) (fun x4 h3 => At m_X12_downIn Q 4 0 [some (.ref 130), some (.int v1), some (.int (v2 ||| (x4 <<< (v3 &&& 31)))), some (.int (v3 + (nI 1)))] [] h3))) ∧ (x2 = v1 → MetPM m_X12_isDown [.ref 130, .int v3] h1 (rI (hnd Q (At m_X12_downIn Q) 0 [some (.ref 130), some (.int v1), some (.int v2), some (.int v3)] []) (fun x6 h5 => ((x6 = 0 → MetPM m_X12_truth [.int (nI 0)] h5 (rI (hnd Q (At m_X12_downIn Q) 0 [some (.ref 130), some (.int v1), some (.int v2), some (.int v3)] []) (fun x8 h7 => At m_X12_downIn Q 4 0 [some (.ref 130), some (.int v1), some (.int (v2 ||| (x8 <<< (v3 &&& 31)))), some (.int (v3 + (nI 1)))] [] h7))) ∧ (¬ x6 = 0 → MetPM m_X12_truth [.int (nI 1)] h5 (rI (hnd Q (At m_X12_downIn Q) 0 [some (.ref 130), some (.int v1), some (.int v2), some (.int v3)] []) (fun x10 h9 => At m_X12_downIn Q 4 0 [some (.ref 130), some (.int v1), some (.int (v2 ||| (x10 <<< (v3 &&& 31)))), some (.int (v3 + (nI 1)))] [] h9)))))))))))))) :
    At m_X12_downIn Q 4 0 [some (.ref 130), some (.int v1), some (.int v2), some (.int v3)] [] h := by
  exact vg_ok k_X12_downIn (stops := [4]) 83 4 0 _ _ h T
set_option maxRecDepth 100000 in
set_option maxHeartbeats 4000000 in
theorem t_X12_ones {p0 : Int32} {h : PH} {Q : Res → PH → Prop}
    (T : At m_X12_ones Q 4 0 [some (.int p0), some (.int (nI 0)), some (.int (nI 0))] [] h) :
    MetPM m_X12_ones [.int p0] h Q := by
  exact met_of o_X12_ones (Nat.le_of_ble_eq_true rfl) (fun q => absurd rfl q) (vg_ok k_X12_ones (stops := [4]) 69 0 0 _ [] h T)
set_option maxRecDepth 100000 in
set_option maxHeartbeats 4000000 in
theorem u_X12_ones_4 {v0 : Int32} {v1 : Int32} {v2 : Int32} {h : PH} {Q : Res → PH → Prop}
    (T : (((nI 12) ≤ v2 → Q (.inl (some (.int v1))) h) ∧ (¬ (nI 12) ≤ v2 → At m_X12_ones Q 4 0 [some (.int v0), some (.int (v1 + ((v0 >>> (v2 &&& 31)) &&& (nI 1)))), some (.int (v2 + (nI 1)))] [] h))) :
    At m_X12_ones Q 4 0 [some (.int v0), some (.int v1), some (.int v2)] [] h := by
  exact vg_ok k_X12_ones (stops := [4]) 69 4 0 _ _ h T
set_option maxRecDepth 100000 in
set_option maxHeartbeats 4000000 in
theorem t_X12_coming {p0 : Int32} {h : PH} {Q : Res → PH → Prop}
    (T : MetPM m_X12_isDown [.ref 130, .int p0] h (rI (hnd Q (At m_X12_coming Q) 0 [some (.ref 130), some (.int p0)] []) (fun x2 h1 => ((x2 = 0 → MetPM m_X12_of [.ref 130, .int p0, .int (nI 1)] h1 (rI (hnd Q (At m_X12_coming Q) 0 [some (.ref 130), some (.int p0)] []) (fun x4 h3 => Q (.inl (some (.int x4))) h3))) ∧ (¬ x2 = 0 → MetPM m_X12_of [.ref 130, .int p0, .int (nI 2)] h1 (rI (hnd Q (At m_X12_coming Q) 0 [some (.ref 130), some (.int p0)] []) (fun x6 h5 => Q (.inl (some (.int x6))) h5))))))) :
    MetPM m_X12_coming [.ref 130, .int p0] h Q := by
  exact met_of o_X12_coming (Nat.le_of_ble_eq_true rfl) (fun q => absurd rfl q) (vg_ok k_X12_coming (stops := []) 64 0 0 _ [] h T)
set_option maxRecDepth 100000 in
set_option maxHeartbeats 4000000 in
theorem t_X12_isTooFar {p0 : Int32} {p1 : Int32} {h : PH} {Q : Res → PH → Prop}
    (T : At m_X12_isTooFar Q 5 0 [some (.ref 130), some (.int p0), some (.int p1), some (.int (nI 0)), some (.int (nI 0))] [] h) :
    MetPM m_X12_isTooFar [.ref 130, .int p0, .int p1] h Q := by
  exact met_of o_X12_isTooFar (Nat.le_of_ble_eq_true rfl) (fun q => absurd rfl q) (vg_ok k_X12_isTooFar (stops := [5]) 83 0 0 _ [] h T)
set_option maxRecDepth 100000 in
set_option maxHeartbeats 4000000 in
theorem u_X12_isTooFar_5 {v1 : Int32} {v2 : Int32} {v3 : Int32} {v4 : Int32} {h : PH} {Q : Res → PH → Prop}
    (T : (vp_in (nI 2) 253 ∧ (((gi h 132 (nI 2).toNatClampNeg) ≤ v4 → (isB v3 ∧ Q (.inl (some (.int v3))) h)) ∧ (¬ (gi h 132 (nI 2).toNatClampNeg) ≤ v4 → ((¬ v3 = 0 → At m_X12_isTooFar Q 5 0 [some (.ref 130), some (.int v1), some (.int v2), some (.int (nI 1)), some (.int (v4 + (nI 1)))] [] h) ∧ (v3 = 0 → ((v4 = v1 → At m_X12_isTooFar Q 5 0 [some (.ref 130), some (.int v1), some (.int v2), some (.int (nI 0)), some (.int (v4 + (nI 1)))] [] h) ∧ (¬ v4 = v1 → MetPM m_X12_coming [.ref 130, .int v4] h (rI (hnd Q (At m_X12_isTooFar Q) 0 [some (.ref 130), some (.int v1), some (.int v2), some (.int v3), some (.int v4)] []) (fun x2 h1 => MetPM m_X12_apart [.int v2, .int x2] h1 (rI (hnd Q (At m_X12_isTooFar Q) 0 [some (.ref 130), some (.int v1), some (.int v2), some (.int v3), some (.int v4)] []) (fun x4 h3 => (vp_in (nI 6) 253 ∧ ((x4 ≤ (gi h3 132 (nI 6).toNatClampNeg) → At m_X12_isTooFar Q 5 0 [some (.ref 130), some (.int v1), some (.int v2), some (.int (nI 0)), some (.int (v4 + (nI 1)))] [] h3) ∧ (¬ x4 ≤ (gi h3 132 (nI 6).toNatClampNeg) → At m_X12_isTooFar Q 5 0 [some (.ref 130), some (.int v1), some (.int v2), some (.int (nI 1)), some (.int (v4 + (nI 1)))] [] h3))))))))))))))) :
    At m_X12_isTooFar Q 5 0 [some (.ref 130), some (.int v1), some (.int v2), some (.int v3), some (.int v4)] [] h := by
  exact vg_ok k_X12_isTooFar (stops := [5]) 83 5 0 _ _ h T
set_option maxRecDepth 100000 in
set_option maxHeartbeats 4000000 in
theorem t_X12_arePartners {p0 : Int32} {p1 : Int32} {h : PH} {Q : Res → PH → Prop}
    (T : ((p0 = p1 → (isB (nI 0) ∧ Q (.inl (some (.int (nI 0)))) h)) ∧ (¬ p0 = p1 → MetPM m_X12_of [.ref 130, .int p0, .int (nI 0)] h (rI (hnd Q (At m_X12_arePartners Q) 0 [some (.ref 130), some (.int p0), some (.int p1)] []) (fun x2 h1 => MetPM m_X12_of [.ref 130, .int p1, .int (nI 0)] h1 (rI (hnd Q (At m_X12_arePartners Q) 0 [some (.ref 130), some (.int p0), some (.int p1)] []) (fun x4 h3 => ((x2 = x4 → (isB (nI 1) ∧ Q (.inl (some (.int (nI 1)))) h3)) ∧ (¬ x2 = x4 → MetPM m_X12_of [.ref 130, .int p0, .int (nI 6)] h3 (rI (hnd Q (At m_X12_arePartners Q) 0 [some (.ref 130), some (.int p0), some (.int p1)] []) (fun x6 h5 => MetPM m_X12_hasBit [.int x6, .int p1] h5 (rI (hnd Q (At m_X12_arePartners Q) 0 [some (.ref 130), some (.int p0), some (.int p1)] []) (fun x8 h7 => ((x8 = 0 → (isB (nI 0) ∧ Q (.inl (some (.int (nI 0)))) h7)) ∧ (¬ x8 = 0 → (isB (nI 1) ∧ Q (.inl (some (.int (nI 1)))) h7)))))))))))))))) :
    MetPM m_X12_arePartners [.ref 130, .int p0, .int p1] h Q := by
  exact met_of o_X12_arePartners (Nat.le_of_ble_eq_true rfl) (fun q => absurd rfl q) (vg_ok k_X12_arePartners (stops := []) 73 0 0 _ [] h T)
set_option maxRecDepth 100000 in
set_option maxHeartbeats 4000000 in
theorem t_X12_silent {p0 : Int32} {p1 : Int32} {h : PH} {Q : Res → PH → Prop}
    (T : At m_X12_silent Q 5 0 [some (.ref 130), some (.int p0), some (.int p1), some (.int (nI 0)), some (.int (nI 0))] [] h) :
    MetPM m_X12_silent [.ref 130, .int p0, .int p1] h Q := by
  exact met_of o_X12_silent (Nat.le_of_ble_eq_true rfl) (fun q => absurd rfl q) (vg_ok k_X12_silent (stops := [5]) 85 0 0 _ [] h T)
set_option maxRecDepth 100000 in
set_option maxHeartbeats 4000000 in
theorem u_X12_silent_5 {v1 : Int32} {v2 : Int32} {v3 : Int32} {v4 : Int32} {h : PH} {Q : Res → PH → Prop}
    (T : (vp_in (nI 2) 253 ∧ (((gi h 132 (nI 2).toNatClampNeg) ≤ v4 → Q (.inl (some (.int v3))) h) ∧ (¬ (gi h 132 (nI 2).toNatClampNeg) ≤ v4 → MetPM m_X12_arePartners [.ref 130, .int v1, .int v4] h (rI (hnd Q (At m_X12_silent Q) 0 [some (.ref 130), some (.int v1), some (.int v2), some (.int v3), some (.int v4)] []) (fun x2 h1 => ((x2 = 0 → MetPM m_X12_truth [.int (nI 0)] h1 (rI (hnd Q (At m_X12_silent Q) 0 [some (.ref 130), some (.int v1), some (.int v2), some (.int v3), some (.int v4)] []) (fun x4 h3 => At m_X12_silent Q 5 0 [some (.ref 130), some (.int v1), some (.int v2), some (.int (v3 ||| (x4 <<< (v4 &&& 31)))), some (.int (v4 + (nI 1)))] [] h3))) ∧ (¬ x2 = 0 → MetPM m_X12_coming [.ref 130, .int v4] h1 (rI (hnd Q (At m_X12_silent Q) 0 [some (.ref 130), some (.int v1), some (.int v2), some (.int v3), some (.int v4)] []) (fun x6 h5 => MetPM m_X12_talk [.ref 130, .int v2, .int x6] h5 (rI (hnd Q (At m_X12_silent Q) 0 [some (.ref 130), some (.int v1), some (.int v2), some (.int v3), some (.int v4)] []) (fun x8 h7 => ((¬ x8 = 0 → MetPM m_X12_truth [.int (nI 0)] h7 (rI (hnd Q (At m_X12_silent Q) 0 [some (.ref 130), some (.int v1), some (.int v2), some (.int v3), some (.int v4)] []) (fun x10 h9 => At m_X12_silent Q 5 0 [some (.ref 130), some (.int v1), some (.int v2), some (.int (v3 ||| (x10 <<< (v4 &&& 31)))), some (.int (v4 + (nI 1)))] [] h9))) ∧ (x8 = 0 → MetPM m_X12_truth [.int (nI 1)] h7 (rI (hnd Q (At m_X12_silent Q) 0 [some (.ref 130), some (.int v1), some (.int v2), some (.int v3), some (.int v4)] []) (fun x12 h11 => At m_X12_silent Q 5 0 [some (.ref 130), some (.int v1), some (.int v2), some (.int (v3 ||| (x12 <<< (v4 &&& 31)))), some (.int (v4 + (nI 1)))] [] h11)))))))))))))))) :
    At m_X12_silent Q 5 0 [some (.ref 130), some (.int v1), some (.int v2), some (.int v3), some (.int v4)] [] h := by
  exact vg_ok k_X12_silent (stops := [5]) 85 5 0 _ _ h T
set_option maxRecDepth 100000 in
set_option maxHeartbeats 4000000 in
theorem t_X12_why {p0 : Int32} {p1 : Int32} {h : PH} {Q : Res → PH → Prop}
    (T : MetPM m_X12_of [.ref 130, .int p0, .int (nI 5)] h (rI (hnd Q (At m_X12_why Q) 0 [some (.ref 130), some (.int p0), some (.int p1)] []) (fun x2 h1 => ((¬ x2 = (nI 1) → MetPM m_X12_isDown [.ref 130, .int p0] h1 (rI (hnd Q (At m_X12_why Q) 0 [some (.ref 130), some (.int p0), some (.int p1)] []) (fun x4 h3 => ((x4 = 0 → MetPM m_X12_of [.ref 130, .int p0, .int (nI 1)] h3 (rI (hnd Q (At m_X12_why Q) 0 [some (.ref 130), some (.int p0), some (.int p1)] []) (fun x6 h5 => ((¬ x6 = p1 → (vp_in (nI 5) 253 ∧ MetPM m_X12_reads [.ref 130, .int p1, .int (gi h5 132 (nI 5).toNatClampNeg)] h5 (rI (hnd Q (At m_X12_why Q) 0 [some (.ref 130), some (.int p0), some (.int p1)] []) (fun x8 h7 => ((¬ x8 = 0 → MetPM m_X12_of [.ref 130, .int p0, .int (nI 0)] h7 (rI (hnd Q (At m_X12_why Q) 0 [some (.ref 130), some (.int p0), some (.int p1)] []) (fun x10 h9 => MetPM m_X12_downIn [.ref 130, .int x10] h9 (rI (hnd Q (At m_X12_why Q) 0 [some (.ref 130), some (.int p0), some (.int p1)] []) (fun x12 h11 => MetPM m_X12_ones [.int x12] h11 (rI (hnd Q (At m_X12_why Q) 0 [some (.ref 130), some (.int p0), some (.int p1)] []) (fun x14 h13 => (vp_in (nI 7) 253 ∧ ((x14 < (gi h13 132 (nI 7).toNatClampNeg) → MetPM m_X12_isTooFar [.ref 130, .int p0, .int p1] h13 (rI (hnd Q (At m_X12_why Q) 0 [some (.ref 130), some (.int p0), some (.int p1)] []) (fun x16 h15 => ((x16 = 0 → MetPM m_X12_silent [.ref 130, .int p0, .int p1] h15 (rI (hnd Q (At m_X12_why Q) 0 [some (.ref 130), some (.int p0), some (.int p1)] []) (fun x18 h17 => ((x18 = 0 → Q (.inl (some (.int (nI 0)))) h17) ∧ (¬ x18 = 0 → Q (.inl (some (.int (nI 7)))) h17))))) ∧ (¬ x16 = 0 → Q (.inl (some (.int (nI 6)))) h15))))) ∧ (¬ x14 < (gi h13 132 (nI 7).toNatClampNeg) → Q (.inl (some (.int (nI 5)))) h13)))))))))) ∧ (x8 = 0 → Q (.inl (some (.int (nI 4)))) h7)))))) ∧ (x6 = p1 → Q (.inl (some (.int (nI 3)))) h5))))) ∧ (¬ x4 = 0 → Q (.inl (some (.int (nI 2)))) h3))))) ∧ (x2 = (nI 1) → Q (.inl (some (.int (nI 1)))) h1))))) :
    MetPM m_X12_why [.ref 130, .int p0, .int p1] h Q := by
  exact met_of o_X12_why (Nat.le_of_ble_eq_true rfl) (fun q => absurd rfl q) (vg_ok k_X12_why (stops := []) 112 0 0 _ [] h T)
set_option maxRecDepth 100000 in
set_option maxHeartbeats 4000000 in
theorem t_X12_allRead {p0 : Int32} {h : PH} {Q : Res → PH → Prop}
    (T : At m_X12_allRead Q 4 0 [some (.ref 130), some (.int p0), some (.int (nI 1)), some (.int (nI 0))] [] h) :
    MetPM m_X12_allRead [.ref 130, .int p0] h Q := by
  exact met_of o_X12_allRead (Nat.le_of_ble_eq_true rfl) (fun q => absurd rfl q) (vg_ok k_X12_allRead (stops := [4]) 77 0 0 _ [] h T)
set_option maxRecDepth 100000 in
set_option maxHeartbeats 4000000 in
theorem u_X12_allRead_4 {v1 : Int32} {v2 : Int32} {v3 : Int32} {h : PH} {Q : Res → PH → Prop}
    (T : (vp_in (nI 2) 253 ∧ (((gi h 132 (nI 2).toNatClampNeg) ≤ v3 → (isB v2 ∧ Q (.inl (some (.int v2))) h)) ∧ (¬ (gi h 132 (nI 2).toNatClampNeg) ≤ v3 → ((v2 = 0 → At m_X12_allRead Q 4 0 [some (.ref 130), some (.int v1), some (.int (nI 0)), some (.int (v3 + (nI 1)))] [] h) ∧ (¬ v2 = 0 → MetPM m_X12_coming [.ref 130, .int v3] h (rI (hnd Q (At m_X12_allRead Q) 0 [some (.ref 130), some (.int v1), some (.int v2), some (.int v3)] []) (fun x2 h1 => MetPM m_X12_reads [.ref 130, .int x2, .int v1] h1 (rI (hnd Q (At m_X12_allRead Q) 0 [some (.ref 130), some (.int v1), some (.int v2), some (.int v3)] []) (fun x4 h3 => ((x4 = 0 → At m_X12_allRead Q 4 0 [some (.ref 130), some (.int v1), some (.int (nI 0)), some (.int (v3 + (nI 1)))] [] h3) ∧ (¬ x4 = 0 → At m_X12_allRead Q 4 0 [some (.ref 130), some (.int v1), some (.int (nI 1)), some (.int (v3 + (nI 1)))] [] h3)))))))))))) :
    At m_X12_allRead Q 4 0 [some (.ref 130), some (.int v1), some (.int v2), some (.int v3)] [] h := by
  exact vg_ok k_X12_allRead (stops := [4]) 77 4 0 _ _ h T
set_option maxRecDepth 100000 in
set_option maxHeartbeats 4000000 in
theorem t_X12_whyCommit {p0 : Int32} {h : PH} {Q : Res → PH → Prop}
    (T : (vp_in (nI 5) 253 ∧ (((gi h 132 (nI 5).toNatClampNeg) < p0 → MetPM m_X12_allRead [.ref 130, .int p0] h (rI (hnd Q (At m_X12_whyCommit Q) 0 [some (.ref 130), some (.int p0)] []) (fun x2 h1 => ((x2 = 0 → Q (.inl (some (.int (nI 2)))) h1) ∧ (¬ x2 = 0 → Q (.inl (some (.int (nI 0)))) h1))))) ∧ (¬ (gi h 132 (nI 5).toNatClampNeg) < p0 → Q (.inl (some (.int (nI 1)))) h)))) :
    MetPM m_X12_whyCommit [.ref 130, .int p0] h Q := by
  exact met_of o_X12_whyCommit (Nat.le_of_ble_eq_true rfl) (fun q => absurd rfl q) (vg_ok k_X12_whyCommit (stops := []) 66 0 0 _ [] h T)
set_option maxRecDepth 100000 in
set_option maxHeartbeats 4000000 in
theorem t_X12_may {p0 : Int32} {p1 : Int32} {p2 : Int32} {h : PH} {Q : Res → PH → Prop}
    (T : (((∀ j : Nat, 0 ≤ j → j < 8 → ¬ p0 = nI j) → MetPM m_X12_isIn [.long (p1.toInt64), .long (lN 1), .long (lN 9)] h (rI (hnd Q (At m_X12_may Q) 0 [some (.ref 130), some (.int p0), some (.int p1), some (.int p2)] []) (fun x2 h1 => ((x2 = 0 → At m_X12_may Q 165 0 [some (.ref 130), some (.int p0), some (.int p1), some (.int p2)] [] h1) ∧ (¬ x2 = 0 → MetPM m_X12_whyCommit [.ref 130, .int p1] h1 (rI (hnd Q (At m_X12_may Q) 0 [some (.ref 130), some (.int p0), some (.int p1), some (.int p2)] []) (fun x4 h3 => ((¬ x4 = 0 → At m_X12_may Q 165 0 [some (.ref 130), some (.int p0), some (.int p1), some (.int p2)] [] h3) ∧ (x4 = 0 → (isB (nI 1) ∧ Q (.inl (some (.int (nI 1)))) h3)))))))))) ∧ (p0 = nI 0 → MetPM m_X12_mayPass [.ref 130, .int p1] h (rI (hnd Q (At m_X12_may Q) 0 [some (.ref 130), some (.int p0), some (.int p1), some (.int p2)] []) (fun x6 h5 => (isB x6 ∧ Q (.inl (some (.int x6))) h5)))) ∧ (p0 = nI 1 → MetPM m_X12_mayStart [.ref 130] h (rI (hnd Q (At m_X12_may Q) 0 [some (.ref 130), some (.int p0), some (.int p1), some (.int p2)] []) (fun x8 h7 => (isB x8 ∧ Q (.inl (some (.int x8))) h7)))) ∧ (p0 = nI 2 → MetPM m_X12_isGoing [.ref 130] h (rI (hnd Q (At m_X12_may Q) 0 [some (.ref 130), some (.int p0), some (.int p1), some (.int p2)] []) (fun x10 h9 => (isB x10 ∧ Q (.inl (some (.int x10))) h9)))) ∧ (p0 = nI 3 → (vp_in (nI 12) 253 ∧ ((¬ (gi h 132 (nI 12).toNatClampNeg) = (nI 3) → (isB (nI 0) ∧ Q (.inl (some (.int (nI 0)))) h)) ∧ ((gi h 132 (nI 12).toNatClampNeg) = (nI 3) → (isB (nI 1) ∧ Q (.inl (some (.int (nI 1)))) h))))) ∧ (p0 = nI 4 → MetPM m_X12_of [.ref 130, .int p1, .int (nI 5)] h (rI (hnd Q (At m_X12_may Q) 0 [some (.ref 130), some (.int p0), some (.int p1), some (.int p2)] []) (fun x12 h11 => ((¬ x12 = 0 → (isB (nI 0) ∧ Q (.inl (some (.int (nI 0)))) h11)) ∧ (x12 = 0 → (isB (nI 1) ∧ Q (.inl (some (.int (nI 1)))) h11)))))) ∧ (p0 = nI 5 → MetPM m_X12_of [.ref 130, .int p1, .int (nI 5)] h (rI (hnd Q (At m_X12_may Q) 0 [some (.ref 130), some (.int p0), some (.int p1), some (.int p2)] []) (fun x14 h13 => ((¬ x14 = (nI 1) → (isB (nI 0) ∧ Q (.inl (some (.int (nI 0)))) h13)) ∧ (x14 = (nI 1) → (isB (nI 1) ∧ Q (.inl (some (.int (nI 1)))) h13)))))) ∧ (p0 = nI 6 → MetPM m_X12_isDown [.ref 130, .int p1] h (rI (hnd Q (At m_X12_may Q) 0 [some (.ref 130), some (.int p0), some (.int p1), some (.int p2)] []) (fun x16 h15 => ((¬ x16 = 0 → (isB (nI 0) ∧ Q (.inl (some (.int (nI 0)))) h15)) ∧ (x16 = 0 → (isB (nI 1) ∧ Q (.inl (some (.int (nI 1)))) h15)))))) ∧ (p0 = nI 7 → MetPM m_X12_why [.ref 130, .int p1, .int p2] h (rI (hnd Q (At m_X12_may Q) 0 [some (.ref 130), some (.int p0), some (.int p1), some (.int p2)] []) (fun x18 h17 => ((¬ x18 = 0 → (isB (nI 0) ∧ Q (.inl (some (.int (nI 0)))) h17)) ∧ (x18 = 0 → (isB (nI 1) ∧ Q (.inl (some (.int (nI 1)))) h17)))))) ∧ True)) :
    MetPM m_X12_may [.ref 130, .int p0, .int p1, .int p2] h Q := by
  exact met_of o_X12_may (Nat.le_of_ble_eq_true rfl) (fun q => absurd rfl q) (vg_ok k_X12_may (stops := [165]) 122 0 0 _ [] h T)
set_option maxRecDepth 100000 in
set_option maxHeartbeats 4000000 in
theorem u_X12_may_165 {v1 : Int32} {v2 : Int32} {v3 : Int32} {h : PH} {Q : Res → PH → Prop}
    (T : (isB (nI 0) ∧ Q (.inl (some (.int (nI 0)))) h)) :
    At m_X12_may Q 165 0 [some (.ref 130), some (.int v1), some (.int v2), some (.int v3)] [] h := by
  exact vg_ok k_X12_may (stops := [165]) 122 165 0 _ _ h T
set_option maxRecDepth 100000 in
set_option maxHeartbeats 4000000 in
theorem t_X12_notes {p0 : Int32} {p1 : Int32} {p2 : Int32} {h : PH} {Q : Res → PH → Prop}
    (T : (vp_in (nI 19) 253 ∧ ((¬ (nI 30) = 0) ∧ (let y1 : Int32 := (gi h 132 (nI 19).toNatClampNeg); (vp_in (nI 11) 253 ∧ (vp_in ((nI 133) + ((nI 4) * (y1 - y1 / (nI 30) * (nI 30)))) 253 ∧ (let h2 : PH := (si h 132 ((nI 133) + ((nI 4) * (y1 - y1 / (nI 30) * (nI 30)))).toNatClampNeg (gi h 132 (nI 11).toNatClampNeg)); (vp_in (((nI 133) + ((nI 4) * (y1 - y1 / (nI 30) * (nI 30)))) + (nI 1)) 253 ∧ (let h3 : PH := (si h2 132 (((nI 133) + ((nI 4) * (y1 - y1 / (nI 30) * (nI 30)))) + (nI 1)).toNatClampNeg p0); (vp_in (((nI 133) + ((nI 4) * (y1 - y1 / (nI 30) * (nI 30)))) + (nI 2)) 253 ∧ (let h4 : PH := (si h3 132 (((nI 133) + ((nI 4) * (y1 - y1 / (nI 30) * (nI 30)))) + (nI 2)).toNatClampNeg p1); (vp_in (((nI 133) + ((nI 4) * (y1 - y1 / (nI 30) * (nI 30)))) + (nI 3)) 253 ∧ (let h5 : PH := (si h4 132 (((nI 133) + ((nI 4) * (y1 - y1 / (nI 30) * (nI 30)))) + (nI 3)).toNatClampNeg p2); (vp_in (nI 19) 253 ∧ (vp_in (nI 19) 253 ∧ Q (.inl none) (si h5 132 (nI 19).toNatClampNeg ((gi h5 132 (nI 19).toNatClampNeg) + (nI 1)))))))))))))))))) :
    MetPM m_X12_notes [.ref 130, .int p0, .int p1, .int p2] h Q := by
  exact met_of o_X12_notes (Nat.le_of_ble_eq_true rfl) (fun q => absurd rfl q) (vg_ok k_X12_notes (stops := []) 99 0 0 _ [] h T)
set_option maxRecDepth 100000 in
set_option maxHeartbeats 4000000 in
theorem t_X12_endsChanges {h : PH} {Q : Res → PH → Prop}
    (T : At m_X12_endsChanges Q 2 0 [some (.ref 130), some (.int (nI 0))] [] h) :
    MetPM m_X12_endsChanges [.ref 130] h Q := by
  exact met_of o_X12_endsChanges (Nat.le_of_ble_eq_true rfl) (fun q => absurd rfl q) (vg_ok k_X12_endsChanges (stops := [2, 84]) 106 0 0 _ [] h T)
set_option maxRecDepth 100000 in
set_option maxHeartbeats 4000000 in
theorem u_X12_endsChanges_2 {v1 : Int32} {h : PH} {Q : Res → PH → Prop}
    (T : (vp_in (nI 2) 253 ∧ (((gi h 132 (nI 2).toNatClampNeg) ≤ v1 → Q (.inl none) h) ∧ (¬ (gi h 132 (nI 2).toNatClampNeg) ≤ v1 → MetPM m_X12_isDown [.ref 130, .int v1] h (rI (hnd Q (At m_X12_endsChanges Q) 0 [some (.ref 130), some (.int v1)] []) (fun x2 h1 => ((x2 = 0 → At m_X12_endsChanges Q 84 0 [some (.ref 130), some (.int v1)] [] h1) ∧ (¬ x2 = 0 → MetPM m_X12_of [.ref 130, .int v1, .int (nI 3)] h1 (rI (hnd Q (At m_X12_endsChanges Q) 0 [some (.ref 130), some (.int v1)] []) (fun x4 h3 => (vp_in (nI 11) 253 ∧ ((x4 ≤ (gi h3 132 (nI 11).toNatClampNeg) → MetPM m_X12_of [.ref 130, .int v1, .int (nI 2)] h3 (rI (hnd Q (At m_X12_endsChanges Q) 0 [some (.ref 130), some (.int v1)] []) (fun x6 h5 => MetPM m_X12_lays [.ref 130, .int v1, .int (nI 1), .int x6] h5 (rV (hnd Q (At m_X12_endsChanges Q) 0 [some (.ref 130), some (.int v1)] []) (fun h7 => MetPM m_X12_lays [.ref 130, .int v1, .int (nI 2), .int (-(nI 1))] h7 (rV (hnd Q (At m_X12_endsChanges Q) 0 [some (.ref 130), some (.int v1)] []) (fun h8 => MetPM m_X12_lays [.ref 130, .int v1, .int (nI 3), .int (-(nI 1))] h8 (rV (hnd Q (At m_X12_endsChanges Q) 0 [some (.ref 130), some (.int v1)] []) (fun h9 => MetPM m_X12_lays [.ref 130, .int v1, .int (nI 4), .int (nI 0)] h9 (rV (hnd Q (At m_X12_endsChanges Q) 0 [some (.ref 130), some (.int v1)] []) (fun h10 => MetPM m_X12_of [.ref 130, .int v1, .int (nI 1)] h10 (rI (hnd Q (At m_X12_endsChanges Q) 0 [some (.ref 130), some (.int v1)] []) (fun x12 h11 => MetPM m_X12_notes [.ref 130, .int (nI 1), .int v1, .int x12] h11 (rV (hnd Q (At m_X12_endsChanges Q) 0 [some (.ref 130), some (.int v1)] []) (fun h13 => At m_X12_endsChanges Q 84 0 [some (.ref 130), some (.int v1)] [] h13))))))))))))))) ∧ (¬ x4 ≤ (gi h3 132 (nI 11).toNatClampNeg) → At m_X12_endsChanges Q 84 0 [some (.ref 130), some (.int v1)] [] h3))))))))))))) :
    At m_X12_endsChanges Q 2 0 [some (.ref 130), some (.int v1)] [] h := by
  exact vg_ok k_X12_endsChanges (stops := [2, 84]) 106 2 0 _ _ h T
set_option maxRecDepth 100000 in
set_option maxHeartbeats 4000000 in
theorem u_X12_endsChanges_84 {v1 : Int32} {h : PH} {Q : Res → PH → Prop}
    (T : At m_X12_endsChanges Q 2 0 [some (.ref 130), some (.int (v1 + (nI 1)))] [] h) :
    At m_X12_endsChanges Q 84 0 [some (.ref 130), some (.int v1)] [] h := by
  exact vg_ok k_X12_endsChanges (stops := [2, 84]) 106 84 0 _ _ h T
set_option maxRecDepth 100000 in
set_option maxHeartbeats 4000000 in
theorem t_X12_hasPlan {h : PH} {Q : Res → PH → Prop}
    (T : (vp_in (nI 12) 253 ∧ (((gi h 132 (nI 12).toNatClampNeg) = 0 → (isB (nI 0) ∧ Q (.inl (some (.int (nI 0)))) h)) ∧ (¬ (gi h 132 (nI 12).toNatClampNeg) = 0 → (vp_in (nI 12) 253 ∧ (((gi h 132 (nI 12).toNatClampNeg) = (nI 4) → (isB (nI 0) ∧ Q (.inl (some (.int (nI 0)))) h)) ∧ (¬ (gi h 132 (nI 12).toNatClampNeg) = (nI 4) → (isB (nI 1) ∧ Q (.inl (some (.int (nI 1)))) h)))))))) :
    MetPM m_X12_hasPlan [.ref 130] h Q := by
  exact met_of o_X12_hasPlan (Nat.le_of_ble_eq_true rfl) (fun q => absurd rfl q) (vg_ok k_X12_hasPlan (stops := []) 65 0 0 _ [] h T)
set_option maxRecDepth 100000 in
set_option maxHeartbeats 4000000 in
theorem t_X12_isPlanned {p0 : Int32} {h : PH} {Q : Res → PH → Prop}
    (T : MetPM m_X12_of [.ref 130, .int p0, .int (nI 0)] h (rI (hnd Q (At m_X12_isPlanned Q) 0 [some (.ref 130), some (.int p0)] []) (fun x2 h1 => (vp_in ((nI 44) + x2) 253 ∧ (((gi h1 132 ((nI 44) + x2).toNatClampNeg) = (-(nI 1)) → (isB (nI 0) ∧ Q (.inl (some (.int (nI 0)))) h1)) ∧ (¬ (gi h1 132 ((nI 44) + x2).toNatClampNeg) = (-(nI 1)) → (isB (nI 1) ∧ Q (.inl (some (.int (nI 1)))) h1))))))) :
    MetPM m_X12_isPlanned [.ref 130, .int p0] h Q := by
  exact met_of o_X12_isPlanned (Nat.le_of_ble_eq_true rfl) (fun q => absurd rfl q) (vg_ok k_X12_isPlanned (stops := []) 65 0 0 _ [] h T)
set_option maxRecDepth 100000 in
set_option maxHeartbeats 4000000 in
theorem t_X12_isReady {p0 : Int32} {h : PH} {Q : Res → PH → Prop}
    (T : MetPM m_X12_of [.ref 130, .int p0, .int (nI 1)] h (rI (hnd Q (At m_X12_isReady Q) 0 [some (.ref 130), some (.int p0), none] []) (fun x2 h1 => MetPM m_X12_isDown [.ref 130, .int p0] h1 (rI (hnd Q (At m_X12_isReady Q) 0 [some (.ref 130), some (.int p0), some (.int x2)] []) (fun x4 h3 => ((¬ x4 = 0 → (isB (nI 0) ∧ Q (.inl (some (.int (nI 0)))) h3)) ∧ (x4 = 0 → (vp_in (nI 17) 253 ∧ ((¬ (gi h3 132 (nI 17).toNatClampNeg) = (nI 1) → (vp_in (nI 14) 253 ∧ (((gi h3 132 (nI 14).toNatClampNeg) < x2 → (isB (nI 0) ∧ Q (.inl (some (.int (nI 0)))) h3)) ∧ (¬ (gi h3 132 (nI 14).toNatClampNeg) < x2 → (isB (nI 1) ∧ Q (.inl (some (.int (nI 1)))) h3))))) ∧ ((gi h3 132 (nI 17).toNatClampNeg) = (nI 1) → (vp_in (nI 14) 253 ∧ ((x2 < (gi h3 132 (nI 14).toNatClampNeg) → (isB (nI 0) ∧ Q (.inl (some (.int (nI 0)))) h3)) ∧ (¬ x2 < (gi h3 132 (nI 14).toNatClampNeg) → (isB (nI 1) ∧ Q (.inl (some (.int (nI 1)))) h3)))))))))))))) :
    MetPM m_X12_isReady [.ref 130, .int p0] h Q := by
  exact met_of o_X12_isReady (Nat.le_of_ble_eq_true rfl) (fun q => absurd rfl q) (vg_ok k_X12_isReady (stops := []) 82 0 0 _ [] h T)
set_option maxRecDepth 100000 in
set_option maxHeartbeats 4000000 in
theorem t_X12_measures {h : PH} {Q : Res → PH → Prop}
    (T : At m_X12_measures Q 12 0 [some (.ref 130), some (.int (nI 0))] [] (si (si h 130 25 (nI 0)) 130 26 (nI 0))) :
    MetPM m_X12_measures [.ref 130] h Q := by
  exact met_of o_X12_measures (Nat.le_of_ble_eq_true rfl) (fun q => absurd rfl q) (vg_ok k_X12_measures (stops := [12]) 94 0 0 _ [] h T)
set_option maxRecDepth 100000 in
set_option maxHeartbeats 4000000 in
theorem u_X12_measures_12 {v1 : Int32} {h : PH} {Q : Res → PH → Prop}
    (T : (vp_in (nI 2) 253 ∧ (((gi h 132 (nI 2).toNatClampNeg) ≤ v1 → Q (.inl none) h) ∧ (¬ (gi h 132 (nI 2).toNatClampNeg) ≤ v1 → MetPM m_X12_hasPlan [.ref 130] h (rI (hnd Q (At m_X12_measures Q) 0 [some (.ref 130), some (.int v1)] []) (fun x2 h1 => ((x2 = 0 → Q (.inl none) h1) ∧ (¬ x2 = 0 → MetPM m_X12_isPlanned [.ref 130, .int v1] h1 (rI (hnd Q (At m_X12_measures Q) 0 [some (.ref 130), some (.int v1)] []) (fun x4 h3 => ((x4 = 0 → At m_X12_measures Q 12 0 [some (.ref 130), some (.int (v1 + (nI 1)))] [] h3) ∧ (¬ x4 = 0 → MetPM m_X12_isReady [.ref 130, .int v1] h3 (rI (hnd Q (At m_X12_measures Q) 0 [some (.ref 130), some (.int v1)] []) (fun x6 h5 => ((¬ x6 = 0 → MetPM m_X12_of [.ref 130, .int v1, .int (nI 4)] (si h5 130 25 ((gi h5 130 25) + (nI 1))) (rI (hnd Q (At m_X12_measures Q) 0 [some (.ref 130), some (.int v1)] []) (fun x8 h7 => At m_X12_measures Q 12 0 [some (.ref 130), some (.int (v1 + (nI 1)))] [] (si h7 130 26 ((gi (si h5 130 25 ((gi h5 130 25) + (nI 1))) 130 26) + x8))))) ∧ (x6 = 0 → At m_X12_measures Q 12 0 [some (.ref 130), some (.int (v1 + (nI 1)))] [] h5)))))))))))))))) :
    At m_X12_measures Q 12 0 [some (.ref 130), some (.int v1)] [] h := by
  exact vg_ok k_X12_measures (stops := [12]) 94 12 0 _ _ h T
set_option maxRecDepth 100000 in
set_option maxHeartbeats 4000000 in
theorem t_X12_stops {h : PH} {Q : Res → PH → Prop}
    (T : (vp_in (nI 12) 253 ∧ (vp_in (nI 18) 253 ∧ (vp_in (nI 12) 253 ∧ (let h1 : PH := (si (si h 132 (nI 18).toNatClampNeg (gi h 132 (nI 12).toNatClampNeg)) 132 (nI 12).toNatClampNeg (nI 3)); (vp_in (nI 15) 253 ∧ MetPM m_X12_notes [.ref 130, .int (nI 4), .int (-(nI 1)), .int (gi h1 132 (nI 15).toNatClampNeg)] h1 (rV (hnd Q (At m_X12_stops Q) 0 [some (.ref 130)] []) (fun h2 => Q (.inl none) h2)))))))) :
    MetPM m_X12_stops [.ref 130] h Q := by
  exact met_of o_X12_stops (Nat.le_of_ble_eq_true rfl) (fun q => absurd rfl q) (vg_ok k_X12_stops (stops := []) 72 0 0 _ [] h T)
set_option maxRecDepth 100000 in
set_option maxHeartbeats 4000000 in
theorem t_X12_isDone {h : PH} {Q : Res → PH → Prop}
    (T : (vp_in (nI 12) 253 ∧ (vp_in (nI 13) 253 ∧ MetPM m_X12_notes [.ref 130, .int (nI 6), .int (-(nI 1)), .int (gi (si h 132 (nI 12).toNatClampNeg (nI 4)) 132 (nI 13).toNatClampNeg)] (si h 132 (nI 12).toNatClampNeg (nI 4)) (rV (hnd Q (At m_X12_isDone Q) 0 [some (.ref 130)] []) (fun h1 => Q (.inl none) h1))))) :
    MetPM m_X12_isDone [.ref 130] h Q := by
  exact met_of o_X12_isDone (Nat.le_of_ble_eq_true rfl) (fun q => absurd rfl q) (vg_ok k_X12_isDone (stops := []) 64 0 0 _ [] h T)
set_option maxRecDepth 100000 in
set_option maxHeartbeats 4000000 in
theorem t_X12_takesNext {h : PH} {Q : Res → PH → Prop}
    (T : (vp_in (nI 15) 253 ∧ (vp_in (nI 15) 253 ∧ (vp_in (nI 12) 253 ∧ (let h1 : PH := (si (si h 132 (nI 15).toNatClampNeg ((gi h 132 (nI 15).toNatClampNeg) + (nI 1))) 132 (nI 12).toNatClampNeg (nI 1)); (vp_in (nI 15) 253 ∧ (vp_in (nI 3) 253 ∧ (((gi h1 132 (nI 3).toNatClampNeg) ≤ (gi h1 132 (nI 15).toNatClampNeg) → (vp_in (nI 15) 253 ∧ (vp_in (nI 14) 253 ∧ (vp_in (nI 13) 253 ∧ ((¬ (gi (si h1 132 (nI 15).toNatClampNeg (nI 0)) 132 (nI 14).toNatClampNeg) = (gi (si h1 132 (nI 15).toNatClampNeg (nI 0)) 132 (nI 13).toNatClampNeg) → (vp_in (nI 14) 253 ∧ (vp_in (nI 17) 253 ∧ ((¬ (gi (si h1 132 (nI 15).toNatClampNeg (nI 0)) 132 (nI 17).toNatClampNeg) = (nI 1) → (vp_in (nI 14) 253 ∧ (let h2 : PH := (si (si h1 132 (nI 15).toNatClampNeg (nI 0)) 132 (nI 14).toNatClampNeg ((gi (si h1 132 (nI 15).toNatClampNeg (nI 0)) 132 (nI 14).toNatClampNeg) + (-(nI 1)))); Q (.inl none) h2))) ∧ ((gi (si h1 132 (nI 15).toNatClampNeg (nI 0)) 132 (nI 17).toNatClampNeg) = (nI 1) → (vp_in (nI 14) 253 ∧ (let h3 : PH := (si (si h1 132 (nI 15).toNatClampNeg (nI 0)) 132 (nI 14).toNatClampNeg ((gi (si h1 132 (nI 15).toNatClampNeg (nI 0)) 132 (nI 14).toNatClampNeg) + (nI 1))); Q (.inl none) h3))))))) ∧ ((gi (si h1 132 (nI 15).toNatClampNeg (nI 0)) 132 (nI 14).toNatClampNeg) = (gi (si h1 132 (nI 15).toNatClampNeg (nI 0)) 132 (nI 13).toNatClampNeg) → MetPM m_X12_isDone [.ref 130] (si h1 132 (nI 15).toNatClampNeg (nI 0)) (rV (hnd Q (At m_X12_takesNext Q) 0 [some (.ref 130)] []) (fun h4 => Q (.inl none) h4)))))))) ∧ (¬ (gi h1 132 (nI 3).toNatClampNeg) ≤ (gi h1 132 (nI 15).toNatClampNeg) → Q (.inl none) h1))))))))) :
    MetPM m_X12_takesNext [.ref 130] h Q := by
  exact met_of o_X12_takesNext (Nat.le_of_ble_eq_true rfl) (fun q => absurd rfl q) (vg_ok k_X12_takesNext (stops := []) 107 0 0 _ [] h T)
set_option maxRecDepth 100000 in
set_option maxHeartbeats 4000000 in
theorem t_X12_isOfWave {p0 : Int32} {p1 : Int32} {h : PH} {Q : Res → PH → Prop}
    (T : MetPM m_X12_of [.ref 130, .int p0, .int (nI 0)] h (rI (hnd Q (At m_X12_isOfWave Q) 0 [some (.ref 130), some (.int p0), some (.int p1)] []) (fun x2 h1 => (vp_in ((nI 44) + x2) 253 ∧ ((¬ (gi h1 132 ((nI 44) + x2).toNatClampNeg) = p1 → (isB (nI 0) ∧ Q (.inl (some (.int (nI 0)))) h1)) ∧ ((gi h1 132 ((nI 44) + x2).toNatClampNeg) = p1 → (isB (nI 1) ∧ Q (.inl (some (.int (nI 1)))) h1))))))) :
    MetPM m_X12_isOfWave [.ref 130, .int p0, .int p1] h Q := by
  exact met_of o_X12_isOfWave (Nat.le_of_ble_eq_true rfl) (fun q => absurd rfl q) (vg_ok k_X12_isOfWave (stops := []) 65 0 0 _ [] h T)
set_option maxRecDepth 100000 in
set_option maxHeartbeats 4000000 in
theorem t_X12_isFree {p0 : Int32} {h : PH} {Q : Res → PH → Prop}
    (T : MetPM m_X12_isPlanned [.ref 130, .int p0] h (rI (hnd Q (At m_X12_isFree Q) 0 [some (.ref 130), some (.int p0)] []) (fun x2 h1 => ((x2 = 0 → (isB (nI 0) ∧ Q (.inl (some (.int (nI 0)))) h1)) ∧ (¬ x2 = 0 → MetPM m_X12_of [.ref 130, .int p0, .int (nI 5)] h1 (rI (hnd Q (At m_X12_isFree Q) 0 [some (.ref 130), some (.int p0)] []) (fun x4 h3 => ((¬ x4 = 0 → (isB (nI 0) ∧ Q (.inl (some (.int (nI 0)))) h3)) ∧ (x4 = 0 → (isB (nI 1) ∧ Q (.inl (some (.int (nI 1)))) h3)))))))))) :
    MetPM m_X12_isFree [.ref 130, .int p0] h Q := by
  exact met_of o_X12_isFree (Nat.le_of_ble_eq_true rfl) (fun q => absurd rfl q) (vg_ok k_X12_isFree (stops := []) 63 0 0 _ [] h T)
set_option maxRecDepth 100000 in
set_option maxHeartbeats 4000000 in
theorem t_X12_begins {p0 : Int32} {p1 : Int32} {h : PH} {Q : Res → PH → Prop}
    (T : MetPM m_X12_lays [.ref 130, .int p0, .int (nI 2), .int p1] (si h 130 27 ((gi h 130 27) + (nI 1))) (rV (hnd Q (At m_X12_begins Q) 0 [some (.ref 130), some (.int p0), some (.int p1)] []) (fun h1 => (vp_in (nI 11) 253 ∧ (vp_in (nI 8) 253 ∧ MetPM m_X12_lays [.ref 130, .int p0, .int (nI 3), .int ((gi h1 132 (nI 11).toNatClampNeg) + (gi h1 132 (nI 8).toNatClampNeg))] h1 (rV (hnd Q (At m_X12_begins Q) 0 [some (.ref 130), some (.int p0), some (.int p1)] []) (fun h2 => MetPM m_X12_notes [.ref 130, .int (nI 0), .int p0, .int p1] h2 (rV (hnd Q (At m_X12_begins Q) 0 [some (.ref 130), some (.int p0), some (.int p1)] []) (fun h3 => Q (.inl none) h3))))))))) :
    MetPM m_X12_begins [.ref 130, .int p0, .int p1] h Q := by
  exact met_of o_X12_begins (Nat.le_of_ble_eq_true rfl) (fun q => absurd rfl q) (vg_ok k_X12_begins (stops := []) 80 0 0 _ [] h T)
set_option maxRecDepth 100000 in
set_option maxHeartbeats 4000000 in
theorem t_X12_isComplete {h : PH} {Q : Res → PH → Prop}
    (T : At m_X12_isComplete Q 4 0 [some (.ref 130), some (.int (nI 1)), some (.int (nI 0))] [] h) :
    MetPM m_X12_isComplete [.ref 130] h Q := by
  exact met_of o_X12_isComplete (Nat.le_of_ble_eq_true rfl) (fun q => absurd rfl q) (vg_ok k_X12_isComplete (stops := [4]) 86 0 0 _ [] h T)
set_option maxRecDepth 100000 in
set_option maxHeartbeats 4000000 in
theorem u_X12_isComplete_4 {v1 : Int32} {v2 : Int32} {h : PH} {Q : Res → PH → Prop}
    (T : (vp_in (nI 2) 253 ∧ (((gi h 132 (nI 2).toNatClampNeg) ≤ v2 → (isB v1 ∧ Q (.inl (some (.int v1))) h)) ∧ (¬ (gi h 132 (nI 2).toNatClampNeg) ≤ v2 → ((v1 = 0 → At m_X12_isComplete Q 4 0 [some (.ref 130), some (.int (nI 0)), some (.int (v2 + (nI 1)))] [] h) ∧ (¬ v1 = 0 → (vp_in (nI 15) 253 ∧ MetPM m_X12_isOfWave [.ref 130, .int v2, .int (gi h 132 (nI 15).toNatClampNeg)] h (rI (hnd Q (At m_X12_isComplete Q) 0 [some (.ref 130), some (.int v1), some (.int v2)] []) (fun x2 h1 => ((x2 = 0 → At m_X12_isComplete Q 4 0 [some (.ref 130), some (.int (nI 1)), some (.int (v2 + (nI 1)))] [] h1) ∧ (¬ x2 = 0 → MetPM m_X12_isFree [.ref 130, .int v2] h1 (rI (hnd Q (At m_X12_isComplete Q) 0 [some (.ref 130), some (.int v1), some (.int v2)] []) (fun x4 h3 => ((x4 = 0 → At m_X12_isComplete Q 4 0 [some (.ref 130), some (.int (nI 1)), some (.int (v2 + (nI 1)))] [] h3) ∧ (¬ x4 = 0 → MetPM m_X12_isReady [.ref 130, .int v2] h3 (rI (hnd Q (At m_X12_isComplete Q) 0 [some (.ref 130), some (.int v1), some (.int v2)] []) (fun x6 h5 => ((x6 = 0 → At m_X12_isComplete Q 4 0 [some (.ref 130), some (.int (nI 0)), some (.int (v2 + (nI 1)))] [] h5) ∧ (¬ x6 = 0 → At m_X12_isComplete Q 4 0 [some (.ref 130), some (.int (nI 1)), some (.int (v2 + (nI 1)))] [] h5))))))))))))))))))) :
    At m_X12_isComplete Q 4 0 [some (.ref 130), some (.int v1), some (.int v2)] [] h := by
  exact vg_ok k_X12_isComplete (stops := [4]) 86 4 0 _ _ h T
set_option maxRecDepth 100000 in
set_option maxHeartbeats 4000000 in
theorem t_X12_rolls {h : PH} {Q : Res → PH → Prop}
    (T : At m_X12_rolls Q 2 0 [some (.ref 130), some (.int (nI 0))] [] h) :
    MetPM m_X12_rolls [.ref 130] h Q := by
  exact met_of o_X12_rolls (Nat.le_of_ble_eq_true rfl) (fun q => absurd rfl q) (vg_ok k_X12_rolls (stops := [2, 78]) 126 0 0 _ [] h T)
set_option maxRecDepth 100000 in
set_option maxHeartbeats 4000000 in
theorem u_X12_rolls_2 {v1 : Int32} {h : PH} {Q : Res → PH → Prop}
    (T : (vp_in (nI 2) 253 ∧ (((gi h 132 (nI 2).toNatClampNeg) ≤ v1 → MetPM m_X12_isComplete [.ref 130] h (rI (hnd Q (At m_X12_rolls Q) 0 [some (.ref 130), some (.int v1)] []) (fun x2 h1 => ((¬ x2 = 0 → (vp_in (nI 12) 253 ∧ (vp_in (nI 11) 253 ∧ (vp_in (nI 9) 253 ∧ (let y3 : Int32 := ((gi (si h1 132 (nI 12).toNatClampNeg (nI 2)) 132 (nI 11).toNatClampNeg) + (gi (si h1 132 (nI 12).toNatClampNeg (nI 2)) 132 (nI 9).toNatClampNeg)); (vp_in (nI 16) 253 ∧ (vp_in (nI 15) 253 ∧ (let y4 : Int32 := (gi (si (si h1 132 (nI 12).toNatClampNeg (nI 2)) 132 (nI 16).toNatClampNeg y3) 132 (nI 15).toNatClampNeg); MetPM m_X12_notes [.ref 130, .int (nI 3), .int (-(nI 1)), .int y4] (si (si h1 132 (nI 12).toNatClampNeg (nI 2)) 132 (nI 16).toNatClampNeg y3) (rV (hnd Q (At m_X12_rolls Q) 0 [some (.ref 130), some (.int v1)] []) (fun h5 => Q (.inl none) h5)))))))))) ∧ (x2 = 0 → Q (.inl none) h1))))) ∧ (¬ (gi h 132 (nI 2).toNatClampNeg) ≤ v1 → (vp_in (nI 15) 253 ∧ MetPM m_X12_isOfWave [.ref 130, .int v1, .int (gi h 132 (nI 15).toNatClampNeg)] h (rI (hnd Q (At m_X12_rolls Q) 0 [some (.ref 130), some (.int v1)] []) (fun x7 h6 => ((x7 = 0 → At m_X12_rolls Q 78 0 [some (.ref 130), some (.int v1)] [] h6) ∧ (¬ x7 = 0 → MetPM m_X12_isFree [.ref 130, .int v1] h6 (rI (hnd Q (At m_X12_rolls Q) 0 [some (.ref 130), some (.int v1)] []) (fun x9 h8 => ((x9 = 0 → At m_X12_rolls Q 78 0 [some (.ref 130), some (.int v1)] [] h8) ∧ (¬ x9 = 0 → MetPM m_X12_isDown [.ref 130, .int v1] h8 (rI (hnd Q (At m_X12_rolls Q) 0 [some (.ref 130), some (.int v1)] []) (fun x11 h10 => ((¬ x11 = 0 → At m_X12_rolls Q 78 0 [some (.ref 130), some (.int v1)] [] h10) ∧ (x11 = 0 → MetPM m_X12_isReady [.ref 130, .int v1] h10 (rI (hnd Q (At m_X12_rolls Q) 0 [some (.ref 130), some (.int v1)] []) (fun x13 h12 => ((¬ x13 = 0 → At m_X12_rolls Q 78 0 [some (.ref 130), some (.int v1)] [] h12) ∧ (x13 = 0 → (vp_in (nI 14) 253 ∧ MetPM m_X12_why [.ref 130, .int v1, .int (gi h12 132 (nI 14).toNatClampNeg)] h12 (rI (hnd Q (At m_X12_rolls Q) 0 [some (.ref 130), some (.int v1)] []) (fun x15 h14 => ((¬ x15 = 0 → At m_X12_rolls Q 78 0 [some (.ref 130), some (.int v1)] [] h14) ∧ (x15 = 0 → (vp_in (nI 14) 253 ∧ MetPM m_X12_begins [.ref 130, .int v1, .int (gi h14 132 (nI 14).toNatClampNeg)] h14 (rV (hnd Q (At m_X12_rolls Q) 0 [some (.ref 130), some (.int v1)] []) (fun h16 => At m_X12_rolls Q 78 0 [some (.ref 130), some (.int v1)] [] h16))))))))))))))))))))))))))))) :
    At m_X12_rolls Q 2 0 [some (.ref 130), some (.int v1)] [] h := by
  exact vg_ok k_X12_rolls (stops := [2, 78]) 126 2 0 _ _ h T
set_option maxRecDepth 100000 in
set_option maxHeartbeats 4000000 in
theorem u_X12_rolls_78 {v1 : Int32} {h : PH} {Q : Res → PH → Prop}
    (T : At m_X12_rolls Q 2 0 [some (.ref 130), some (.int (v1 + (nI 1)))] [] h) :
    At m_X12_rolls Q 78 0 [some (.ref 130), some (.int v1)] [] h := by
  exact vg_ok k_X12_rolls (stops := [2, 78]) 126 78 0 _ _ h T
