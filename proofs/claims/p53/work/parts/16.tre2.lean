/-! ===== what each method does, step by step, 2 ===== -/
set_option maxRecDepth 100000 in
set_option maxHeartbeats 4000000 in
theorem t_X8_reset {h : PH} {Q : Res → PH → Prop}
    (T : (let h1 : PH := (si (si (si (si (si (si h 74 1 (nI 0)) 74 2 (nI 1)) 74 7 (nI 0)) 74 8 (nI 0)) 74 9 (nI 0)) 74 10 (-(nI 1))); (isB (nI 0) ∧ (let h2 : PH := (si (si (si (si (si h1 74 11 (-(nI 1))) 74 12 (nI 0)) 74 13 (-(nI 1))) 74 14 (-(nI 1))) 79 1 (nI 0)); Q (.inl none) h2)))) :
    MetPM m_X8_reset [.ref 74] h Q := by
  exact met_of o_X8_reset (Nat.le_of_ble_eq_true rfl) (fun q => absurd rfl q) (vg_ok k_X8_reset (stops := []) 85 0 0 _ [] h T)
set_option maxRecDepth 100000 in
set_option maxHeartbeats 4000000 in
theorem t_X8_canJoin {p0 : Int32} {p1 : Int32} {h : PH} {Q : Res → PH → Prop}
    (T : MetPM m_X5_talkersOf [.ref 30, .int p1] h (rI (hnd Q (At m_X8_canJoin Q) 0 [some (.ref 74), some (.int p0), some (.int p1), none, none, none] []) (fun x2 h1 => MetPM m_X5_isReader [.ref 30, .int p1, .int (gi h1 74 2)] h1 (rI (hnd Q (At m_X8_canJoin Q) 0 [some (.ref 74), some (.int p0), some (.int p1), some (.int x2), none, none] []) (fun x4 h3 => At m_X8_canJoin Q 26 0 [some (.ref 74), some (.int p0), some (.int p1), some (.int x2), some (.int x4), some (.int (nI 0))] [] h3))))) :
    MetPM m_X8_canJoin [.ref 74, .int p0, .int p1] h Q := by
  exact met_of o_X8_canJoin (Nat.le_of_ble_eq_true rfl) (fun q => absurd rfl q) (vg_ok k_X8_canJoin (stops := [26]) 105 0 0 _ [] h T)
set_option maxRecDepth 100000 in
set_option maxHeartbeats 4000000 in
theorem u_X8_canJoin_26 {v1 : Int32} {v2 : Int32} {v3 : Int32} {v4 : Int32} {v5 : Int32} {h : PH} {Q : Res → PH → Prop}
    (T : (((gi h 41 1) ≤ v5 → (isB v4 ∧ Q (.inl (some (.int v4))) h)) ∧ (¬ (gi h 41 1) ≤ v5 → (vp_in v5 12 ∧ (let y1 : Int32 := (if 0 ≤ ((gi h 75 v5.toNatClampNeg) - v2) then ((gi h 75 v5.toNatClampNeg) - v2) else 0 - ((gi h 75 v5.toNatClampNeg) - v2)); (((gi h 30 13) < y1 → At m_X8_canJoin Q 26 0 [some (.ref 74), some (.int v1), some (.int v2), some (.int v3), some (.int (v4 &&& (nI 0))), some (.int (v5 + (nI 1)))] [] h) ∧ (¬ (gi h 30 13) < y1 → (vp_in v5 12 ∧ ((¬ (gi h 43 v5.toNatClampNeg) = v1 → At m_X8_canJoin Q 26 0 [some (.ref 74), some (.int v1), some (.int v2), some (.int v3), some (.int (v4 &&& (nI 1))), some (.int (v5 + (nI 1)))] [] h) ∧ ((gi h 43 v5.toNatClampNeg) = v1 → (vp_in v5 12 ∧ MetPM m_X11_isIn [.int v3, .int (gi h 75 v5.toNatClampNeg)] h (rI (hnd Q (At m_X8_canJoin Q) 0 [some (.ref 74), some (.int v1), some (.int v2), some (.int v3), some (.int v4), some (.int v5)] []) (fun x3 h2 => ((x3 = 0 → At m_X8_canJoin Q 26 0 [some (.ref 74), some (.int v1), some (.int v2), some (.int v3), some (.int (v4 &&& (nI 0))), some (.int (v5 + (nI 1)))] [] h2) ∧ (¬ x3 = 0 → At m_X8_canJoin Q 26 0 [some (.ref 74), some (.int v1), some (.int v2), some (.int v3), some (.int (v4 &&& (nI 1))), some (.int (v5 + (nI 1)))] [] h2))))))))))))))) :
    At m_X8_canJoin Q 26 0 [some (.ref 74), some (.int v1), some (.int v2), some (.int v3), some (.int v4), some (.int v5)] [] h := by
  exact vg_ok k_X8_canJoin (stops := [26]) 105 26 0 _ _ h T
set_option maxRecDepth 100000 in
set_option maxHeartbeats 4000000 in
theorem t_X8_addMember {p0 : Int64} {p1 : Int32} {p2 : Int32} {p3 : Int32} {h : PH} {Q : Res → PH → Prop}
    (T : (((nI 12) ≤ (gi h 41 1) → Q (.inl none) h) ∧ (¬ (nI 12) ≤ (gi h 41 1) → MetPM m_X5_addMember [.ref 30, .long p0, .int p1] h (rV (hnd Q (At m_X8_addMember Q) 0 [some (.ref 74), some (.long p0), none, some (.int p1), some (.int p2), some (.int p3), some (.int (gi h 41 1))] []) (fun h1 => (vp_in (gi h 41 1) 12 ∧ (vp_in (gi h 41 1) 12 ∧ (vp_in (gi h 41 1) 12 ∧ (let h2 : PH := (si (si (si h1 75 (gi h 41 1).toNatClampNeg p2) 76 (gi h 41 1).toNatClampNeg p2) 77 (gi h 41 1).toNatClampNeg (-(nI 1))); (vp_in (gi h 41 1) 12 ∧ ((p3 = 0 → (let h3 : PH := (si (si h2 78 (gi h 41 1).toNatClampNeg (nI 0)) 74 8 ((gi (si h2 78 (gi h 41 1).toNatClampNeg (nI 0)) 74 8) ||| (nI 0))); Q (.inl none) h3)) ∧ (¬ p3 = 0 → (let y4 : Int32 := ((gi (si h2 78 (gi h 41 1).toNatClampNeg (nI 0)) 74 8) ||| ((nI 1) <<< ((gi h 41 1) &&& 31))); Q (.inl none) (si (si h2 78 (gi h 41 1).toNatClampNeg (nI 0)) 74 8 y4)))))))))))))) :
    MetPM m_X8_addMember [.ref 74, .long p0, .int p1, .int p2, .int p3] h Q := by
  exact met_of o_X8_addMember (Nat.le_of_ble_eq_true rfl) (fun q => absurd rfl q) (vg_ok k_X8_addMember (stops := []) 96 0 0 _ [] h T)
set_option maxRecDepth 100000 in
set_option maxHeartbeats 4000000 in
theorem t_X8_copyFrom {a b0 : Nat} (hab : (a = 67 ∧ b0 = 60) ∨ (a = 60 ∧ b0 = 74) ∨ (a = 81 ∧ b0 = 60) ∨ (a = 60 ∧ b0 = 81) ∨ (a = 88 ∧ b0 = 60) ∨ (a = 95 ∧ b0 = 60) ∨ (a = 102 ∧ b0 = 60) ∨ (a = 109 ∧ b0 = 60) ∨ (a = 116 ∧ b0 = 60) ∨ (a = 123 ∧ b0 = 60) ∨ (a = 60 ∧ b0 = 88) ∨ (a = 60 ∧ b0 = 95) ∨ (a = 60 ∧ b0 = 102) ∨ (a = 60 ∧ b0 = 109) ∨ (a = 60 ∧ b0 = 116) ∨ (a = 60 ∧ b0 = 123)) {h : PH} {Q : Res → PH → Prop}
    (T : MetPM m_X11_copyRow [.ref (b0 + 1), .ref (a + 1)] (si (si h a 1 (gi h b0 1)) a 2 (gi (si h a 1 (gi h b0 1)) b0 2)) (rV (hnd Q (At m_X8_copyFrom Q) 0 [some (.ref a), some (.ref b0)] []) (fun h1 => MetPM m_X11_copyRow [.ref (b0 + 2), .ref (a + 2)] h1 (rV (hnd Q (At m_X8_copyFrom Q) 0 [some (.ref a), some (.ref b0)] []) (fun h2 => MetPM m_X11_copyRow [.ref (b0 + 3), .ref (a + 3)] h2 (rV (hnd Q (At m_X8_copyFrom Q) 0 [some (.ref a), some (.ref b0)] []) (fun h3 => MetPM m_X11_copyRow [.ref (b0 + 4), .ref (a + 4)] h3 (rV (hnd Q (At m_X8_copyFrom Q) 0 [some (.ref a), some (.ref b0)] []) (fun h4 => (let h5 : PH := (si (si (si h4 a 7 (gi h4 b0 7)) a 8 (gi (si h4 a 7 (gi h4 b0 7)) b0 8)) a 9 (gi (si (si h4 a 7 (gi h4 b0 7)) a 8 (gi (si h4 a 7 (gi h4 b0 7)) b0 8)) b0 9)); (isB (gi (si (si h5 a 10 (gi h5 b0 10)) a 11 (gi (si h5 a 10 (gi h5 b0 10)) b0 11)) b0 12) ∧ (let h6 : PH := (si (si (si h5 a 10 (gi h5 b0 10)) a 11 (gi (si h5 a 10 (gi h5 b0 10)) b0 11)) a 12 (gi (si (si h5 a 10 (gi h5 b0 10)) a 11 (gi (si h5 a 10 (gi h5 b0 10)) b0 11)) b0 12)); MetPM m_X3_copyFrom [.ref (a + 5), .ref (b0 + 5)] (si (si h6 a 13 (gi h6 b0 13)) a 14 (gi (si h6 a 13 (gi h6 b0 13)) b0 14)) (rV (hnd Q (At m_X8_copyFrom Q) 0 [some (.ref a), some (.ref b0)] []) (fun h7 => Q (.inl none) h7)))))))))))))) :
    MetPM m_X8_copyFrom [.ref a, .ref b0] h Q := by
  rcases hab with ⟨rfl, rfl⟩ | ⟨rfl, rfl⟩ | ⟨rfl, rfl⟩ | ⟨rfl, rfl⟩ | ⟨rfl, rfl⟩ | ⟨rfl, rfl⟩ | ⟨rfl, rfl⟩ | ⟨rfl, rfl⟩ | ⟨rfl, rfl⟩ | ⟨rfl, rfl⟩ | ⟨rfl, rfl⟩ | ⟨rfl, rfl⟩ | ⟨rfl, rfl⟩ | ⟨rfl, rfl⟩ | ⟨rfl, rfl⟩ | ⟨rfl, rfl⟩
  all_goals exact met_of o_X8_copyFrom (Nat.le_of_ble_eq_true rfl) (fun q => absurd rfl q) (vg_ok k_X8_copyFrom (stops := []) 116 0 0 _ [] h T)
set_option maxRecDepth 100000 in
set_option maxHeartbeats 4000000 in
theorem t_X8_replaceBy_1 {h : PH} {Q : Res → PH → Prop}
    (T : MetPM m_X5_copyFrom [.ref 15, .ref 30] h (rV (hnd Q (At m_X8_replaceBy Q) 0 [some (.ref 60), some (.ref 74)] []) (fun h1 => MetPM m_X8_copyFrom [.ref 60, .ref 74] h1 (rV (hnd Q (At m_X8_replaceBy Q) 0 [some (.ref 60), some (.ref 74)] []) (fun h2 => Q (.inl none) h2))))) :
    MetPM m_X8_replaceBy [.ref 60, .ref 74] h Q := by
  exact met_of o_X8_replaceBy (Nat.le_of_ble_eq_true rfl) (fun q => absurd rfl q) (vg_ok k_X8_replaceBy (stops := []) 59 0 0 _ [] h T)
set_option maxRecDepth 100000 in
set_option maxHeartbeats 4000000 in
theorem t_X8_replaceBy_2 {h : PH} {Q : Res → PH → Prop}
    (T : MetPM m_X5_copyFrom [.ref 45, .ref 15] h (rV (hnd Q (At m_X8_replaceBy Q) 0 [some (.ref 81), some (.ref 60)] []) (fun h1 => MetPM m_X8_copyFrom [.ref 81, .ref 60] h1 (rV (hnd Q (At m_X8_replaceBy Q) 0 [some (.ref 81), some (.ref 60)] []) (fun h2 => Q (.inl none) h2))))) :
    MetPM m_X8_replaceBy [.ref 81, .ref 60] h Q := by
  exact met_of o_X8_replaceBy (Nat.le_of_ble_eq_true rfl) (fun q => absurd rfl q) (vg_ok k_X8_replaceBy (stops := []) 59 0 0 _ [] h T)
set_option maxRecDepth 100000 in
set_option maxHeartbeats 4000000 in
theorem t_X8_replaceBy_3 {h : PH} {Q : Res → PH → Prop}
    (T : MetPM m_X5_copyFrom [.ref 15, .ref 45] h (rV (hnd Q (At m_X8_replaceBy Q) 0 [some (.ref 60), some (.ref 81)] []) (fun h1 => MetPM m_X8_copyFrom [.ref 60, .ref 81] h1 (rV (hnd Q (At m_X8_replaceBy Q) 0 [some (.ref 60), some (.ref 81)] []) (fun h2 => Q (.inl none) h2))))) :
    MetPM m_X8_replaceBy [.ref 60, .ref 81] h Q := by
  exact met_of o_X8_replaceBy (Nat.le_of_ble_eq_true rfl) (fun q => absurd rfl q) (vg_ok k_X8_replaceBy (stops := []) 59 0 0 _ [] h T)
set_option maxRecDepth 100000 in
set_option maxHeartbeats 4000000 in
theorem t_X8_isUp {a : Nat} (ha : a = 60 ∨ a = 67) {p0 : Int32} {h : PH} {Q : Res → PH → Prop}
    (T : (vp_in p0 12 ∧ ((¬ (gi h (a + 3) p0.toNatClampNeg) = (-(nI 1)) → (isB (nI 0) ∧ Q (.inl (some (.int (nI 0)))) h)) ∧ ((gi h (a + 3) p0.toNatClampNeg) = (-(nI 1)) → (isB (nI 1) ∧ Q (.inl (some (.int (nI 1)))) h))))) :
    MetPM m_X8_isUp [.ref a, .int p0] h Q := by
  rcases ha with rfl | rfl
  all_goals exact met_of o_X8_isUp (Nat.le_of_ble_eq_true rfl) (fun q => absurd rfl q) (vg_ok k_X8_isUp (stops := []) 60 0 0 _ [] h T)
set_option maxRecDepth 100000 in
set_option maxHeartbeats 4000000 in
theorem t_X8_numberOfMember {a : Nat} (ha : a = 60 ∨ a = 67) {p0 : Int32} {p1 : Int32} {h : PH} {Q : Res → PH → Prop}
    (T : (((∀ j : Nat, 0 ≤ j → j < 7 → ¬ p1 = nI j) → Q (.inl (some (.int (-(nI 1))))) h) ∧ (p1 = nI 0 → (vp_in p0 12 ∧ Q (.inl (some (.int (gi h 28 p0.toNatClampNeg)))) h)) ∧ (p1 = nI 1 → (vp_in p0 12 ∧ Q (.inl (some (.int (gi h (a + 1) p0.toNatClampNeg)))) h)) ∧ (p1 = nI 2 → MetPM m_X8_isUp [.ref a, .int p0] h (rI (hnd Q (At m_X8_numberOfMember Q) 0 [some (.ref a), some (.int p0), some (.int p1)] []) (fun x2 h1 => ((x2 = 0 → (vp_in p0 12 ∧ Q (.inl (some (.int (gi h1 (a + 2) p0.toNatClampNeg)))) h1)) ∧ (¬ x2 = 0 → Q (.inl (some (.int (-(nI 1))))) h1))))) ∧ (p1 = nI 3 → (vp_in p0 12 ∧ Q (.inl (some (.int (gi h (a + 3) p0.toNatClampNeg)))) h)) ∧ (p1 = nI 4 → (vp_in p0 12 ∧ Q (.inl (some (.int (gi h (a + 4) p0.toNatClampNeg)))) h)) ∧ (p1 = nI 5 → MetPM m_X11_isIn [.int (gi h a 8), .int p0] h (rI (hnd Q (At m_X8_numberOfMember Q) 0 [some (.ref a), some (.int p0), some (.int p1)] []) (fun x4 h3 => ((x4 = 0 → Q (.inl (some (.int (nI 0)))) h3) ∧ (¬ x4 = 0 → Q (.inl (some (.int (nI 1)))) h3))))) ∧ (p1 = nI 6 → MetPM m_X5_waveOf [.ref 15, .int p0] h (rI (hnd Q (At m_X8_numberOfMember Q) 0 [some (.ref a), some (.int p0), some (.int p1)] []) (fun x6 h5 => Q (.inl (some (.int x6))) h5))) ∧ True)) :
    MetPM m_X8_numberOfMember [.ref a, .int p0, .int p1] h Q := by
  rcases ha with rfl | rfl
  all_goals exact met_of o_X8_numberOfMember (Nat.le_of_ble_eq_true rfl) (fun q => absurd rfl q) (vg_ok k_X8_numberOfMember (stops := []) 100 0 0 _ [] h T)
set_option maxRecDepth 100000 in
set_option maxHeartbeats 4000000 in
theorem t_X8_highestComing {a : Nat} (ha : a = 60 ∨ a = 67) {p0 : Int32} {h : PH} {Q : Res → PH → Prop}
    (T : At m_X8_highestComing Q 4 0 [some (.ref a), some (.int p0), some (.int (-(nI 1))), some (.int (nI 0))] [] h) :
    MetPM m_X8_highestComing [.ref a, .int p0] h Q := by
  rcases ha with rfl | rfl
  all_goals exact met_of o_X8_highestComing (Nat.le_of_ble_eq_true rfl) (fun q => absurd rfl q) (vg_ok k_X8_highestComing (stops := [4]) 75 0 0 _ [] h T)
set_option maxRecDepth 100000 in
set_option maxHeartbeats 4000000 in
theorem u_X8_highestComing_4 {a : Nat} (ha : a = 60 ∨ a = 67) {v1 : Int32} {v2 : Int32} {v3 : Int32} {h : PH} {Q : Res → PH → Prop}
    (T : (((gi h 26 1) ≤ v3 → Q (.inl (some (.int v2))) h) ∧ (¬ (gi h 26 1) ≤ v3 → MetPM m_X11_isIn [.int v1, .int v3] h (rI (hnd Q (At m_X8_highestComing Q) 0 [some (.ref a), some (.int v1), some (.int v2), some (.int v3)] []) (fun x2 h1 => ((x2 = 0 → At m_X8_highestComing Q 4 0 [some (.ref a), some (.int v1), some (.int v2), some (.int (v3 + (nI 1)))] [] h1) ∧ (¬ x2 = 0 → (vp_in v3 12 ∧ At m_X8_highestComing Q 4 0 [some (.ref a), some (.int v1), some (.int (if v2 < (gi h1 (a + 2) v3.toNatClampNeg) then (gi h1 (a + 2) v3.toNatClampNeg) else v2)), some (.int (v3 + (nI 1)))] [] h1)))))))) :
    At m_X8_highestComing Q 4 0 [some (.ref a), some (.int v1), some (.int v2), some (.int v3)] [] h := by
  rcases ha with rfl | rfl
  all_goals exact vg_ok k_X8_highestComing (stops := [4]) 75 4 0 _ _ h T
set_option maxRecDepth 100000 in
set_option maxHeartbeats 4000000 in
theorem t_X8_lowestComing {a : Nat} (ha : a = 60 ∨ a = 67) {p0 : Int32} {h : PH} {Q : Res → PH → Prop}
    (T : At m_X8_lowestComing Q 5 0 [some (.ref a), some (.int p0), some (.int (nI 8)), some (.int (nI 0))] [] h) :
    MetPM m_X8_lowestComing [.ref a, .int p0] h Q := by
  rcases ha with rfl | rfl
  all_goals exact met_of o_X8_lowestComing (Nat.le_of_ble_eq_true rfl) (fun q => absurd rfl q) (vg_ok k_X8_lowestComing (stops := [5]) 75 0 0 _ [] h T)
set_option maxRecDepth 100000 in
set_option maxHeartbeats 4000000 in
theorem u_X8_lowestComing_5 {a : Nat} (ha : a = 60 ∨ a = 67) {v1 : Int32} {v2 : Int32} {v3 : Int32} {h : PH} {Q : Res → PH → Prop}
    (T : (((gi h 26 1) ≤ v3 → Q (.inl (some (.int v2))) h) ∧ (¬ (gi h 26 1) ≤ v3 → MetPM m_X11_isIn [.int v1, .int v3] h (rI (hnd Q (At m_X8_lowestComing Q) 0 [some (.ref a), some (.int v1), some (.int v2), some (.int v3)] []) (fun x2 h1 => ((x2 = 0 → At m_X8_lowestComing Q 5 0 [some (.ref a), some (.int v1), some (.int v2), some (.int (v3 + (nI 1)))] [] h1) ∧ (¬ x2 = 0 → (vp_in v3 12 ∧ At m_X8_lowestComing Q 5 0 [some (.ref a), some (.int v1), some (.int (if (gi h1 (a + 2) v3.toNatClampNeg) < v2 then (gi h1 (a + 2) v3.toNatClampNeg) else v2)), some (.int (v3 + (nI 1)))] [] h1)))))))) :
    At m_X8_lowestComing Q 5 0 [some (.ref a), some (.int v1), some (.int v2), some (.int v3)] [] h := by
  rcases ha with rfl | rfl
  all_goals exact vg_ok k_X8_lowestComing (stops := [5]) 75 5 0 _ _ h T
set_option maxRecDepth 100000 in
set_option maxHeartbeats 4000000 in
theorem t_X8_opponents {a : Nat} (ha : a = 60 ∨ a = 67) {p0 : Int32} {p1 : Int32} {h : PH} {Q : Res → PH → Prop}
    (T : MetPM m_X5_talkersOf [.ref 15, .int p1] h (rI (hnd Q (At m_X8_opponents Q) 0 [some (.ref a), some (.int p0), some (.int p1), none, none, none] []) (fun x2 h1 => (vp_in p0 12 ∧ At m_X8_opponents Q 23 0 [some (.ref a), some (.int p0), some (.int p1), some (.int x2), some (.int (gi h1 29 p0.toNatClampNeg)), some (.int (nI 0))] [] h1)))) :
    MetPM m_X8_opponents [.ref a, .int p0, .int p1] h Q := by
  rcases ha with rfl | rfl
  all_goals exact met_of o_X8_opponents (Nat.le_of_ble_eq_true rfl) (fun q => absurd rfl q) (vg_ok k_X8_opponents (stops := [23]) 88 0 0 _ [] h T)
set_option maxRecDepth 100000 in
set_option maxHeartbeats 4000000 in
theorem u_X8_opponents_23 {a : Nat} (ha : a = 60 ∨ a = 67) {v1 : Int32} {v2 : Int32} {v3 : Int32} {v4 : Int32} {v5 : Int32} {h : PH} {Q : Res → PH → Prop}
    (T : (((gi h 26 1) ≤ v5 → Q (.inl (some (.int v4))) h) ∧ (¬ (gi h 26 1) ≤ v5 → (vp_in v5 12 ∧ MetPM m_X11_isIn [.int v3, .int (gi h (a + 2) v5.toNatClampNeg)] h (rI (hnd Q (At m_X8_opponents Q) 0 [some (.ref a), some (.int v1), some (.int v2), some (.int v3), some (.int v4), some (.int v5)] []) (fun x2 h1 => ((x2 = 0 → At m_X8_opponents Q 23 0 [some (.ref a), some (.int v1), some (.int v2), some (.int v3), some (.int v4), some (.int (v5 + (nI 1)))] [] h1) ∧ (¬ x2 = 0 → At m_X8_opponents Q 23 0 [some (.ref a), some (.int v1), some (.int v2), some (.int v3), some (.int (v4 &&& (((nI 1) <<< (v5 &&& 31)) ^^^ (-(nI 1))))), some (.int (v5 + (nI 1)))] [] h1)))))))) :
    At m_X8_opponents Q 23 0 [some (.ref a), some (.int v1), some (.int v2), some (.int v3), some (.int v4), some (.int v5)] [] h := by
  rcases ha with rfl | rfl
  all_goals exact vg_ok k_X8_opponents (stops := [23]) 88 23 0 _ _ h T
set_option maxRecDepth 100000 in
set_option maxHeartbeats 4000000 in
theorem t_X8_whyNotBegin {a : Nat} (ha : a = 60 ∨ a = 67) {p0 : Int32} {p1 : Int32} {h : PH} {Q : Res → PH → Prop}
    (T : MetPM m_X11_isIn [.int (gi h a 8), .int p0] h (rI (hnd Q (At m_X8_whyNotBegin Q) 0 [some (.ref a), some (.int p0), some (.int p1), none, none] []) (fun x2 h1 => ((x2 = 0 → MetPM m_X8_isUp [.ref a, .int p0] h1 (rI (hnd Q (At m_X8_whyNotBegin Q) 0 [some (.ref a), some (.int p0), some (.int p1), none, none] []) (fun x4 h3 => ((¬ x4 = 0 → (vp_in p0 12 ∧ ((¬ (gi h3 (a + 1) p0.toNatClampNeg) = p1 → MetPM m_X5_isReader [.ref 15, .int p1, .int (gi h3 a 2)] h3 (rI (hnd Q (At m_X8_whyNotBegin Q) 0 [some (.ref a), some (.int p0), some (.int p1), none, none] []) (fun x6 h5 => ((¬ x6 = 0 → MetPM m_X5_neighboursOf [.ref 15, .int p0] h5 (rI (hnd Q (At m_X8_whyNotBegin Q) 0 [some (.ref a), some (.int p0), some (.int p1), none, none] []) (fun x8 h7 => MetPM m_J6_bitCount_0f7a4 [.int (x8 &&& (gi h7 a 7))] h7 (rI (hnd Q (At m_X8_whyNotBegin Q) 0 [some (.ref a), some (.int p0), some (.int p1), some (.int (x8 &&& (gi h7 a 7))), none] []) (fun x10 h9 => ((x10 < (gi h9 15 14) → At m_X8_whyNotBegin Q 85 0 [some (.ref a), some (.int p0), some (.int p1), some (.int (x8 &&& (gi h7 a 7))), some (.int (nI 0))] [] h9) ∧ (¬ x10 < (gi h9 15 14) → Q (.inl (some (.int (nI 5)))) h9))))))) ∧ (x6 = 0 → Q (.inl (some (.int (nI 4)))) h5))))) ∧ ((gi h3 (a + 1) p0.toNatClampNeg) = p1 → Q (.inl (some (.int (nI 3)))) h3)))) ∧ (x4 = 0 → Q (.inl (some (.int (nI 2)))) h3))))) ∧ (¬ x2 = 0 → Q (.inl (some (.int (nI 1)))) h1))))) :
    MetPM m_X8_whyNotBegin [.ref a, .int p0, .int p1] h Q := by
  rcases ha with rfl | rfl
  all_goals exact met_of o_X8_whyNotBegin (Nat.le_of_ble_eq_true rfl) (fun q => absurd rfl q) (vg_ok k_X8_whyNotBegin (stops := [85, 131]) 131 0 0 _ [] h T)
set_option maxRecDepth 100000 in
set_option maxHeartbeats 4000000 in
theorem u_X8_whyNotBegin_85 {a : Nat} (ha : a = 60 ∨ a = 67) {v1 : Int32} {v2 : Int32} {v3 : Int32} {v4 : Int32} {h : PH} {Q : Res → PH → Prop}
    (T : (((gi h 26 1) ≤ v4 → MetPM m_X8_opponents [.ref a, .int v1, .int v2] h (rI (hnd Q (At m_X8_whyNotBegin Q) 0 [some (.ref a), some (.int v1), some (.int v2), some (.int v3), some (.int v4)] []) (fun x2 h1 => ((¬ x2 = 0 → Q (.inl (some (.int (nI 7)))) h1) ∧ (x2 = 0 → Q (.inl (some (.int (nI 0)))) h1))))) ∧ (¬ (gi h 26 1) ≤ v4 → ((v4 = v1 → At m_X8_whyNotBegin Q 131 0 [some (.ref a), some (.int v1), some (.int v2), some (.int v3), some (.int v4)] [] h) ∧ (¬ v4 = v1 → (vp_in v4 12 ∧ (let y3 : Int32 := (if 0 ≤ ((gi h (a + 2) v4.toNatClampNeg) - v2) then ((gi h (a + 2) v4.toNatClampNeg) - v2) else 0 - ((gi h (a + 2) v4.toNatClampNeg) - v2)); ((y3 ≤ (gi h 15 13) → At m_X8_whyNotBegin Q 131 0 [some (.ref a), some (.int v1), some (.int v2), some (.int v3), some (.int v4)] [] h) ∧ (¬ y3 ≤ (gi h 15 13) → Q (.inl (some (.int (nI 6)))) h))))))))) :
    At m_X8_whyNotBegin Q 85 0 [some (.ref a), some (.int v1), some (.int v2), some (.int v3), some (.int v4)] [] h := by
  rcases ha with rfl | rfl
  all_goals exact vg_ok k_X8_whyNotBegin (stops := [85, 131]) 131 85 0 _ _ h T
set_option maxRecDepth 100000 in
set_option maxHeartbeats 4000000 in
theorem u_X8_whyNotBegin_131 {a : Nat} (ha : a = 60 ∨ a = 67) {v1 : Int32} {v2 : Int32} {v3 : Int32} {v4 : Int32} {h : PH} {Q : Res → PH → Prop}
    (T : At m_X8_whyNotBegin Q 85 0 [some (.ref a), some (.int v1), some (.int v2), some (.int v3), some (.int (v4 + (nI 1)))] [] h) :
    At m_X8_whyNotBegin Q 131 0 [some (.ref a), some (.int v1), some (.int v2), some (.int v3), some (.int v4)] [] h := by
  rcases ha with rfl | rfl
  all_goals exact vg_ok k_X8_whyNotBegin (stops := [85, 131]) 131 131 0 _ _ h T
set_option maxRecDepth 100000 in
set_option maxHeartbeats 4000000 in
theorem t_X8_isUnderWay {a : Nat} (ha : a = 60 ∨ a = 67) {h : PH} {Q : Res → PH → Prop}
    (T : (((gi h a 9) = 0 → (isB (nI 0) ∧ Q (.inl (some (.int (nI 0)))) h)) ∧ (¬ (gi h a 9) = 0 → (((gi h a 9) = (nI 4) → (isB (nI 0) ∧ Q (.inl (some (.int (nI 0)))) h)) ∧ (¬ (gi h a 9) = (nI 4) → (isB (nI 1) ∧ Q (.inl (some (.int (nI 1)))) h)))))) :
    MetPM m_X8_isUnderWay [.ref a] h Q := by
  rcases ha with rfl | rfl
  all_goals exact met_of o_X8_isUnderWay (Nat.le_of_ble_eq_true rfl) (fun q => absurd rfl q) (vg_ok k_X8_isUnderWay (stops := []) 61 0 0 _ [] h T)
set_option maxRecDepth 100000 in
set_option maxHeartbeats 4000000 in
theorem t_X8_numberOfPlan {a : Nat} (ha : a = 60 ∨ a = 67) {p0 : Int32} {h : PH} {Q : Res → PH → Prop}
    (T : ((¬ p0 = 0 → MetPM m_X8_isUnderWay [.ref a] h (rI (hnd Q (At m_X8_numberOfPlan Q) 0 [some (.ref a), some (.int p0)] []) (fun x2 h1 => ((¬ x2 = 0 → (((∀ j : Nat, 1 ≤ j → j < 5 → ¬ p0 = nI j) → Q (.inl (some (.int (-(nI 1))))) h1) ∧ (p0 = nI 1 → Q (.inl (some (.int (gi h1 a 10)))) h1) ∧ (p0 = nI 2 → Q (.inl (some (.int (gi h1 a 11)))) h1) ∧ (p0 = nI 3 → Q (.inl (some (.int (gi h1 a 13)))) h1) ∧ (p0 = nI 4 → Q (.inl (some (.int (gi h1 a 14)))) h1) ∧ True)) ∧ (x2 = 0 → Q (.inl (some (.int (-(nI 1))))) h1))))) ∧ (p0 = 0 → Q (.inl (some (.int (gi h a 9)))) h))) :
    MetPM m_X8_numberOfPlan [.ref a, .int p0] h Q := by
  rcases ha with rfl | rfl
  all_goals exact met_of o_X8_numberOfPlan (Nat.le_of_ble_eq_true rfl) (fun q => absurd rfl q) (vg_ok k_X8_numberOfPlan (stops := []) 76 0 0 _ [] h T)
set_option maxRecDepth 100000 in
set_option maxHeartbeats 4000000 in
theorem t_X8_isReadByAll {a : Nat} (ha : a = 60 ∨ a = 67) {p0 : Int32} {h : PH} {Q : Res → PH → Prop}
    (T : MetPM m_X5_readersOf [.ref 15, .int p0] h (rI (hnd Q (At m_X8_isReadByAll Q) 0 [some (.ref a), some (.int p0), none, none] []) (fun x2 h1 => At m_X8_isReadByAll Q 11 0 [some (.ref a), some (.int p0), some (.int x2), some (.int (nI 0))] [] h1))) :
    MetPM m_X8_isReadByAll [.ref a, .int p0] h Q := by
  rcases ha with rfl | rfl
  all_goals exact met_of o_X8_isReadByAll (Nat.le_of_ble_eq_true rfl) (fun q => absurd rfl q) (vg_ok k_X8_isReadByAll (stops := [11]) 76 0 0 _ [] h T)
set_option maxRecDepth 100000 in
set_option maxHeartbeats 4000000 in
theorem u_X8_isReadByAll_11 {a : Nat} (ha : a = 60 ∨ a = 67) {v1 : Int32} {v2 : Int32} {v3 : Int32} {h : PH} {Q : Res → PH → Prop}
    (T : (((gi h 26 1) ≤ v3 → (isB (nI 1) ∧ Q (.inl (some (.int (nI 1)))) h)) ∧ (¬ (gi h 26 1) ≤ v3 → (vp_in v3 12 ∧ MetPM m_X11_isIn [.int v2, .int (gi h (a + 2) v3.toNatClampNeg)] h (rI (hnd Q (At m_X8_isReadByAll Q) 0 [some (.ref a), some (.int v1), some (.int v2), some (.int v3)] []) (fun x2 h1 => ((¬ x2 = 0 → At m_X8_isReadByAll Q 11 0 [some (.ref a), some (.int v1), some (.int v2), some (.int (v3 + (nI 1)))] [] h1) ∧ (x2 = 0 → (isB (nI 0) ∧ Q (.inl (some (.int (nI 0)))) h1))))))))) :
    At m_X8_isReadByAll Q 11 0 [some (.ref a), some (.int v1), some (.int v2), some (.int v3)] [] h := by
  rcases ha with rfl | rfl
  all_goals exact vg_ok k_X8_isReadByAll (stops := [11]) 76 11 0 _ _ h T
set_option maxRecDepth 100000 in
set_option maxHeartbeats 4000000 in
theorem t_X8_whyNotFormat {a : Nat} (ha : a = 60 ∨ a = 67) {p0 : Int32} {h : PH} {Q : Res → PH → Prop}
    (T : (((gi h a 2) < p0 → MetPM m_X8_isReadByAll [.ref a, .int p0] h (rI (hnd Q (At m_X8_whyNotFormat Q) 0 [some (.ref a), some (.int p0)] []) (fun x2 h1 => ((x2 = 0 → Q (.inl (some (.int (nI 2)))) h1) ∧ (¬ x2 = 0 → Q (.inl (some (.int (nI 0)))) h1))))) ∧ (¬ (gi h a 2) < p0 → Q (.inl (some (.int (nI 1)))) h))) :
    MetPM m_X8_whyNotFormat [.ref a, .int p0] h Q := by
  rcases ha with rfl | rfl
  all_goals exact met_of o_X8_whyNotFormat (Nat.le_of_ble_eq_true rfl) (fun q => absurd rfl q) (vg_ok k_X8_whyNotFormat (stops := []) 64 0 0 _ [] h T)
set_option maxRecDepth 100000 in
set_option maxHeartbeats 4000000 in
theorem t_X8_lowestWayBack {a : Nat} (ha : a = 60 ∨ a = 67) {h : PH} {Q : Res → PH → Prop}
    (T : ((¬ (gi h 26 1) = 0 → MetPM m_X5_everyMember [.ref 15] h (rI (hnd Q (At m_X8_lowestWayBack Q) 0 [some (.ref a), none] []) (fun x2 h1 => MetPM m_X8_lowestComing [.ref a, .int x2] h1 (rI (hnd Q (At m_X8_lowestWayBack Q) 0 [some (.ref a), none] []) (fun x4 h3 => At m_X8_lowestWayBack Q 27 0 [some (.ref a), some (.int x4)] [] h3))))) ∧ ((gi h 26 1) = 0 → Q (.inl (some (.int (-(nI 1))))) h))) :
    MetPM m_X8_lowestWayBack [.ref a] h Q := by
  rcases ha with rfl | rfl
  all_goals exact met_of o_X8_lowestWayBack (Nat.le_of_ble_eq_true rfl) (fun q => absurd rfl q) (vg_ok k_X8_lowestWayBack (stops := [27]) 87 0 0 _ [] h T)
set_option maxRecDepth 100000 in
set_option maxHeartbeats 4000000 in
theorem u_X8_lowestWayBack_27 {a : Nat} (ha : a = 60 ∨ a = 67) {v1 : Int32} {h : PH} {Q : Res → PH → Prop}
    (T : ((v1 ≤ 0 → Q (.inl (some (.int v1))) h) ∧ (¬ v1 ≤ 0 → MetPM m_X5_isReader [.ref 15, .int (v1 - (nI 1)), .int (gi h a 2)] h (rI (hnd Q (At m_X8_lowestWayBack Q) 0 [some (.ref a), some (.int v1)] []) (fun x2 h1 => ((x2 = 0 → Q (.inl (some (.int v1))) h1) ∧ (¬ x2 = 0 → MetPM m_X5_talkersOf [.ref 15, .int v1] h1 (rI (hnd Q (At m_X8_lowestWayBack Q) 0 [some (.ref a), some (.int v1)] []) (fun x4 h3 => MetPM m_X11_isIn [.int x4, .int (v1 - (nI 1))] h3 (rI (hnd Q (At m_X8_lowestWayBack Q) 0 [some (.ref a), some (.int v1)] []) (fun x6 h5 => ((x6 = 0 → Q (.inl (some (.int v1))) h5) ∧ (¬ x6 = 0 → At m_X8_lowestWayBack Q 27 0 [some (.ref a), some (.int (v1 + (-(nI 1))))] [] h5))))))))))))) :
    At m_X8_lowestWayBack Q 27 0 [some (.ref a), some (.int v1)] [] h := by
  rcases ha with rfl | rfl
  all_goals exact vg_ok k_X8_lowestWayBack (stops := [27]) 87 27 0 _ _ h T
set_option maxRecDepth 100000 in
set_option maxHeartbeats 4000000 in
theorem t_X8_isActive {a : Nat} (ha : a = 60 ∨ a = 67) {h : PH} {Q : Res → PH → Prop}
    (T : (((gi h a 9) = (nI 1) → (isB (nI 1) ∧ Q (.inl (some (.int (nI 1)))) h)) ∧ (¬ (gi h a 9) = (nI 1) → ((¬ (gi h a 9) = (nI 2) → (isB (nI 0) ∧ Q (.inl (some (.int (nI 0)))) h)) ∧ ((gi h a 9) = (nI 2) → (isB (nI 1) ∧ Q (.inl (some (.int (nI 1)))) h)))))) :
    MetPM m_X8_isActive [.ref a] h Q := by
  rcases ha with rfl | rfl
  all_goals exact met_of o_X8_isActive (Nat.le_of_ble_eq_true rfl) (fun q => absurd rfl q) (vg_ok k_X8_isActive (stops := []) 62 0 0 _ [] h T)
set_option maxRecDepth 100000 in
set_option maxHeartbeats 4000000 in
theorem t_X8_endChanges {a : Nat} (ha : a = 60 ∨ a = 67) {h : PH} {Q : Res → PH → Prop}
    (T : At m_X8_endChanges Q 2 0 [some (.ref a), some (.int (nI 0))] [] h) :
    MetPM m_X8_endChanges [.ref a] h Q := by
  rcases ha with rfl | rfl
  all_goals exact met_of o_X8_endChanges (Nat.le_of_ble_eq_true rfl) (fun q => absurd rfl q) (vg_ok k_X8_endChanges (stops := [2]) 107 0 0 _ [] h T)
set_option maxRecDepth 100000 in
set_option maxHeartbeats 4000000 in
theorem u_X8_endChanges_2 {a : Nat} (ha : a = 60 ∨ a = 67) {v1 : Int32} {h : PH} {Q : Res → PH → Prop}
    (T : (((gi h 26 1) ≤ v1 → Q (.inl none) h) ∧ (¬ (gi h 26 1) ≤ v1 → (vp_in v1 12 ∧ ((¬ (gi h (a + 3) v1.toNatClampNeg) = (gi h a 1) → At m_X8_endChanges Q 2 0 [some (.ref a), some (.int (v1 + (nI 1)))] [] h) ∧ ((gi h (a + 3) v1.toNatClampNeg) = (gi h a 1) → (vp_in v1 12 ∧ (let y1 : Int32 := ((gi (si h (a + 3) v1.toNatClampNeg (-(nI 1))) a 7) &&& (((nI 1) <<< (v1 &&& 31)) ^^^ (-(nI 1)))); (vp_in v1 12 ∧ (vp_in v1 12 ∧ (let h2 : PH := (si (si (si h (a + 3) v1.toNatClampNeg (-(nI 1))) a 7 y1) (a + 1) v1.toNatClampNeg (gi (si (si h (a + 3) v1.toNatClampNeg (-(nI 1))) a 7 y1) (a + 2) v1.toNatClampNeg)); (vp_in v1 12 ∧ (vp_in v1 12 ∧ MetPM m_X3_add [.ref (a + 5), .int (gi (si h2 (a + 4) v1.toNatClampNeg (nI 0)) a 1), .int (nI 1), .int v1, .int (gi (si h2 (a + 4) v1.toNatClampNeg (nI 0)) (a + 1) v1.toNatClampNeg)] (si h2 (a + 4) v1.toNatClampNeg (nI 0)) (rV (hnd Q (At m_X8_endChanges Q) 0 [some (.ref a), some (.int v1)] []) (fun h3 => At m_X8_endChanges Q 2 0 [some (.ref a), some (.int (v1 + (nI 1)))] [] h3))))))))))))))) :
    At m_X8_endChanges Q 2 0 [some (.ref a), some (.int v1)] [] h := by
  rcases ha with rfl | rfl
  all_goals exact vg_ok k_X8_endChanges (stops := [2]) 107 2 0 _ _ h T
set_option maxRecDepth 100000 in
set_option maxHeartbeats 4000000 in
theorem t_X8_reachedOf {a : Nat} (ha : a = 60 ∨ a = 67) {p0 : Int32} {h : PH} {Q : Res → PH → Prop}
    (T : At m_X8_reachedOf Q 11 0 [some (.ref a), some (.int p0), some (.int (p0 &&& ((gi h a 7) ^^^ (-(nI 1))))), some (.int (nI 0))] [] h) :
    MetPM m_X8_reachedOf [.ref a, .int p0] h Q := by
  rcases ha with rfl | rfl
  all_goals exact met_of o_X8_reachedOf (Nat.le_of_ble_eq_true rfl) (fun q => absurd rfl q) (vg_ok k_X8_reachedOf (stops := [11]) 95 0 0 _ [] h T)
set_option maxRecDepth 100000 in
set_option maxHeartbeats 4000000 in
theorem u_X8_reachedOf_11 {a : Nat} (ha : a = 60 ∨ a = 67) {v1 : Int32} {v2 : Int32} {v3 : Int32} {h : PH} {Q : Res → PH → Prop}
    (T : (((gi h 26 1) ≤ v3 → Q (.inl (some (.int v2))) h) ∧ (¬ (gi h 26 1) ≤ v3 → (((gi h a 12) = 0 → (vp_in v3 12 ∧ (((gi h (a + 1) v3.toNatClampNeg) ≤ (gi h a 11) → At m_X8_reachedOf Q 11 0 [some (.ref a), some (.int v1), some (.int v2), some (.int (v3 + (nI 1)))] [] h) ∧ (¬ (gi h (a + 1) v3.toNatClampNeg) ≤ (gi h a 11) → At m_X8_reachedOf Q 11 0 [some (.ref a), some (.int v1), some (.int (v2 &&& (((nI 1) <<< (v3 &&& 31)) ^^^ (-(nI 1))))), some (.int (v3 + (nI 1)))] [] h)))) ∧ (¬ (gi h a 12) = 0 → (vp_in v3 12 ∧ (((gi h a 11) ≤ (gi h (a + 1) v3.toNatClampNeg) → At m_X8_reachedOf Q 11 0 [some (.ref a), some (.int v1), some (.int v2), some (.int (v3 + (nI 1)))] [] h) ∧ (¬ (gi h a 11) ≤ (gi h (a + 1) v3.toNatClampNeg) → At m_X8_reachedOf Q 11 0 [some (.ref a), some (.int v1), some (.int (v2 &&& (((nI 1) <<< (v3 &&& 31)) ^^^ (-(nI 1))))), some (.int (v3 + (nI 1)))] [] h)))))))) :
    At m_X8_reachedOf Q 11 0 [some (.ref a), some (.int v1), some (.int v2), some (.int v3)] [] h := by
  rcases ha with rfl | rfl
  all_goals exact vg_ok k_X8_reachedOf (stops := [11]) 95 11 0 _ _ h T
set_option maxRecDepth 100000 in
set_option maxHeartbeats 4000000 in
theorem t_X8_measuredSet {a : Nat} (ha : a = 60 ∨ a = 67) {h : PH} {Q : Res → PH → Prop}
    (T : MetPM m_X5_plannedMembers [.ref 15] h (rI (hnd Q (At m_X8_measuredSet Q) 0 [some (.ref a)] []) (fun x2 h1 => MetPM m_X8_reachedOf [.ref a, .int x2] h1 (rI (hnd Q (At m_X8_measuredSet Q) 0 [some (.ref a)] []) (fun x4 h3 => Q (.inl (some (.int x4))) h3))))) :
    MetPM m_X8_measuredSet [.ref a] h Q := by
  rcases ha with rfl | rfl
  all_goals exact met_of o_X8_measuredSet (Nat.le_of_ble_eq_true rfl) (fun q => absurd rfl q) (vg_ok k_X8_measuredSet (stops := []) 56 0 0 _ [] h T)
set_option maxRecDepth 100000 in
set_option maxHeartbeats 4000000 in
theorem t_X8_sumOfMeasures {a : Nat} (ha : a = 60 ∨ a = 67) {p0 : Int32} {h : PH} {Q : Res → PH → Prop}
    (T : At m_X8_sumOfMeasures Q 4 0 [some (.ref a), some (.int p0), some (.int (nI 0)), some (.int (nI 0))] [] h) :
    MetPM m_X8_sumOfMeasures [.ref a, .int p0] h Q := by
  rcases ha with rfl | rfl
  all_goals exact met_of o_X8_sumOfMeasures (Nat.le_of_ble_eq_true rfl) (fun q => absurd rfl q) (vg_ok k_X8_sumOfMeasures (stops := [4]) 77 0 0 _ [] h T)
set_option maxRecDepth 100000 in
set_option maxHeartbeats 4000000 in
theorem u_X8_sumOfMeasures_4 {a : Nat} (ha : a = 60 ∨ a = 67) {v1 : Int32} {v2 : Int32} {v3 : Int32} {h : PH} {Q : Res → PH → Prop}
    (T : (((gi h 26 1) ≤ v3 → Q (.inl (some (.int v2))) h) ∧ (¬ (gi h 26 1) ≤ v3 → MetPM m_X11_isIn [.int v1, .int v3] h (rI (hnd Q (At m_X8_sumOfMeasures Q) 0 [some (.ref a), some (.int v1), some (.int v2), some (.int v3)] []) (fun x2 h1 => ((x2 = 0 → At m_X8_sumOfMeasures Q 4 0 [some (.ref a), some (.int v1), some (.int (v2 + (nI 0))), some (.int (v3 + (nI 1)))] [] h1) ∧ (¬ x2 = 0 → (vp_in v3 12 ∧ At m_X8_sumOfMeasures Q 4 0 [some (.ref a), some (.int v1), some (.int (v2 + (gi h1 (a + 4) v3.toNatClampNeg))), some (.int (v3 + (nI 1)))] [] h1)))))))) :
    At m_X8_sumOfMeasures Q 4 0 [some (.ref a), some (.int v1), some (.int v2), some (.int v3)] [] h := by
  rcases ha with rfl | rfl
  all_goals exact vg_ok k_X8_sumOfMeasures (stops := [4]) 77 4 0 _ _ h T
set_option maxRecDepth 100000 in
set_option maxHeartbeats 4000000 in
theorem t_X8_isOverLimit {a : Nat} (ha : a = 60 ∨ a = 67) {h : PH} {Q : Res → PH → Prop}
    (T : MetPM m_X8_measuredSet [.ref a] h (rI (hnd Q (At m_X8_isOverLimit Q) 0 [some (.ref a), none] []) (fun x2 h1 => MetPM m_X8_sumOfMeasures [.ref a, .int x2] h1 (rI (hnd Q (At m_X8_isOverLimit Q) 0 [some (.ref a), some (.int x2)] []) (fun x4 h3 => MetPM m_J6_bitCount_0f7a4 [.int x2] h3 (rI (hnd Q (At m_X8_isOverLimit Q) 0 [some (.ref a), some (.int x2)] []) (fun x6 h5 => ((x4 ≤ ((gi h3 15 17) * x6) → (isB (nI 0) ∧ Q (.inl (some (.int (nI 0)))) h5)) ∧ (¬ x4 ≤ ((gi h3 15 17) * x6) → (isB (nI 1) ∧ Q (.inl (some (.int (nI 1)))) h5)))))))))) :
    MetPM m_X8_isOverLimit [.ref a] h Q := by
  rcases ha with rfl | rfl
  all_goals exact met_of o_X8_isOverLimit (Nat.le_of_ble_eq_true rfl) (fun q => absurd rfl q) (vg_ok k_X8_isOverLimit (stops := []) 67 0 0 _ [] h T)
set_option maxRecDepth 100000 in
set_option maxHeartbeats 4000000 in
theorem t_X8_stopPlan {a : Nat} (ha : a = 60 ∨ a = 67) {h : PH} {Q : Res → PH → Prop}
    (T : MetPM m_X3_add [.ref (a + 5), .int (gi (si h a 9 (nI 3)) a 1), .int (nI 4), .int (-(nI 1)), .int (gi (si h a 9 (nI 3)) a 13)] (si h a 9 (nI 3)) (rV (hnd Q (At m_X8_stopPlan Q) 0 [some (.ref a)] []) (fun h1 => Q (.inl (some (.int (gi h1 a 13)))) h1))) :
    MetPM m_X8_stopPlan [.ref a] h Q := by
  rcases ha with rfl | rfl
  all_goals exact met_of o_X8_stopPlan (Nat.le_of_ble_eq_true rfl) (fun q => absurd rfl q) (vg_ok k_X8_stopPlan (stops := []) 65 0 0 _ [] h T)
set_option maxRecDepth 100000 in
set_option maxHeartbeats 4000000 in
theorem t_X8_finishPlan {a : Nat} (ha : a = 60 ∨ a = 67) {h : PH} {Q : Res → PH → Prop}
    (T : MetPM m_X3_add [.ref (a + 5), .int (gi (si (si h a 9 (nI 4)) a 14 (-(nI 1))) a 1), .int (nI 6), .int (-(nI 1)), .int (gi (si (si h a 9 (nI 4)) a 14 (-(nI 1))) a 10)] (si (si h a 9 (nI 4)) a 14 (-(nI 1))) (rV (hnd Q (At m_X8_finishPlan Q) 0 [some (.ref a)] []) (fun h1 => Q (.inl none) h1))) :
    MetPM m_X8_finishPlan [.ref a] h Q := by
  rcases ha with rfl | rfl
  all_goals exact met_of o_X8_finishPlan (Nat.le_of_ble_eq_true rfl) (fun q => absurd rfl q) (vg_ok k_X8_finishPlan (stops := []) 66 0 0 _ [] h T)
set_option maxRecDepth 100000 in
set_option maxHeartbeats 4000000 in
theorem t_X8_leaveWave {a : Nat} (ha : a = 60 ∨ a = 67) {h : PH} {Q : Res → PH → Prop}
    (T : ((((gi h a 13) + (nI 1)) < (gi h 15 12) → (((nI 0) = 0 → At m_X8_leaveWave Q 42 0 [some (.ref a), some (.int (nI 0))] [] h) ∧ (¬ (nI 0) = 0 → ((¬ (gi h a 11) = (gi h a 10) → At m_X8_leaveWave Q 42 0 [some (.ref a), some (.int (nI 0))] [] h) ∧ ((gi h a 11) = (gi h a 10) → MetPM m_X8_finishPlan [.ref a] h (rV (hnd Q (At m_X8_leaveWave Q) 0 [some (.ref a), some (.int (nI 0))] []) (fun h1 => Q (.inl none) h1))))))) ∧ (¬ ((gi h a 13) + (nI 1)) < (gi h 15 12) → (((nI 1) = 0 → At m_X8_leaveWave Q 42 0 [some (.ref a), some (.int (nI 1))] [] h) ∧ (¬ (nI 1) = 0 → ((¬ (gi h a 11) = (gi h a 10) → At m_X8_leaveWave Q 42 0 [some (.ref a), some (.int (nI 1))] [] h) ∧ ((gi h a 11) = (gi h a 10) → MetPM m_X8_finishPlan [.ref a] h (rV (hnd Q (At m_X8_leaveWave Q) 0 [some (.ref a), some (.int (nI 1))] []) (fun h2 => Q (.inl none) h2))))))))) :
    MetPM m_X8_leaveWave [.ref a] h Q := by
  rcases ha with rfl | rfl
  all_goals exact met_of o_X8_leaveWave (Nat.le_of_ble_eq_true rfl) (fun q => absurd rfl q) (vg_ok k_X8_leaveWave (stops := [42, 67]) 102 0 0 _ [] h T)
set_option maxRecDepth 100000 in
set_option maxHeartbeats 4000000 in
theorem u_X8_leaveWave_42 {a : Nat} (ha : a = 60 ∨ a = 67) {v1 : Int32} {h : PH} {Q : Res → PH → Prop}
    (T : ((v1 = 0 → At m_X8_leaveWave Q 67 0 [some (.ref a), some (.int v1)] [] h) ∧ (¬ v1 = 0 → (((gi h a 12) = 0 → At m_X8_leaveWave Q 67 0 [some (.ref a), some (.int v1)] [] (si h a 11 ((gi h a 11) + (-(nI 1))))) ∧ (¬ (gi h a 12) = 0 → At m_X8_leaveWave Q 67 0 [some (.ref a), some (.int v1)] [] (si h a 11 ((gi h a 11) + (nI 1)))))))) :
    At m_X8_leaveWave Q 42 0 [some (.ref a), some (.int v1)] [] h := by
  rcases ha with rfl | rfl
  all_goals exact vg_ok k_X8_leaveWave (stops := [42, 67]) 102 42 0 _ _ h T
set_option maxRecDepth 100000 in
set_option maxHeartbeats 4000000 in
theorem u_X8_leaveWave_67 {a : Nat} (ha : a = 60 ∨ a = 67) {v1 : Int32} {h : PH} {Q : Res → PH → Prop}
    (T : ((v1 = 0 → Q (.inl none) (si (si (si h a 13 ((gi h a 13) + (nI 1))) a 14 (-(nI 1))) a 9 (nI 1))) ∧ (¬ v1 = 0 → Q (.inl none) (si (si (si h a 13 (nI 0)) a 14 (-(nI 1))) a 9 (nI 1))))) :
    At m_X8_leaveWave Q 67 0 [some (.ref a), some (.int v1)] [] h := by
  rcases ha with rfl | rfl
  all_goals exact vg_ok k_X8_leaveWave (stops := [42, 67]) 102 67 0 _ _ h T
set_option maxRecDepth 100000 in
set_option maxHeartbeats 4000000 in
theorem t_X8_laggards {a : Nat} (ha : a = 60 ∨ a = 67) {h : PH} {Q : Res → PH → Prop}
    (T : MetPM m_X8_isUnderWay [.ref a] h (rI (hnd Q (At m_X8_laggards Q) 0 [some (.ref a), none] []) (fun x2 h1 => ((x2 = 0 → Q (.inl (some (.int (nI 0)))) h1) ∧ (¬ x2 = 0 → (((gi h1 a 13) < 0 → Q (.inl (some (.int (nI 0)))) h1) ∧ (¬ (gi h1 a 13) < 0 → (((gi h1 a 13) < (gi h1 15 12) → (vp_in (gi h1 a 13) 5 ∧ MetPM m_X8_reachedOf [.ref a, .int (gi h1 25 (gi h1 a 13).toNatClampNeg)] h1 (rI (hnd Q (At m_X8_laggards Q) 0 [some (.ref a), some (.int (gi h1 25 (gi h1 a 13).toNatClampNeg))] []) (fun x4 h3 => Q (.inl (some (.int ((gi h1 25 (gi h1 a 13).toNatClampNeg) &&& (x4 ^^^ (-(nI 1))))))) h3)))) ∧ (¬ (gi h1 a 13) < (gi h1 15 12) → Q (.inl (some (.int (nI 0)))) h1))))))))) :
    MetPM m_X8_laggards [.ref a] h Q := by
  rcases ha with rfl | rfl
  all_goals exact met_of o_X8_laggards (Nat.le_of_ble_eq_true rfl) (fun q => absurd rfl q) (vg_ok k_X8_laggards (stops := []) 79 0 0 _ [] h T)
set_option maxRecDepth 100000 in
set_option maxHeartbeats 4000000 in
theorem t_X8_beginChange {a : Nat} (ha : a = 60 ∨ a = 67) {p0 : Int32} {p1 : Int32} {h : PH} {Q : Res → PH → Prop}
    (T : (vp_in p0 12 ∧ (let y1 : Int32 := ((gi (si h (a + 2) p0.toNatClampNeg p1) a 1) + (gi (si h (a + 2) p0.toNatClampNeg p1) 15 15)); (vp_in p0 12 ∧ (let y2 : Int32 := ((gi (si (si h (a + 2) p0.toNatClampNeg p1) (a + 3) p0.toNatClampNeg y1) a 7) ||| ((nI 1) <<< (p0 &&& 31))); MetPM m_X3_add [.ref (a + 5), .int (gi (si (si (si h (a + 2) p0.toNatClampNeg p1) (a + 3) p0.toNatClampNeg y1) a 7 y2) a 1), .int (nI 0), .int p0, .int p1] (si (si (si h (a + 2) p0.toNatClampNeg p1) (a + 3) p0.toNatClampNeg y1) a 7 y2) (rV (hnd Q (At m_X8_beginChange Q) 0 [some (.ref a), some (.int p0), some (.int p1)] []) (fun h3 => (vp_in p0 12 ∧ Q (.inl (some (.int (gi h3 (a + 3) p0.toNatClampNeg)))) h3)))))))) :
    MetPM m_X8_beginChange [.ref a, .int p0, .int p1] h Q := by
  rcases ha with rfl | rfl
  all_goals exact met_of o_X8_beginChange (Nat.le_of_ble_eq_true rfl) (fun q => absurd rfl q) (vg_ok k_X8_beginChange (stops := []) 86 0 0 _ [] h T)
set_option maxRecDepth 100000 in
set_option maxHeartbeats 4000000 in
theorem t_X8_beginChanges {a : Nat} (ha : a = 60 ∨ a = 67) {h : PH} {Q : Res → PH → Prop}
    (T : MetPM m_X8_laggards [.ref a] h (rI (hnd Q (At m_X8_beginChanges Q) 0 [some (.ref a), some (.int (nI 0)), none, none] []) (fun x2 h1 => At m_X8_beginChanges Q 23 0 [some (.ref a), some (.int (nI 0)), some (.int ((x2 &&& ((gi h1 a 7) ^^^ (-(nI 1)))) &&& ((gi h1 a 8) ^^^ (-(nI 1))))), some (.int (nI 0))] [] h1))) :
    MetPM m_X8_beginChanges [.ref a] h Q := by
  rcases ha with rfl | rfl
  all_goals exact met_of o_X8_beginChanges (Nat.le_of_ble_eq_true rfl) (fun q => absurd rfl q) (vg_ok k_X8_beginChanges (stops := [23]) 94 0 0 _ [] h T)
set_option maxRecDepth 100000 in
set_option maxHeartbeats 4000000 in
theorem u_X8_beginChanges_23 {a : Nat} (ha : a = 60 ∨ a = 67) {v1 : Int32} {v2 : Int32} {v3 : Int32} {h : PH} {Q : Res → PH → Prop}
    (T : (((gi h 26 1) ≤ v3 → Q (.inl (some (.int v1))) h) ∧ (¬ (gi h 26 1) ≤ v3 → MetPM m_X11_isIn [.int v2, .int v3] h (rI (hnd Q (At m_X8_beginChanges Q) 0 [some (.ref a), some (.int v1), some (.int v2), some (.int v3)] []) (fun x2 h1 => ((x2 = 0 → At m_X8_beginChanges Q 23 0 [some (.ref a), some (.int v1), some (.int v2), some (.int (v3 + (nI 1)))] [] h1) ∧ (¬ x2 = 0 → MetPM m_X8_whyNotBegin [.ref a, .int v3, .int (gi h1 a 11)] h1 (rI (hnd Q (At m_X8_beginChanges Q) 0 [some (.ref a), some (.int v1), some (.int v2), some (.int v3)] []) (fun x4 h3 => ((¬ x4 = 0 → At m_X8_beginChanges Q 23 0 [some (.ref a), some (.int v1), some (.int v2), some (.int (v3 + (nI 1)))] [] h3) ∧ (x4 = 0 → MetPM m_X8_beginChange [.ref a, .int v3, .int (gi h3 a 11)] h3 (rI (hnd Q (At m_X8_beginChanges Q) 0 [some (.ref a), some (.int v1), some (.int v2), some (.int v3)] []) (fun x6 h5 => At m_X8_beginChanges Q 23 0 [some (.ref a), some (.int (v1 + (nI 1))), some (.int v2), some (.int (v3 + (nI 1)))] [] h5))))))))))))) :
    At m_X8_beginChanges Q 23 0 [some (.ref a), some (.int v1), some (.int v2), some (.int v3)] [] h := by
  rcases ha with rfl | rfl
  all_goals exact vg_ok k_X8_beginChanges (stops := [23]) 94 23 0 _ _ h T
set_option maxRecDepth 100000 in
set_option maxHeartbeats 4000000 in
theorem t_X8_soakIfComplete {a : Nat} (ha : a = 60 ∨ a = 67) {h : PH} {Q : Res → PH → Prop}
    (T : MetPM m_X8_laggards [.ref a] h (rI (hnd Q (At m_X8_soakIfComplete Q) 0 [some (.ref a)] []) (fun x2 h1 => ((¬ (x2 &&& ((gi h1 a 8) ^^^ (-(nI 1)))) = 0 → Q (.inl none) h1) ∧ ((x2 &&& ((gi h1 a 8) ^^^ (-(nI 1)))) = 0 → (let y3 : Int32 := (gi (si (si h1 a 9 (nI 2)) a 14 ((gi (si h1 a 9 (nI 2)) a 1) + (gi (si h1 a 9 (nI 2)) 15 16))) a 1); (let y4 : Int32 := (gi (si (si h1 a 9 (nI 2)) a 14 ((gi (si h1 a 9 (nI 2)) a 1) + (gi (si h1 a 9 (nI 2)) 15 16))) a 13); MetPM m_X3_add [.ref (a + 5), .int y3, .int (nI 3), .int (-(nI 1)), .int y4] (si (si h1 a 9 (nI 2)) a 14 ((gi (si h1 a 9 (nI 2)) a 1) + (gi (si h1 a 9 (nI 2)) 15 16))) (rV (hnd Q (At m_X8_soakIfComplete Q) 0 [some (.ref a)] []) (fun h5 => Q (.inl none) h5))))))))) :
    MetPM m_X8_soakIfComplete [.ref a] h Q := by
  rcases ha with rfl | rfl
  all_goals exact met_of o_X8_soakIfComplete (Nat.le_of_ble_eq_true rfl) (fun q => absurd rfl q) (vg_ok k_X8_soakIfComplete (stops := []) 79 0 0 _ [] h T)
set_option maxRecDepth 100000 in
set_option maxHeartbeats 4000000 in
theorem t_X8_passMinute {a : Nat} (ha : a = 60 ∨ a = 67) {h : PH} {Q : Res → PH → Prop}
    (T : MetPM m_X8_endChanges [.ref a] (si h a 1 ((gi h a 1) + (nI 1))) (rV (hnd Q (At m_X8_passMinute Q) 0 [some (.ref a), some (.int (nI 0))] []) (fun h1 => MetPM m_X8_isActive [.ref a] h1 (rI (hnd Q (At m_X8_passMinute Q) 0 [some (.ref a), some (.int (nI 0))] []) (fun x3 h2 => ((x3 = 0 → At m_X8_passMinute Q 35 0 [some (.ref a), some (.int (nI 0))] [] h2) ∧ (¬ x3 = 0 → MetPM m_X8_isOverLimit [.ref a] h2 (rI (hnd Q (At m_X8_passMinute Q) 0 [some (.ref a), some (.int (nI 0))] []) (fun x5 h4 => ((x5 = 0 → At m_X8_passMinute Q 35 0 [some (.ref a), some (.int (nI 0))] [] h4) ∧ (¬ x5 = 0 → MetPM m_X8_stopPlan [.ref a] h4 (rI (hnd Q (At m_X8_passMinute Q) 0 [some (.ref a), some (.int (nI 0))] []) (fun x7 h6 => At m_X8_passMinute Q 35 0 [some (.ref a), some (.int (nI 0))] [] h6))))))))))))) :
    MetPM m_X8_passMinute [.ref a] h Q := by
  rcases ha with rfl | rfl
  all_goals exact met_of o_X8_passMinute (Nat.le_of_ble_eq_true rfl) (fun q => absurd rfl q) (vg_ok k_X8_passMinute (stops := [35, 58, 75]) 91 0 0 _ [] h T)
set_option maxRecDepth 100000 in
set_option maxHeartbeats 4000000 in
theorem u_X8_passMinute_35 {a : Nat} (ha : a = 60 ∨ a = 67) {v1 : Int32} {h : PH} {Q : Res → PH → Prop}
    (T : ((¬ (gi h a 9) = (nI 2) → At m_X8_passMinute Q 58 0 [some (.ref a), some (.int v1)] [] h) ∧ ((gi h a 9) = (nI 2) → (((gi h a 1) < (gi h a 14) → At m_X8_passMinute Q 58 0 [some (.ref a), some (.int v1)] [] h) ∧ (¬ (gi h a 1) < (gi h a 14) → MetPM m_X8_leaveWave [.ref a] h (rV (hnd Q (At m_X8_passMinute Q) 0 [some (.ref a), some (.int v1)] []) (fun h1 => At m_X8_passMinute Q 58 0 [some (.ref a), some (.int v1)] [] h1))))))) :
    At m_X8_passMinute Q 35 0 [some (.ref a), some (.int v1)] [] h := by
  rcases ha with rfl | rfl
  all_goals exact vg_ok k_X8_passMinute (stops := [35, 58, 75]) 91 35 0 _ _ h T
set_option maxRecDepth 100000 in
set_option maxHeartbeats 4000000 in
theorem u_X8_passMinute_58 {a : Nat} (ha : a = 60 ∨ a = 67) {v1 : Int32} {h : PH} {Q : Res → PH → Prop}
    (T : ((¬ (gi h a 9) = (nI 1) → At m_X8_passMinute Q 75 0 [some (.ref a), some (.int v1)] [] h) ∧ ((gi h a 9) = (nI 1) → MetPM m_X8_beginChanges [.ref a] h (rI (hnd Q (At m_X8_passMinute Q) 0 [some (.ref a), some (.int v1)] []) (fun x2 h1 => MetPM m_X8_soakIfComplete [.ref a] h1 (rV (hnd Q (At m_X8_passMinute Q) 0 [some (.ref a), some (.int x2)] []) (fun h3 => At m_X8_passMinute Q 75 0 [some (.ref a), some (.int x2)] [] h3))))))) :
    At m_X8_passMinute Q 58 0 [some (.ref a), some (.int v1)] [] h := by
  rcases ha with rfl | rfl
  all_goals exact vg_ok k_X8_passMinute (stops := [35, 58, 75]) 91 58 0 _ _ h T
set_option maxRecDepth 100000 in
set_option maxHeartbeats 4000000 in
theorem u_X8_passMinute_75 {a : Nat} (ha : a = 60 ∨ a = 67) {v1 : Int32} {h : PH} {Q : Res → PH → Prop}
    (T : Q (.inl (some (.int v1))) h) :
    At m_X8_passMinute Q 75 0 [some (.ref a), some (.int v1)] [] h := by
  rcases ha with rfl | rfl
  all_goals exact vg_ok k_X8_passMinute (stops := [35, 58, 75]) 91 75 0 _ _ h T
set_option maxRecDepth 100000 in
set_option maxHeartbeats 4000000 in
theorem t_X8_isStuck {a : Nat} (ha : a = 60 ∨ a = 67) {p0 : Int32} {h : PH} {Q : Res → PH → Prop}
    (T : ((¬ (gi h a 9) = (nI 1) → (isB (nI 0) ∧ Q (.inl (some (.int (nI 0)))) h)) ∧ ((gi h a 9) = (nI 1) → ((¬ p0 = 0 → (isB (nI 0) ∧ Q (.inl (some (.int (nI 0)))) h)) ∧ (p0 = 0 → ((¬ (gi h a 7) = 0 → (isB (nI 0) ∧ Q (.inl (some (.int (nI 0)))) h)) ∧ ((gi h a 7) = 0 → (isB (nI 1) ∧ Q (.inl (some (.int (nI 1)))) h)))))))) :
    MetPM m_X8_isStuck [.ref a, .int p0] h Q := by
  rcases ha with rfl | rfl
  all_goals exact met_of o_X8_isStuck (Nat.le_of_ble_eq_true rfl) (fun q => absurd rfl q) (vg_ok k_X8_isStuck (stops := []) 63 0 0 _ [] h T)
set_option maxRecDepth 100000 in
set_option maxHeartbeats 4000000 in
theorem t_X8_minutesToDone {a : Nat} (ha : a = 60 ∨ a = 67) {p0 : Int32} {h : PH} {Q : Res → PH → Prop}
    (T : At m_X8_minutesToDone Q 4 0 [some (.ref a), some (.int p0), some (.int (nI 0)), some (.int (nI 0))] [] h) :
    MetPM m_X8_minutesToDone [.ref a, .int p0] h Q := by
  rcases ha with rfl | rfl
  all_goals exact met_of o_X8_minutesToDone (Nat.le_of_ble_eq_true rfl) (fun q => absurd rfl q) (vg_ok k_X8_minutesToDone (stops := [4]) 81 0 0 _ [] h T)
set_option maxRecDepth 100000 in
set_option maxHeartbeats 4000000 in
theorem u_X8_minutesToDone_4 {a : Nat} (ha : a = 60 ∨ a = 67) {v1 : Int32} {v2 : Int32} {v3 : Int32} {h : PH} {Q : Res → PH → Prop}
    (T : ((v1 < v3 → Q (.inl (some (.int (-(nI 1))))) h) ∧ (¬ v1 < v3 → ((¬ (gi h a 9) = (nI 4) → MetPM m_X8_isActive [.ref a] h (rI (hnd Q (At m_X8_minutesToDone Q) 0 [some (.ref a), some (.int v1), some (.int v2), some (.int v3)] []) (fun x2 h1 => ((¬ x2 = 0 → MetPM m_X8_passMinute [.ref a] h1 (rI (hnd Q (At m_X8_minutesToDone Q) 0 [some (.ref a), some (.int v1), some (.int v2), some (.int v3)] []) (fun x4 h3 => MetPM m_X8_isStuck [.ref a, .int x4] h3 (rI (hnd Q (At m_X8_minutesToDone Q) 0 [some (.ref a), some (.int v1), some (.int x4), some (.int v3)] []) (fun x6 h5 => ((x6 = 0 → At m_X8_minutesToDone Q 4 0 [some (.ref a), some (.int v1), some (.int x4), some (.int (v3 + (nI 1)))] [] h5) ∧ (¬ x6 = 0 → Q (.inl (some (.int (-(nI 1))))) h5))))))) ∧ (x2 = 0 → Q (.inl (some (.int (-(nI 1))))) h1))))) ∧ ((gi h a 9) = (nI 4) → Q (.inl (some (.int v3))) h))))) :
    At m_X8_minutesToDone Q 4 0 [some (.ref a), some (.int v1), some (.int v2), some (.int v3)] [] h := by
  rcases ha with rfl | rfl
  all_goals exact vg_ok k_X8_minutesToDone (stops := [4]) 81 4 0 _ _ h T
set_option maxRecDepth 100000 in
set_option maxHeartbeats 4000000 in
theorem t_X8_canPass {a : Nat} (ha : a = 60 ∨ a = 67) {p0 : Int32} {h : PH} {Q : Res → PH → Prop}
    (T : ((p0 < 0 → (isB (nI 0) ∧ Q (.inl (some (.int (nI 0)))) h)) ∧ (¬ p0 < 0 → (((nI 999) < p0 → (isB (nI 0) ∧ Q (.inl (some (.int (nI 0)))) h)) ∧ (¬ (nI 999) < p0 → (((nI 20000) < ((gi h a 1) + p0) → (isB (nI 0) ∧ Q (.inl (some (.int (nI 0)))) h)) ∧ (¬ (nI 20000) < ((gi h a 1) + p0) → (isB (nI 1) ∧ Q (.inl (some (.int (nI 1)))) h)))))))) :
    MetPM m_X8_canPass [.ref a, .int p0] h Q := by
  rcases ha with rfl | rfl
  all_goals exact met_of o_X8_canPass (Nat.le_of_ble_eq_true rfl) (fun q => absurd rfl q) (vg_ok k_X8_canPass (stops := []) 65 0 0 _ [] h T)
set_option maxRecDepth 100000 in
set_option maxHeartbeats 4000000 in
theorem t_X8_passMinutes {a : Nat} (ha : a = 60 ∨ a = 67) {p0 : Int32} {h : PH} {Q : Res → PH → Prop}
    (T : At m_X8_passMinutes Q 2 0 [some (.ref a), some (.int p0), some (.int (nI 0))] [] h) :
    MetPM m_X8_passMinutes [.ref a, .int p0] h Q := by
  rcases ha with rfl | rfl
  all_goals exact met_of o_X8_passMinutes (Nat.le_of_ble_eq_true rfl) (fun q => absurd rfl q) (vg_ok k_X8_passMinutes (stops := [2]) 63 0 0 _ [] h T)
set_option maxRecDepth 100000 in
set_option maxHeartbeats 4000000 in
theorem u_X8_passMinutes_2 {a : Nat} (ha : a = 60 ∨ a = 67) {v1 : Int32} {v2 : Int32} {h : PH} {Q : Res → PH → Prop}
    (T : ((v1 ≤ v2 → Q (.inl (some (.int (gi h a 1)))) h) ∧ (¬ v1 ≤ v2 → MetPM m_X8_passMinute [.ref a] h (rI (hnd Q (At m_X8_passMinutes Q) 0 [some (.ref a), some (.int v1), some (.int v2)] []) (fun x2 h1 => At m_X8_passMinutes Q 2 0 [some (.ref a), some (.int v1), some (.int (v2 + (nI 1)))] [] h1))))) :
    At m_X8_passMinutes Q 2 0 [some (.ref a), some (.int v1), some (.int v2)] [] h := by
  rcases ha with rfl | rfl
  all_goals exact vg_ok k_X8_passMinutes (stops := [2]) 63 2 0 _ _ h T
set_option maxRecDepth 100000 in
set_option maxHeartbeats 4000000 in
theorem t_X8_canStart {a : Nat} (ha : a = 60 ∨ a = 67) {h : PH} {Q : Res → PH → Prop}
    (T : (((gi h 15 12) ≤ 0 → (isB (nI 0) ∧ Q (.inl (some (.int (nI 0)))) h)) ∧ (¬ (gi h 15 12) ≤ 0 → MetPM m_X8_isActive [.ref a] h (rI (hnd Q (At m_X8_canStart Q) 0 [some (.ref a)] []) (fun x2 h1 => ((¬ x2 = 0 → (isB (nI 0) ∧ Q (.inl (some (.int (nI 0)))) h1)) ∧ (x2 = 0 → (isB (nI 1) ∧ Q (.inl (some (.int (nI 1)))) h1)))))))) :
    MetPM m_X8_canStart [.ref a] h Q := by
  rcases ha with rfl | rfl
  all_goals exact met_of o_X8_canStart (Nat.le_of_ble_eq_true rfl) (fun q => absurd rfl q) (vg_ok k_X8_canStart (stops := []) 61 0 0 _ [] h T)
set_option maxRecDepth 100000 in
set_option maxHeartbeats 4000000 in
theorem t_X8_startPlan {a : Nat} (ha : a = 60 ∨ a = 67) {p0 : Int32} {h : PH} {Q : Res → PH → Prop}
    (T : MetPM m_X5_plannedMembers [.ref 15] h (rI (hnd Q (At m_X8_startPlan Q) 0 [some (.ref a), some (.int p0), none, none, none] []) (fun x2 h1 => MetPM m_X8_lowestComing [.ref a, .int (x2 &&& ((gi h1 a 8) ^^^ (-(nI 1))))] h1 (rI (hnd Q (At m_X8_startPlan Q) 0 [some (.ref a), some (.int p0), some (.int (x2 &&& ((gi h1 a 8) ^^^ (-(nI 1))))), none, none] []) (fun x4 h3 => MetPM m_X8_highestComing [.ref a, .int (x2 &&& ((gi h1 a 8) ^^^ (-(nI 1))))] h3 (rI (hnd Q (At m_X8_startPlan Q) 0 [some (.ref a), some (.int p0), some (.int (x2 &&& ((gi h1 a 8) ^^^ (-(nI 1))))), some (.int x4), none] []) (fun x6 h5 => MetPM m_X3_add [.ref (a + 5), .int (gi h5 a 1), .int (nI 2), .int (-(nI 1)), .int p0] h5 (rV (hnd Q (At m_X8_startPlan Q) 0 [some (.ref a), some (.int p0), some (.int (x2 &&& ((gi h1 a 8) ^^^ (-(nI 1))))), some (.int x4), some (.int x6)] []) (fun h7 => (((x2 &&& ((gi h1 a 8) ^^^ (-(nI 1)))) = 0 → At m_X8_startPlan Q 67 0 [some (.ref a), some (.int p0), some (.int (x2 &&& ((gi h1 a 8) ^^^ (-(nI 1))))), some (.int x4), some (.int x6)] [] (si (si h7 a 10 p0) a 14 (-(nI 1)))) ∧ (¬ (x2 &&& ((gi h1 a 8) ^^^ (-(nI 1)))) = 0 → ((¬ x4 = p0 → At m_X8_startPlan Q 73 0 [some (.ref a), some (.int p0), some (.int (x2 &&& ((gi h1 a 8) ^^^ (-(nI 1))))), some (.int x4), some (.int x6)] [] (si (si h7 a 10 p0) a 14 (-(nI 1)))) ∧ (x4 = p0 → ((¬ x6 = p0 → At m_X8_startPlan Q 73 0 [some (.ref a), some (.int p0), some (.int (x2 &&& ((gi h1 a 8) ^^^ (-(nI 1))))), some (.int x4), some (.int x6)] [] (si (si h7 a 10 p0) a 14 (-(nI 1)))) ∧ (x6 = p0 → At m_X8_startPlan Q 67 0 [some (.ref a), some (.int p0), some (.int (x2 &&& ((gi h1 a 8) ^^^ (-(nI 1))))), some (.int x4), some (.int x6)] [] (si (si h7 a 10 p0) a 14 (-(nI 1)))))))))))))))))) :
    MetPM m_X8_startPlan [.ref a, .int p0] h Q := by
  rcases ha with rfl | rfl
  all_goals exact met_of o_X8_startPlan (Nat.le_of_ble_eq_true rfl) (fun q => absurd rfl q) (vg_ok k_X8_startPlan (stops := [67, 73]) 122 0 0 _ [] h T)
set_option maxRecDepth 100000 in
set_option maxHeartbeats 4000000 in
theorem u_X8_startPlan_67 {a : Nat} (ha : a = 60 ∨ a = 67) {v1 : Int32} {v2 : Int32} {v3 : Int32} {v4 : Int32} {h : PH} {Q : Res → PH → Prop}
    (T : MetPM m_X8_finishPlan [.ref a] h (rV (hnd Q (At m_X8_startPlan Q) 0 [some (.ref a), some (.int v1), some (.int v2), some (.int v3), some (.int v4)] []) (fun h1 => Q (.inl (some (.int (-(nI 1))))) h1))) :
    At m_X8_startPlan Q 67 0 [some (.ref a), some (.int v1), some (.int v2), some (.int v3), some (.int v4)] [] h := by
  rcases ha with rfl | rfl
  all_goals exact vg_ok k_X8_startPlan (stops := [67, 73]) 122 67 0 _ _ h T
set_option maxRecDepth 100000 in
set_option maxHeartbeats 4000000 in
theorem u_X8_startPlan_73 {a : Nat} (ha : a = 60 ∨ a = 67) {v1 : Int32} {v2 : Int32} {v3 : Int32} {v4 : Int32} {h : PH} {Q : Res → PH → Prop}
    (T : ((v1 ≤ v3 → (isB (nI 0) ∧ (((gi (si h a 12 (nI 0)) a 12) = 0 → Q (.inl (some (.int (gi (si (si (si (si h a 12 (nI 0)) a 11 (v4 - (nI 1))) a 13 (nI 0)) a 9 (nI 1)) a 11)))) (si (si (si (si h a 12 (nI 0)) a 11 (v4 - (nI 1))) a 13 (nI 0)) a 9 (nI 1))) ∧ (¬ (gi (si h a 12 (nI 0)) a 12) = 0 → Q (.inl (some (.int (gi (si (si (si (si h a 12 (nI 0)) a 11 (v3 + (nI 1))) a 13 (nI 0)) a 9 (nI 1)) a 11)))) (si (si (si (si h a 12 (nI 0)) a 11 (v3 + (nI 1))) a 13 (nI 0)) a 9 (nI 1)))))) ∧ (¬ v1 ≤ v3 → (isB (nI 1) ∧ (((gi (si h a 12 (nI 1)) a 12) = 0 → Q (.inl (some (.int (gi (si (si (si (si h a 12 (nI 1)) a 11 (v4 - (nI 1))) a 13 (nI 0)) a 9 (nI 1)) a 11)))) (si (si (si (si h a 12 (nI 1)) a 11 (v4 - (nI 1))) a 13 (nI 0)) a 9 (nI 1))) ∧ (¬ (gi (si h a 12 (nI 1)) a 12) = 0 → Q (.inl (some (.int (gi (si (si (si (si h a 12 (nI 1)) a 11 (v3 + (nI 1))) a 13 (nI 0)) a 9 (nI 1)) a 11)))) (si (si (si (si h a 12 (nI 1)) a 11 (v3 + (nI 1))) a 13 (nI 0)) a 9 (nI 1)))))))) :
    At m_X8_startPlan Q 73 0 [some (.ref a), some (.int v1), some (.int v2), some (.int v3), some (.int v4)] [] h := by
  rcases ha with rfl | rfl
  all_goals exact vg_ok k_X8_startPlan (stops := [67, 73]) 122 73 0 _ _ h T
set_option maxRecDepth 100000 in
set_option maxHeartbeats 4000000 in
theorem t_X8_resumePlan {a : Nat} (ha : a = 60 ∨ a = 67) {h : PH} {Q : Res → PH → Prop}
    (T : ((¬ (gi h a 14) = (-(nI 1)) → MetPM m_X3_add [.ref (a + 5), .int (gi (si h a 9 (nI 2)) a 1), .int (nI 5), .int (-(nI 1)), .int (gi (si h a 9 (nI 2)) a 13)] (si h a 9 (nI 2)) (rV (hnd Q (At m_X8_resumePlan Q) 0 [some (.ref a)] []) (fun h1 => Q (.inl (some (.int (gi h1 a 13)))) h1))) ∧ ((gi h a 14) = (-(nI 1)) → MetPM m_X3_add [.ref (a + 5), .int (gi (si h a 9 (nI 1)) a 1), .int (nI 5), .int (-(nI 1)), .int (gi (si h a 9 (nI 1)) a 13)] (si h a 9 (nI 1)) (rV (hnd Q (At m_X8_resumePlan Q) 0 [some (.ref a)] []) (fun h2 => Q (.inl (some (.int (gi h2 a 13)))) h2))))) :
    MetPM m_X8_resumePlan [.ref a] h Q := by
  rcases ha with rfl | rfl
  all_goals exact met_of o_X8_resumePlan (Nat.le_of_ble_eq_true rfl) (fun q => absurd rfl q) (vg_ok k_X8_resumePlan (stops := []) 71 0 0 _ [] h T)
set_option maxRecDepth 100000 in
set_option maxHeartbeats 4000000 in
theorem t_X8_setHeld {a : Nat} (ha : a = 60 ∨ a = 67) {p0 : Int32} {p1 : Int32} {h : PH} {Q : Res → PH → Prop}
    (T : ((p1 = 0 → ((p1 = 0 → MetPM m_X3_add [.ref (a + 5), .int (gi (si h a 8 ((gi h a 8) &&& (((nI 1) <<< (p0 &&& 31)) ^^^ (-(nI 1))))) a 1), .int (nI 8), .int p0, .int (nI 0)] (si h a 8 ((gi h a 8) &&& (((nI 1) <<< (p0 &&& 31)) ^^^ (-(nI 1))))) (rV (hnd Q (At m_X8_setHeld Q) 0 [some (.ref a), some (.int p0), some (.int p1)] []) (fun h1 => MetPM m_J6_bitCount_0f7a4 [.int (gi h1 a 8)] h1 (rI (hnd Q (At m_X8_setHeld Q) 0 [some (.ref a), some (.int p0), some (.int p1)] []) (fun x3 h2 => Q (.inl (some (.int x3))) h2))))) ∧ (¬ p1 = 0 → MetPM m_X3_add [.ref (a + 5), .int (gi (si h a 8 ((gi h a 8) &&& (((nI 1) <<< (p0 &&& 31)) ^^^ (-(nI 1))))) a 1), .int (nI 8), .int p0, .int (nI 1)] (si h a 8 ((gi h a 8) &&& (((nI 1) <<< (p0 &&& 31)) ^^^ (-(nI 1))))) (rV (hnd Q (At m_X8_setHeld Q) 0 [some (.ref a), some (.int p0), some (.int p1)] []) (fun h4 => MetPM m_J6_bitCount_0f7a4 [.int (gi h4 a 8)] h4 (rI (hnd Q (At m_X8_setHeld Q) 0 [some (.ref a), some (.int p0), some (.int p1)] []) (fun x6 h5 => Q (.inl (some (.int x6))) h5))))))) ∧ (¬ p1 = 0 → ((p1 = 0 → MetPM m_X3_add [.ref (a + 5), .int (gi (si h a 8 ((gi h a 8) ||| ((nI 1) <<< (p0 &&& 31)))) a 1), .int (nI 8), .int p0, .int (nI 0)] (si h a 8 ((gi h a 8) ||| ((nI 1) <<< (p0 &&& 31)))) (rV (hnd Q (At m_X8_setHeld Q) 0 [some (.ref a), some (.int p0), some (.int p1)] []) (fun h7 => MetPM m_J6_bitCount_0f7a4 [.int (gi h7 a 8)] h7 (rI (hnd Q (At m_X8_setHeld Q) 0 [some (.ref a), some (.int p0), some (.int p1)] []) (fun x9 h8 => Q (.inl (some (.int x9))) h8))))) ∧ (¬ p1 = 0 → MetPM m_X3_add [.ref (a + 5), .int (gi (si h a 8 ((gi h a 8) ||| ((nI 1) <<< (p0 &&& 31)))) a 1), .int (nI 8), .int p0, .int (nI 1)] (si h a 8 ((gi h a 8) ||| ((nI 1) <<< (p0 &&& 31)))) (rV (hnd Q (At m_X8_setHeld Q) 0 [some (.ref a), some (.int p0), some (.int p1)] []) (fun h10 => MetPM m_J6_bitCount_0f7a4 [.int (gi h10 a 8)] h10 (rI (hnd Q (At m_X8_setHeld Q) 0 [some (.ref a), some (.int p0), some (.int p1)] []) (fun x12 h11 => Q (.inl (some (.int x12))) h11))))))))) :
    MetPM m_X8_setHeld [.ref a, .int p0, .int p1] h Q := by
  rcases ha with rfl | rfl
  all_goals exact met_of o_X8_setHeld (Nat.le_of_ble_eq_true rfl) (fun q => absurd rfl q) (vg_ok k_X8_setHeld (stops := []) 85 0 0 _ [] h T)
set_option maxRecDepth 100000 in
set_option maxHeartbeats 4000000 in
theorem t_X8_setMeasure {a : Nat} (ha : a = 60 ∨ a = 67) {p0 : Int32} {p1 : Int32} {h : PH} {Q : Res → PH → Prop}
    (T : (vp_in p0 12 ∧ (vp_in p0 12 ∧ Q (.inl (some (.int (gi h (a + 4) p0.toNatClampNeg)))) (si h (a + 4) p0.toNatClampNeg p1)))) :
    MetPM m_X8_setMeasure [.ref a, .int p0, .int p1] h Q := by
  rcases ha with rfl | rfl
  all_goals exact met_of o_X8_setMeasure (Nat.le_of_ble_eq_true rfl) (fun q => absurd rfl q) (vg_ok k_X8_setMeasure (stops := []) 62 0 0 _ [] h T)
set_option maxRecDepth 100000 in
set_option maxHeartbeats 4000000 in
theorem t_X8_setFormat {a : Nat} (ha : a = 60 ∨ a = 67) {p0 : Int32} {h : PH} {Q : Res → PH → Prop}
    (T : MetPM m_X3_add [.ref (a + 5), .int (gi (si h a 2 p0) a 1), .int (nI 7), .int (-(nI 1)), .int p0] (si h a 2 p0) (rV (hnd Q (At m_X8_setFormat Q) 0 [some (.ref a), some (.int p0), some (.int (gi h a 2))] []) (fun h1 => Q (.inl (some (.int (gi h a 2)))) h1))) :
    MetPM m_X8_setFormat [.ref a, .int p0] h Q := by
  rcases ha with rfl | rfl
  all_goals exact met_of o_X8_setFormat (Nat.le_of_ble_eq_true rfl) (fun q => absurd rfl q) (vg_ok k_X8_setFormat (stops := []) 66 0 0 _ [] h T)
