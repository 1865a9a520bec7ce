/-! ===== what each method does, step by step, 4 ===== -/
set_option maxRecDepth 100000 in
set_option maxHeartbeats 4000000 in
theorem t_X11_feed {p0 : Int32} {p1 : Int32} {p2 : Int32} {p3 : Int32} {p4 : Int32} {h : PH} {Q : Res → PH → Prop}
    (T : ((((gi h 1 1) + (nI 20)) ≤ (nI 900) → MetPM m_X10_append [.ref 1, .int p0] h (rV (hnd Q (At m_X11_feed Q) 0 [some (.ref 0), some (.int p0), some (.int p1), some (.int p2), some (.int p3), some (.int p4)] []) (fun h1 => MetPM m_X10_append [.ref 1, .int p1] h1 (rV (hnd Q (At m_X11_feed Q) 0 [some (.ref 0), some (.int p0), some (.int p1), some (.int p2), some (.int p3), some (.int p4)] []) (fun h2 => MetPM m_X10_append [.ref 1, .int p2] h2 (rV (hnd Q (At m_X11_feed Q) 0 [some (.ref 0), some (.int p0), some (.int p1), some (.int p2), some (.int p3), some (.int p4)] []) (fun h3 => MetPM m_X10_append [.ref 1, .int p3] h3 (rV (hnd Q (At m_X11_feed Q) 0 [some (.ref 0), some (.int p0), some (.int p1), some (.int p2), some (.int p3), some (.int p4)] []) (fun h4 => MetPM m_X10_append [.ref 1, .int p4] h4 (rV (hnd Q (At m_X11_feed Q) 0 [some (.ref 0), some (.int p0), some (.int p1), some (.int p2), some (.int p3), some (.int p4)] []) (fun h5 => Q (.inl (some (.int (gi h5 1 1)))) h5))))))))))) ∧ (¬ ((gi h 1 1) + (nI 20)) ≤ (nI 900) → (0 + 1 ≤ m_X11_feed.cap ∧ Q (.inr 0) h)))) :
    MetPM m_X11_feed [.ref 0, .int p0, .int p1, .int p2, .int p3, .int p4] h Q := by
  exact met_of o_X11_feed (Nat.le_of_ble_eq_true rfl) (fun q => absurd rfl q) (vg_ok k_X11_feed (stops := []) 85 0 0 _ [] h T)
set_option maxRecDepth 100000 in
set_option maxHeartbeats 4000000 in
theorem t_X11_truncate {p0 : Int32} {h : PH} {Q : Res → PH → Prop}
    (T : ((p0 < 0 → (0 + 1 ≤ m_X11_truncate.cap ∧ Q (.inr 1) h)) ∧ (¬ p0 < 0 → ((p0 ≤ (gi h 1 1) → Q (.inl (some (.int p0))) (si h 1 1 p0)) ∧ (¬ p0 ≤ (gi h 1 1) → (0 + 1 ≤ m_X11_truncate.cap ∧ Q (.inr 1) h)))))) :
    MetPM m_X11_truncate [.ref 0, .int p0] h Q := by
  exact met_of o_X11_truncate (Nat.le_of_ble_eq_true rfl) (fun q => absurd rfl q) (vg_ok k_X11_truncate (stops := []) 67 0 0 _ [] h T)
set_option maxRecDepth 100000 in
set_option maxHeartbeats 4000000 in
theorem t_X11_readText {h : PH} {Q : Res → PH → Prop}
    (T : MetPM m_X1_readAll [.ref 4] h (rI (hnd Q (At m_X11_readText Q) 0 [some (.ref 0), none] []) (fun x2 h1 => ((¬ x2 = 0 → MetPM m_X8_replaceBy [.ref 60, .ref 74] (si h1 1 1 (nI 0)) (rV (hnd Q (At m_X11_readText Q) 0 [some (.ref 0), some (.int x2)] []) (fun h3 => MetPM m_X4_forget [.ref 13] h3 (rV (hnd Q (At m_X11_readText Q) 0 [some (.ref 0), some (.int x2)] []) (fun h4 => Q (.inl (some (.int (gi h4 26 1)))) h4))))) ∧ (x2 = 0 → (0 + 1 ≤ m_X11_readText.cap ∧ Q (.inr 1) (si h1 1 1 (nI 0)))))))) :
    MetPM m_X11_readText [.ref 0] h Q := by
  exact met_of o_X11_readText (Nat.le_of_ble_eq_true rfl) (fun q => absurd rfl q) (vg_ok k_X11_readText (stops := []) 78 0 0 _ [] h T)
set_option maxRecDepth 100000 in
set_option maxHeartbeats 4000000 in
theorem t_X11_setting {p0 : Int32} {h : PH} {Q : Res → PH → Prop}
    (T : ((p0 < 0 → (0 + 1 ≤ m_X11_setting.cap ∧ Q (.inr 1) h)) ∧ (¬ p0 < 0 → ((p0 ≤ (nI 11) → ((¬ p0 = (nI 5) → ((¬ p0 = (nI 11) → MetPM m_X5_numberOf [.ref 15, .int p0] h (rI (hnd Q (At m_X11_setting Q) 0 [some (.ref 0), some (.int p0)] []) (fun x2 h1 => Q (.inl (some (.int x2))) h1))) ∧ (p0 = (nI 11) → Q (.inl (some (.int (gi h 60 1)))) h))) ∧ (p0 = (nI 5) → Q (.inl (some (.int (gi h 60 2)))) h))) ∧ (¬ p0 ≤ (nI 11) → (0 + 1 ≤ m_X11_setting.cap ∧ Q (.inr 1) h)))))) :
    MetPM m_X11_setting [.ref 0, .int p0] h Q := by
  exact met_of o_X11_setting (Nat.le_of_ble_eq_true rfl) (fun q => absurd rfl q) (vg_ok k_X11_setting (stops := []) 79 0 0 _ [] h T)
set_option maxRecDepth 100000 in
set_option maxHeartbeats 4000000 in
theorem t_X11_needVersion {p0 : Int32} {h : PH} {Q : Res → PH → Prop}
    (T : ((p0 < 0 → (0 + 1 ≤ m_X11_needVersion.cap ∧ Q (.inr 2) h)) ∧ (¬ p0 < 0 → ((p0 < (gi h 16 1) → Q (.inl none) h) ∧ (¬ p0 < (gi h 16 1) → (0 + 1 ≤ m_X11_needVersion.cap ∧ Q (.inr 2) h)))))) :
    MetPM m_X11_needVersion [.ref 0, .int p0] h Q := by
  exact met_of o_X11_needVersion (Nat.le_of_ble_eq_true rfl) (fun q => absurd rfl q) (vg_ok k_X11_needVersion (stops := []) 64 0 0 _ [] h T)
set_option maxRecDepth 100000 in
set_option maxHeartbeats 4000000 in
theorem t_X11_mayTalk {p0 : Int32} {p1 : Int32} {h : PH} {Q : Res → PH → Prop}
    (T : (1 ≤ m_X11_mayTalk.cap ∧ MetPM m_X11_needVersion [.ref 0, .int p0] h (rV (hnd Q (At m_X11_mayTalk Q) 1 [some (.ref 0), some (.int p0), some (.int p1)] []) (fun h1 => (2 ≤ m_X11_mayTalk.cap ∧ MetPM m_X11_needVersion [.ref 0, .int p1] h1 (rV (hnd Q (At m_X11_mayTalk Q) 2 [some (.ref 0), some (.int p0), some (.int p1)] []) (fun h2 => MetPM m_X5_talkersOf [.ref 15, .int p0] h2 (rI (hnd Q (At m_X11_mayTalk Q) 2 [some (.ref 0), some (.int p0), some (.int p1)] []) (fun x4 h3 => MetPM m_X11_isIn [.int x4, .int p1] h3 (rI (hnd Q (At m_X11_mayTalk Q) 2 [some (.ref 0), some (.int p0), some (.int p1)] []) (fun x6 h5 => (isB x6 ∧ Q (.inl (some (.int x6))) h5)))))))))))) :
    MetPM m_X11_mayTalk [.ref 0, .int p0, .int p1] h Q := by
  exact met_of o_X11_mayTalk (Nat.le_of_ble_eq_true rfl) (fun q => absurd rfl q) (vg_ok k_X11_mayTalk (stops := []) 64 0 0 _ [] h T)
set_option maxRecDepth 100000 in
set_option maxHeartbeats 4000000 in
theorem t_X11_readers {p0 : Int32} {h : PH} {Q : Res → PH → Prop}
    (T : (1 ≤ m_X11_readers.cap ∧ MetPM m_X11_needFormat [.int p0] h (rV (hnd Q (At m_X11_readers Q) 1 [some (.ref 0), some (.int p0)] []) (fun h1 => MetPM m_X5_readersOf [.ref 15, .int p0] h1 (rI (hnd Q (At m_X11_readers Q) 1 [some (.ref 0), some (.int p0)] []) (fun x3 h2 => Q (.inl (some (.int x3))) h2)))))) :
    MetPM m_X11_readers [.ref 0, .int p0] h Q := by
  exact met_of o_X11_readers (Nat.le_of_ble_eq_true rfl) (fun q => absurd rfl q) (vg_ok k_X11_readers (stops := []) 58 0 0 _ [] h T)
set_option maxRecDepth 100000 in
set_option maxHeartbeats 4000000 in
theorem t_X11_needMember {p0 : Int32} {h : PH} {Q : Res → PH → Prop}
    (T : ((p0 < 0 → (0 + 1 ≤ m_X11_needMember.cap ∧ Q (.inr 2) h)) ∧ (¬ p0 < 0 → ((p0 < (gi h 26 1) → Q (.inl none) h) ∧ (¬ p0 < (gi h 26 1) → (0 + 1 ≤ m_X11_needMember.cap ∧ Q (.inr 2) h)))))) :
    MetPM m_X11_needMember [.ref 0, .int p0] h Q := by
  exact met_of o_X11_needMember (Nat.le_of_ble_eq_true rfl) (fun q => absurd rfl q) (vg_ok k_X11_needMember (stops := []) 64 0 0 _ [] h T)
set_option maxRecDepth 100000 in
set_option maxHeartbeats 4000000 in
theorem t_X11_member {p0 : Int32} {p1 : Int32} {h : PH} {Q : Res → PH → Prop}
    (T : (1 ≤ m_X11_member.cap ∧ MetPM m_X11_needMember [.ref 0, .int p0] h (rV (hnd Q (At m_X11_member Q) 1 [some (.ref 0), some (.int p0), some (.int p1)] []) (fun h1 => ((p1 < 0 → (1 + 1 ≤ m_X11_member.cap ∧ Q (.inr 1) h1)) ∧ (¬ p1 < 0 → ((p1 ≤ (nI 6) → MetPM m_X8_numberOfMember [.ref 60, .int p0, .int p1] h1 (rI (hnd Q (At m_X11_member Q) 1 [some (.ref 0), some (.int p0), some (.int p1)] []) (fun x3 h2 => Q (.inl (some (.int x3))) h2))) ∧ (¬ p1 ≤ (nI 6) → (1 + 1 ≤ m_X11_member.cap ∧ Q (.inr 1) h1))))))))) :
    MetPM m_X11_member [.ref 0, .int p0, .int p1] h Q := by
  exact met_of o_X11_member (Nat.le_of_ble_eq_true rfl) (fun q => absurd rfl q) (vg_ok k_X11_member (stops := []) 68 0 0 _ [] h T)
set_option maxRecDepth 100000 in
set_option maxHeartbeats 4000000 in
theorem t_X11_partners {p0 : Int32} {h : PH} {Q : Res → PH → Prop}
    (T : (1 ≤ m_X11_partners.cap ∧ MetPM m_X11_needMember [.ref 0, .int p0] h (rV (hnd Q (At m_X11_partners Q) 1 [some (.ref 0), some (.int p0)] []) (fun h1 => (vp_in p0 12 ∧ Q (.inl (some (.int (gi h1 29 p0.toNatClampNeg)))) h1))))) :
    MetPM m_X11_partners [.ref 0, .int p0] h Q := by
  exact met_of o_X11_partners (Nat.le_of_ble_eq_true rfl) (fun q => absurd rfl q) (vg_ok k_X11_partners (stops := []) 60 0 0 _ [] h T)
set_option maxRecDepth 100000 in
set_option maxHeartbeats 4000000 in
theorem t_X11_down {p0 : Int32} {h : PH} {Q : Res → PH → Prop}
    (T : ((p0 < 0 → (0 + 1 ≤ m_X11_down.cap ∧ Q (.inr 2) h)) ∧ (¬ p0 < 0 → ((p0 < (gi h 21 1) → (vp_in p0 5 ∧ Q (.inl (some (.int ((gi h 24 p0.toNatClampNeg) &&& (gi h 60 7))))) h)) ∧ (¬ p0 < (gi h 21 1) → (0 + 1 ≤ m_X11_down.cap ∧ Q (.inr 2) h)))))) :
    MetPM m_X11_down [.ref 0, .int p0] h Q := by
  exact met_of o_X11_down (Nat.le_of_ble_eq_true rfl) (fun q => absurd rfl q) (vg_ok k_X11_down (stops := []) 74 0 0 _ [] h T)
set_option maxRecDepth 100000 in
set_option maxHeartbeats 4000000 in
theorem t_X11_skewNow {h : PH} {Q : Res → PH → Prop}
    (T : MetPM m_X5_everyMember [.ref 15] h (rI (hnd Q (At m_X11_skewNow Q) 0 [some (.ref 0), none] []) (fun x2 h1 => ((¬ x2 = 0 → MetPM m_X8_highestComing [.ref 60, .int x2] h1 (rI (hnd Q (At m_X11_skewNow Q) 0 [some (.ref 0), some (.int x2)] []) (fun x4 h3 => MetPM m_X8_lowestComing [.ref 60, .int x2] h3 (rI (hnd Q (At m_X11_skewNow Q) 0 [some (.ref 0), some (.int x2)] []) (fun x6 h5 => Q (.inl (some (.int (x4 - x6)))) h5))))) ∧ (x2 = 0 → Q (.inl (some (.int (nI 0)))) h1))))) :
    MetPM m_X11_skewNow [.ref 0] h Q := by
  exact met_of o_X11_skewNow (Nat.le_of_ble_eq_true rfl) (fun q => absurd rfl q) (vg_ok k_X11_skewNow (stops := []) 69 0 0 _ [] h T)
set_option maxRecDepth 100000 in
set_option maxHeartbeats 4000000 in
theorem t_X11_reason {p0 : Int32} {p1 : Int32} {h : PH} {Q : Res → PH → Prop}
    (T : (1 ≤ m_X11_reason.cap ∧ MetPM m_X11_needMember [.ref 0, .int p0] h (rV (hnd Q (At m_X11_reason Q) 1 [some (.ref 0), some (.int p0), some (.int p1)] []) (fun h1 => (2 ≤ m_X11_reason.cap ∧ MetPM m_X11_needVersion [.ref 0, .int p1] h1 (rV (hnd Q (At m_X11_reason Q) 2 [some (.ref 0), some (.int p0), some (.int p1)] []) (fun h2 => MetPM m_X8_whyNotBegin [.ref 60, .int p0, .int p1] h2 (rI (hnd Q (At m_X11_reason Q) 2 [some (.ref 0), some (.int p0), some (.int p1)] []) (fun x4 h3 => Q (.inl (some (.int x4))) h3))))))))) :
    MetPM m_X11_reason [.ref 0, .int p0, .int p1] h Q := by
  exact met_of o_X11_reason (Nat.le_of_ble_eq_true rfl) (fun q => absurd rfl q) (vg_ok k_X11_reason (stops := []) 62 0 0 _ [] h T)
set_option maxRecDepth 100000 in
set_option maxHeartbeats 4000000 in
theorem t_X11_open {p0 : Int32} {h : PH} {Q : Res → PH → Prop}
    (T : (1 ≤ m_X11_open.cap ∧ MetPM m_X11_needMember [.ref 0, .int p0] h (rV (hnd Q (At m_X11_open Q) 1 [some (.ref 0), some (.int p0), none, none] []) (fun h1 => At m_X11_open Q 9 1 [some (.ref 0), some (.int p0), some (.int (nI 0)), some (.int (nI 0))] [] h1)))) :
    MetPM m_X11_open [.ref 0, .int p0] h Q := by
  exact met_of o_X11_open (Nat.le_of_ble_eq_true rfl) (fun q => absurd rfl q) (vg_ok k_X11_open (stops := [9]) 80 0 0 _ [] h T)
set_option maxRecDepth 100000 in
set_option maxHeartbeats 4000000 in
theorem u_X11_open_9 {v1 : Int32} {v2 : Int32} {v3 : Int32} {h : PH} {Q : Res → PH → Prop}
    (T : (((gi h 16 1) ≤ v3 → Q (.inl (some (.int v2))) h) ∧ (¬ (gi h 16 1) ≤ v3 → MetPM m_X8_whyNotBegin [.ref 60, .int v1, .int v3] h (rI (hnd Q (At m_X11_open Q) 1 [some (.ref 0), some (.int v1), some (.int v2), some (.int v3)] []) (fun x2 h1 => ((¬ x2 = 0 → At m_X11_open Q 9 1 [some (.ref 0), some (.int v1), some (.int v2), some (.int (v3 + (nI 1)))] [] h1) ∧ (x2 = 0 → At m_X11_open Q 9 1 [some (.ref 0), some (.int v1), some (.int (v2 ||| ((nI 1) <<< (v3 &&& 31)))), some (.int (v3 + (nI 1)))] [] h1))))))) :
    At m_X11_open Q 9 1 [some (.ref 0), some (.int v1), some (.int v2), some (.int v3)] [] h := by
  exact vg_ok k_X11_open (stops := [9]) 80 9 1 _ _ h T
set_option maxRecDepth 100000 in
set_option maxHeartbeats 4000000 in
theorem t_X11_plan {p0 : Int32} {h : PH} {Q : Res → PH → Prop}
    (T : ((p0 < 0 → (0 + 1 ≤ m_X11_plan.cap ∧ Q (.inr 1) h)) ∧ (¬ p0 < 0 → ((p0 ≤ (nI 4) → MetPM m_X8_numberOfPlan [.ref 60, .int p0] h (rI (hnd Q (At m_X11_plan Q) 0 [some (.ref 0), some (.int p0)] []) (fun x2 h1 => Q (.inl (some (.int x2))) h1))) ∧ (¬ p0 ≤ (nI 4) → (0 + 1 ≤ m_X11_plan.cap ∧ Q (.inr 1) h)))))) :
    MetPM m_X11_plan [.ref 0, .int p0] h Q := by
  exact met_of o_X11_plan (Nat.le_of_ble_eq_true rfl) (fun q => absurd rfl q) (vg_ok k_X11_plan (stops := []) 64 0 0 _ [] h T)
set_option maxRecDepth 100000 in
set_option maxHeartbeats 4000000 in
theorem t_X11_whyNotCommit {p0 : Int32} {h : PH} {Q : Res → PH → Prop}
    (T : (1 ≤ m_X11_whyNotCommit.cap ∧ MetPM m_X11_needFormat [.int p0] h (rV (hnd Q (At m_X11_whyNotCommit Q) 1 [some (.ref 0), some (.int p0)] []) (fun h1 => MetPM m_X8_whyNotFormat [.ref 60, .int p0] h1 (rI (hnd Q (At m_X11_whyNotCommit Q) 1 [some (.ref 0), some (.int p0)] []) (fun x3 h2 => Q (.inl (some (.int x3))) h2)))))) :
    MetPM m_X11_whyNotCommit [.ref 0, .int p0] h Q := by
  exact met_of o_X11_whyNotCommit (Nat.le_of_ble_eq_true rfl) (fun q => absurd rfl q) (vg_ok k_X11_whyNotCommit (stops := []) 57 0 0 _ [] h T)
set_option maxRecDepth 100000 in
set_option maxHeartbeats 4000000 in
theorem t_X11_wayBack {h : PH} {Q : Res → PH → Prop}
    (T : MetPM m_X8_lowestWayBack [.ref 60] h (rI (hnd Q (At m_X11_wayBack Q) 0 [some (.ref 0)] []) (fun x2 h1 => Q (.inl (some (.int x2))) h1))) :
    MetPM m_X11_wayBack [.ref 0] h Q := by
  exact met_of o_X11_wayBack (Nat.le_of_ble_eq_true rfl) (fun q => absurd rfl q) (vg_ok k_X11_wayBack (stops := []) 54 0 0 _ [] h T)
set_option maxRecDepth 100000 in
set_option maxHeartbeats 4000000 in
theorem t_X11_minutesToEnd {p0 : Int32} {h : PH} {Q : Res → PH → Prop}
    (T : (1 ≤ m_X11_minutesToEnd.cap ∧ MetPM m_X11_needAhead [.int p0] h (rV (hnd Q (At m_X11_minutesToEnd Q) 1 [some (.ref 0), some (.int p0)] []) (fun h1 => MetPM m_X8_copyFrom [.ref 67, .ref 60] h1 (rV (hnd Q (At m_X11_minutesToEnd Q) 1 [some (.ref 0), some (.int p0)] []) (fun h2 => MetPM m_X8_minutesToDone [.ref 67, .int p0] h2 (rI (hnd Q (At m_X11_minutesToEnd Q) 1 [some (.ref 0), some (.int p0)] []) (fun x4 h3 => Q (.inl (some (.int x4))) h3)))))))) :
    MetPM m_X11_minutesToEnd [.ref 0, .int p0] h Q := by
  exact met_of o_X11_minutesToEnd (Nat.le_of_ble_eq_true rfl) (fun q => absurd rfl q) (vg_ok k_X11_minutesToEnd (stops := []) 62 0 0 _ [] h T)
set_option maxRecDepth 100000 in
set_option maxHeartbeats 4000000 in
theorem t_X11_events {h : PH} {Q : Res → PH → Prop}
    (T : Q (.inl (some (.int (gi h 65 1)))) h) :
    MetPM m_X11_events [.ref 0] h Q := by
  exact met_of o_X11_events (Nat.le_of_ble_eq_true rfl) (fun q => absurd rfl q) (vg_ok k_X11_events (stops := []) 55 0 0 _ [] h T)
set_option maxRecDepth 100000 in
set_option maxHeartbeats 4000000 in
theorem t_X11_event {p0 : Int32} {p1 : Int32} {h : PH} {Q : Res → PH → Prop}
    (T : ((p0 < 0 → (0 + 1 ≤ m_X11_event.cap ∧ Q (.inr 2) h)) ∧ (¬ p0 < 0 → ((p0 < (gi h 65 1) → ((p1 < 0 → (0 + 1 ≤ m_X11_event.cap ∧ Q (.inr 1) h)) ∧ (¬ p1 < 0 → ((p1 < (nI 4) → MetPM m_X3_cellOf [.ref 65, .int p0, .int p1] h (rI (hnd Q (At m_X11_event Q) 0 [some (.ref 0), some (.int p0), some (.int p1)] []) (fun x2 h1 => Q (.inl (some (.int x2))) h1))) ∧ (¬ p1 < (nI 4) → (0 + 1 ≤ m_X11_event.cap ∧ Q (.inr 1) h)))))) ∧ (¬ p0 < (gi h 65 1) → (0 + 1 ≤ m_X11_event.cap ∧ Q (.inr 2) h)))))) :
    MetPM m_X11_event [.ref 0, .int p0, .int p1] h Q := by
  exact met_of o_X11_event (Nat.le_of_ble_eq_true rfl) (fun q => absurd rfl q) (vg_ok k_X11_event (stops := []) 78 0 0 _ [] h T)
set_option maxRecDepth 100000 in
set_option maxHeartbeats 4000000 in
theorem t_X11_pass {p0 : Int32} {h : PH} {Q : Res → PH → Prop}
    (T : MetPM m_X8_canPass [.ref 60, .int p0] h (rI (hnd Q (At m_X11_pass Q) 0 [some (.ref 0), some (.int p0)] []) (fun x2 h1 => ((¬ x2 = 0 → MetPM m_X4_keep [.ref 13, .ref 60] h1 (rV (hnd Q (At m_X11_pass Q) 0 [some (.ref 0), some (.int p0)] []) (fun h3 => MetPM m_X8_passMinutes [.ref 60, .int p0] h3 (rI (hnd Q (At m_X11_pass Q) 0 [some (.ref 0), some (.int p0)] []) (fun x5 h4 => Q (.inl (some (.int x5))) h4))))) ∧ (x2 = 0 → (0 + 1 ≤ m_X11_pass.cap ∧ Q (.inr 1) h1)))))) :
    MetPM m_X11_pass [.ref 0, .int p0] h Q := by
  exact met_of o_X11_pass (Nat.le_of_ble_eq_true rfl) (fun q => absurd rfl q) (vg_ok k_X11_pass (stops := []) 69 0 0 _ [] h T)
set_option maxRecDepth 100000 in
set_option maxHeartbeats 4000000 in
theorem t_X11_start {p0 : Int32} {h : PH} {Q : Res → PH → Prop}
    (T : (1 ≤ m_X11_start.cap ∧ MetPM m_X11_needVersion [.ref 0, .int p0] h (rV (hnd Q (At m_X11_start Q) 1 [some (.ref 0), some (.int p0)] []) (fun h1 => MetPM m_X8_canStart [.ref 60] h1 (rI (hnd Q (At m_X11_start Q) 1 [some (.ref 0), some (.int p0)] []) (fun x3 h2 => ((¬ x3 = 0 → MetPM m_X4_keep [.ref 13, .ref 60] h2 (rV (hnd Q (At m_X11_start Q) 1 [some (.ref 0), some (.int p0)] []) (fun h4 => MetPM m_X8_startPlan [.ref 60, .int p0] h4 (rI (hnd Q (At m_X11_start Q) 1 [some (.ref 0), some (.int p0)] []) (fun x6 h5 => Q (.inl (some (.int x6))) h5))))) ∧ (x3 = 0 → (1 + 1 ≤ m_X11_start.cap ∧ Q (.inr 0) h2))))))))) :
    MetPM m_X11_start [.ref 0, .int p0] h Q := by
  exact met_of o_X11_start (Nat.le_of_ble_eq_true rfl) (fun q => absurd rfl q) (vg_ok k_X11_start (stops := []) 71 0 0 _ [] h T)
set_option maxRecDepth 100000 in
set_option maxHeartbeats 4000000 in
theorem t_X11_stop {h : PH} {Q : Res → PH → Prop}
    (T : MetPM m_X8_isActive [.ref 60] h (rI (hnd Q (At m_X11_stop Q) 0 [some (.ref 0)] []) (fun x2 h1 => ((¬ x2 = 0 → MetPM m_X4_keep [.ref 13, .ref 60] h1 (rV (hnd Q (At m_X11_stop Q) 0 [some (.ref 0)] []) (fun h3 => MetPM m_X8_stopPlan [.ref 60] h3 (rI (hnd Q (At m_X11_stop Q) 0 [some (.ref 0)] []) (fun x5 h4 => Q (.inl (some (.int x5))) h4))))) ∧ (x2 = 0 → (0 + 1 ≤ m_X11_stop.cap ∧ Q (.inr 0) h1)))))) :
    MetPM m_X11_stop [.ref 0] h Q := by
  exact met_of o_X11_stop (Nat.le_of_ble_eq_true rfl) (fun q => absurd rfl q) (vg_ok k_X11_stop (stops := []) 67 0 0 _ [] h T)
set_option maxRecDepth 100000 in
set_option maxHeartbeats 4000000 in
theorem t_X11_go {h : PH} {Q : Res → PH → Prop}
    (T : (((gi h 60 9) = (nI 3) → MetPM m_X4_keep [.ref 13, .ref 60] h (rV (hnd Q (At m_X11_go Q) 0 [some (.ref 0)] []) (fun h1 => MetPM m_X8_resumePlan [.ref 60] h1 (rI (hnd Q (At m_X11_go Q) 0 [some (.ref 0)] []) (fun x3 h2 => Q (.inl (some (.int x3))) h2))))) ∧ (¬ (gi h 60 9) = (nI 3) → (0 + 1 ≤ m_X11_go.cap ∧ Q (.inr 0) h)))) :
    MetPM m_X11_go [.ref 0] h Q := by
  exact met_of o_X11_go (Nat.le_of_ble_eq_true rfl) (fun q => absurd rfl q) (vg_ok k_X11_go (stops := []) 68 0 0 _ [] h T)
set_option maxRecDepth 100000 in
set_option maxHeartbeats 4000000 in
theorem t_X11_hold {p0 : Int32} {p1 : Int32} {h : PH} {Q : Res → PH → Prop}
    (T : (1 ≤ m_X11_hold.cap ∧ MetPM m_X11_needMember [.ref 0, .int p0] h (rV (hnd Q (At m_X11_hold Q) 1 [some (.ref 0), some (.int p0), some (.int p1)] []) (fun h1 => MetPM m_X11_isIn [.int (gi h1 60 8), .int p0] h1 (rI (hnd Q (At m_X11_hold Q) 1 [some (.ref 0), some (.int p0), some (.int p1)] []) (fun x3 h2 => ((¬ x3 = p1 → MetPM m_X4_keep [.ref 13, .ref 60] h2 (rV (hnd Q (At m_X11_hold Q) 1 [some (.ref 0), some (.int p0), some (.int p1)] []) (fun h4 => MetPM m_X8_setHeld [.ref 60, .int p0, .int p1] h4 (rI (hnd Q (At m_X11_hold Q) 1 [some (.ref 0), some (.int p0), some (.int p1)] []) (fun x6 h5 => Q (.inl (some (.int x6))) h5))))) ∧ (x3 = p1 → (1 + 1 ≤ m_X11_hold.cap ∧ Q (.inr 0) h2))))))))) :
    MetPM m_X11_hold [.ref 0, .int p0, .int p1] h Q := by
  exact met_of o_X11_hold (Nat.le_of_ble_eq_true rfl) (fun q => absurd rfl q) (vg_ok k_X11_hold (stops := []) 75 0 0 _ [] h T)
set_option maxRecDepth 100000 in
set_option maxHeartbeats 4000000 in
theorem t_X11_report {p0 : Int32} {p1 : Int32} {h : PH} {Q : Res → PH → Prop}
    (T : (1 ≤ m_X11_report.cap ∧ MetPM m_X11_needMember [.ref 0, .int p0] h (rV (hnd Q (At m_X11_report Q) 1 [some (.ref 0), some (.int p0), some (.int p1)] []) (fun h1 => (2 ≤ m_X11_report.cap ∧ MetPM m_X11_needMeasure [.int p1] h1 (rV (hnd Q (At m_X11_report Q) 2 [some (.ref 0), some (.int p0), some (.int p1)] []) (fun h2 => MetPM m_X8_isUp [.ref 60, .int p0] h2 (rI (hnd Q (At m_X11_report Q) 2 [some (.ref 0), some (.int p0), some (.int p1)] []) (fun x4 h3 => ((¬ x4 = 0 → MetPM m_X4_keep [.ref 13, .ref 60] h3 (rV (hnd Q (At m_X11_report Q) 2 [some (.ref 0), some (.int p0), some (.int p1)] []) (fun h5 => MetPM m_X8_setMeasure [.ref 60, .int p0, .int p1] h5 (rI (hnd Q (At m_X11_report Q) 2 [some (.ref 0), some (.int p0), some (.int p1)] []) (fun x7 h6 => Q (.inl (some (.int x7))) h6))))) ∧ (x4 = 0 → (2 + 1 ≤ m_X11_report.cap ∧ Q (.inr 0) h3)))))))))))) :
    MetPM m_X11_report [.ref 0, .int p0, .int p1] h Q := by
  exact met_of o_X11_report (Nat.le_of_ble_eq_true rfl) (fun q => absurd rfl q) (vg_ok k_X11_report (stops := []) 75 0 0 _ [] h T)
set_option maxRecDepth 100000 in
set_option maxHeartbeats 4000000 in
theorem t_X11_change {p0 : Int32} {p1 : Int32} {h : PH} {Q : Res → PH → Prop}
    (T : (1 ≤ m_X11_change.cap ∧ MetPM m_X11_needMember [.ref 0, .int p0] h (rV (hnd Q (At m_X11_change Q) 1 [some (.ref 0), some (.int p0), some (.int p1)] []) (fun h1 => (2 ≤ m_X11_change.cap ∧ MetPM m_X11_needVersion [.ref 0, .int p1] h1 (rV (hnd Q (At m_X11_change Q) 2 [some (.ref 0), some (.int p0), some (.int p1)] []) (fun h2 => MetPM m_X8_whyNotBegin [.ref 60, .int p0, .int p1] h2 (rI (hnd Q (At m_X11_change Q) 2 [some (.ref 0), some (.int p0), some (.int p1)] []) (fun x4 h3 => ((x4 = 0 → MetPM m_X4_keep [.ref 13, .ref 60] h3 (rV (hnd Q (At m_X11_change Q) 2 [some (.ref 0), some (.int p0), some (.int p1)] []) (fun h5 => MetPM m_X8_beginChange [.ref 60, .int p0, .int p1] h5 (rI (hnd Q (At m_X11_change Q) 2 [some (.ref 0), some (.int p0), some (.int p1)] []) (fun x7 h6 => Q (.inl (some (.int x7))) h6))))) ∧ (¬ x4 = 0 → (2 + 1 ≤ m_X11_change.cap ∧ Q (.inr 0) h3)))))))))))) :
    MetPM m_X11_change [.ref 0, .int p0, .int p1] h Q := by
  exact met_of o_X11_change (Nat.le_of_ble_eq_true rfl) (fun q => absurd rfl q) (vg_ok k_X11_change (stops := []) 77 0 0 _ [] h T)
set_option maxRecDepth 100000 in
set_option maxHeartbeats 4000000 in
theorem t_X11_commit {p0 : Int32} {h : PH} {Q : Res → PH → Prop}
    (T : (1 ≤ m_X11_commit.cap ∧ MetPM m_X11_needFormat [.int p0] h (rV (hnd Q (At m_X11_commit Q) 1 [some (.ref 0), some (.int p0)] []) (fun h1 => MetPM m_X8_whyNotFormat [.ref 60, .int p0] h1 (rI (hnd Q (At m_X11_commit Q) 1 [some (.ref 0), some (.int p0)] []) (fun x3 h2 => ((x3 = 0 → MetPM m_X4_keep [.ref 13, .ref 60] h2 (rV (hnd Q (At m_X11_commit Q) 1 [some (.ref 0), some (.int p0)] []) (fun h4 => MetPM m_X8_setFormat [.ref 60, .int p0] h4 (rI (hnd Q (At m_X11_commit Q) 1 [some (.ref 0), some (.int p0)] []) (fun x6 h5 => Q (.inl (some (.int x6))) h5))))) ∧ (¬ x3 = 0 → (1 + 1 ≤ m_X11_commit.cap ∧ Q (.inr 0) h2))))))))) :
    MetPM m_X11_commit [.ref 0, .int p0] h Q := by
  exact met_of o_X11_commit (Nat.le_of_ble_eq_true rfl) (fun q => absurd rfl q) (vg_ok k_X11_commit (stops := []) 71 0 0 _ [] h T)
set_option maxRecDepth 100000 in
set_option maxHeartbeats 4000000 in
theorem t_X11_undo {h : PH} {Q : Res → PH → Prop}
    (T : ((¬ (gi h 13 1) = 0 → MetPM m_X4_takeBack [.ref 13, .ref 60] h (rV (hnd Q (At m_X11_undo Q) 0 [some (.ref 0)] []) (fun h1 => Q (.inl (some (.int (gi h1 13 1)))) h1))) ∧ ((gi h 13 1) = 0 → Q (.inl (some (.int (-(nI 1))))) h))) :
    MetPM m_X11_undo [.ref 0] h Q := by
  exact met_of o_X11_undo (Nat.le_of_ble_eq_true rfl) (fun q => absurd rfl q) (vg_ok k_X11_undo (stops := []) 65 0 0 _ [] h T)
