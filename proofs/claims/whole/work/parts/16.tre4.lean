/-! ===== what each method does, step by step, 4 ===== -/
set_option maxRecDepth 100000 in
set_option maxHeartbeats 4000000 in
theorem t_X11_feed {p0 : Int32} {p1 : Int32} {p2 : Int32} {p3 : Int32} {p4 : Int32} {h : PH} {Q : Res → PH → Prop}
    (T : ((((gi h 1 1) + (nI 20)) ≤ (nI 900) → MetPM m_X10_append [.ref 1, .int p0] h (rV (hnd Q (At m_X11_feed Q) 0 [some (.ref 0), some (.int p0), some (.int p1), some (.int p2), some (.int p3), some (.int p4)] []) (fun h1 => MetPM m_X10_append [.ref 1, .int p1] h1 (rV (hnd Q (At m_X11_feed Q) 0 [some (.ref 0), some (.int p0), some (.int p1), some (.int p2), some (.int p3), some (.int p4)] []) (fun h2 => MetPM m_X10_append [.ref 1, .int p2] h2 (rV (hnd Q (At m_X11_feed Q) 0 [some (.ref 0), some (.int p0), some (.int p1), some (.int p2), some (.int p3), some (.int p4)] []) (fun h3 => MetPM m_X10_append [.ref 1, .int p3] h3 (rV (hnd Q (At m_X11_feed Q) 0 [some (.ref 0), some (.int p0), some (.int p1), some (.int p2), some (.int p3), some (.int p4)] []) (fun h4 => MetPM m_X10_append [.ref 1, .int p4] h4 (rV (hnd Q (At m_X11_feed Q) 0 [some (.ref 0), some (.int p0), some (.int p1), some (.int p2), some (.int p3), some (.int p4)] []) (fun h5 => Q (.inl (some (.int (gi h5 1 1)))) h5))))))))))) ∧ (¬ ((gi h 1 1) + (nI 20)) ≤ (nI 900) → (0 + 1 ≤ m_X11_feed.cap ∧ Q (.inr 0) h)))) :
    MetPM m_X11_feed [.ref 0, .int p0, .int p1, .int p2, .int p3, .int p4] h Q := by
  exact met_of o_X11_feed (Nat.le_of_ble_eq_true rfl) (fun q => absurd rfl q) (vg_ok k_X11_feed (stops := []) 85 0 0 _ [] h T)
set_option maxRecDepth 100000 in
set_option maxHeartbeats 4000000 in
theorem t_L_feed {p1 : Int32} {p2 : Int32} {p3 : Int32} {p4 : Int32} {p5 : Int32} {h : PH} {Q : Res → PH → Prop} (hQ : ∀ x h, ¬ Q (.inr x) h)
    (T : (1 ≤ m_L_feed.cap ∧ MetPM m_X11_feed [.ref 0, .int p1, .int p2, .int p3, .int p4, .int p5] h (rI (hnd Q (At m_L_feed Q) 1 [some (.ref 0), some (.int p1), some (.int p2), some (.int p3), some (.int p4), some (.int p5), some (.ref 147), none] [21, 7, 0, 0, 0, 0]) (fun x2 h1 => (vp_in (nI 0) 1 ∧ Q (.inl (some (.int (nI 0)))) (sl h1 147 (nI 0).toNatClampNeg (x2.toInt64))))))) :
    MetPM m_L_feed [.ref 0, .int p1, .int p2, .int p3, .int p4, .int p5, .ref 147] h Q := by
  exact met_of o_L_feed (Nat.le_of_ble_eq_true rfl) (fun _ => hQ) (vg_ok k_L_feed (stops := []) 67 0 0 _ [] h T)
set_option maxRecDepth 100000 in
set_option maxHeartbeats 4000000 in
theorem u_L_feed_21 {v1 : Int32} {v2 : Int32} {v3 : Int32} {v4 : Int32} {v5 : Int32} {h : PH} {Q : Res → PH → Prop}
    (T : Q (.inl (some (.int (nI 1)))) h) :
    At m_L_feed Q 21 1 [some (.ref 0), some (.int v1), some (.int v2), some (.int v3), some (.int v4), some (.int v5), some (.ref 147), none] [] h := by
  exact vg_ok k_L_feed (stops := []) 67 21 1 _ _ h T
set_option maxRecDepth 100000 in
set_option maxHeartbeats 4000000 in
theorem t_X11_truncate {p0 : Int32} {h : PH} {Q : Res → PH → Prop}
    (T : ((p0 < 0 → (0 + 1 ≤ m_X11_truncate.cap ∧ Q (.inr 1) h)) ∧ (¬ p0 < 0 → ((p0 ≤ (gi h 1 1) → Q (.inl (some (.int p0))) (si h 1 1 p0)) ∧ (¬ p0 ≤ (gi h 1 1) → (0 + 1 ≤ m_X11_truncate.cap ∧ Q (.inr 1) h)))))) :
    MetPM m_X11_truncate [.ref 0, .int p0] h Q := by
  exact met_of o_X11_truncate (Nat.le_of_ble_eq_true rfl) (fun q => absurd rfl q) (vg_ok k_X11_truncate (stops := []) 67 0 0 _ [] h T)
set_option maxRecDepth 100000 in
set_option maxHeartbeats 4000000 in
theorem t_L_truncate {p1 : Int32} {h : PH} {Q : Res → PH → Prop} (hQ : ∀ x h, ¬ Q (.inr x) h)
    (T : (1 ≤ m_L_truncate.cap ∧ MetPM m_X11_truncate [.ref 0, .int p1] h (rI (hnd Q (At m_L_truncate Q) 1 [some (.ref 0), some (.int p1), some (.ref 147), none] [0, 0, 13, 3, 0, 0]) (fun x2 h1 => (vp_in (nI 0) 1 ∧ Q (.inl (some (.int (nI 0)))) (sl h1 147 (nI 0).toNatClampNeg (x2.toInt64))))))) :
    MetPM m_L_truncate [.ref 0, .int p1, .ref 147] h Q := by
  exact met_of o_L_truncate (Nat.le_of_ble_eq_true rfl) (fun _ => hQ) (vg_ok k_L_truncate (stops := []) 63 0 0 _ [] h T)
set_option maxRecDepth 100000 in
set_option maxHeartbeats 4000000 in
theorem u_L_truncate_13 {v1 : Int32} {h : PH} {Q : Res → PH → Prop}
    (T : Q (.inl (some (.int (nI 1)))) h) :
    At m_L_truncate Q 13 1 [some (.ref 0), some (.int v1), some (.ref 147), none] [] h := by
  exact vg_ok k_L_truncate (stops := []) 63 13 1 _ _ h T
set_option maxRecDepth 100000 in
set_option maxHeartbeats 4000000 in
theorem t_X11_readText {h : PH} {Q : Res → PH → Prop}
    (T : MetPM m_X1_readAll [.ref 4] h (rI (hnd Q (At m_X11_readText Q) 0 [some (.ref 0), none] []) (fun x2 h1 => ((¬ x2 = 0 → MetPM m_X8_replaceBy [.ref 60, .ref 74] (si h1 1 1 (nI 0)) (rV (hnd Q (At m_X11_readText Q) 0 [some (.ref 0), some (.int x2)] []) (fun h3 => MetPM m_X4_forget [.ref 13] h3 (rV (hnd Q (At m_X11_readText Q) 0 [some (.ref 0), some (.int x2)] []) (fun h4 => Q (.inl (some (.int (gi h4 26 1)))) h4))))) ∧ (x2 = 0 → (0 + 1 ≤ m_X11_readText.cap ∧ Q (.inr 1) (si h1 1 1 (nI 0)))))))) :
    MetPM m_X11_readText [.ref 0] h Q := by
  exact met_of o_X11_readText (Nat.le_of_ble_eq_true rfl) (fun q => absurd rfl q) (vg_ok k_X11_readText (stops := []) 78 0 0 _ [] h T)
set_option maxRecDepth 100000 in
set_option maxHeartbeats 4000000 in
theorem t_L_readText {h : PH} {Q : Res → PH → Prop} (hQ : ∀ x h, ¬ Q (.inr x) h)
    (T : (1 ≤ m_L_readText.cap ∧ MetPM m_X11_readText [.ref 0] h (rI (hnd Q (At m_L_readText Q) 1 [some (.ref 0), some (.ref 147), none] [0, 0, 12, 2, 0, 0]) (fun x2 h1 => (vp_in (nI 0) 1 ∧ Q (.inl (some (.int (nI 0)))) (sl h1 147 (nI 0).toNatClampNeg (x2.toInt64))))))) :
    MetPM m_L_readText [.ref 0, .ref 147] h Q := by
  exact met_of o_L_readText (Nat.le_of_ble_eq_true rfl) (fun _ => hQ) (vg_ok k_L_readText (stops := []) 62 0 0 _ [] h T)
set_option maxRecDepth 100000 in
set_option maxHeartbeats 4000000 in
theorem u_L_readText_12 {h : PH} {Q : Res → PH → Prop}
    (T : Q (.inl (some (.int (nI 1)))) h) :
    At m_L_readText Q 12 1 [some (.ref 0), some (.ref 147), none] [] h := by
  exact vg_ok k_L_readText (stops := []) 62 12 1 _ _ h T
set_option maxRecDepth 100000 in
set_option maxHeartbeats 4000000 in
theorem t_X11_runScript {h : PH} {Q : Res → PH → Prop}
    (T : MetPM m_X7_readAll [.ref 5, .ref 1, .ref 15] h (rI (hnd Q (At m_X11_runScript Q) 0 [some (.ref 0), none, none, none] []) (fun x2 h1 => ((¬ x2 = 0 → MetPM m_X4_keep [.ref 13, .ref 60] (si h1 1 1 (nI 0)) (rV (hnd Q (At m_X11_runScript Q) 0 [some (.ref 0), some (.int x2), none, none] []) (fun h3 => At m_X11_runScript Q 52 0 [some (.ref 0), some (.int x2), some (.int (nI 0)), none] [] h3))) ∧ (x2 = 0 → (0 + 1 ≤ m_X11_runScript.cap ∧ Q (.inr 1) (si h1 1 1 (nI 0)))))))) :
    MetPM m_X11_runScript [.ref 0] h Q := by
  exact met_of o_X11_runScript (Nat.le_of_ble_eq_true rfl) (fun q => absurd rfl q) (vg_ok k_X11_runScript (stops := [52]) 99 0 0 _ [] h T)
set_option maxRecDepth 100000 in
set_option maxHeartbeats 4000000 in
theorem u_X11_runScript_52 {v1 : Int32} {v2 : Int32} {o3 : Option Value} {h : PH} {Q : Res → PH → Prop}
    (T : (((nI 40) ≤ v2 → Q (.inl (some (.int v2))) h) ∧ (¬ (nI 40) ≤ v2 → MetPM m_X7_next [.ref 5] h (rI (hnd Q (At m_X11_runScript Q) 0 [some (.ref 0), some (.int v1), some (.int v2), o3] []) (fun x2 h1 => ((x2 = (-(nI 1)) → Q (.inl (some (.int v2))) h1) ∧ (¬ x2 = (-(nI 1)) → MetPM m_X8_obey [.ref 60, .ref 5, .int x2] h1 (rI (hnd Q (At m_X11_runScript Q) 0 [some (.ref 0), some (.int v1), some (.int v2), some (.int x2)] []) (fun x4 h3 => ((¬ x4 = 0 → At m_X11_runScript Q 52 0 [some (.ref 0), some (.int v1), some (.int (v2 + (nI 1))), some (.int x2)] [] h3) ∧ (x4 = 0 → Q (.inl (some (.int v2))) h3))))))))))) :
    At m_X11_runScript Q 52 0 [some (.ref 0), some (.int v1), some (.int v2), o3] [] h := by
  exact vg_ok k_X11_runScript (stops := [52]) 99 52 0 _ _ h T
set_option maxRecDepth 100000 in
set_option maxHeartbeats 4000000 in
theorem t_L_runScript {h : PH} {Q : Res → PH → Prop} (hQ : ∀ x h, ¬ Q (.inr x) h)
    (T : (1 ≤ m_L_runScript.cap ∧ MetPM m_X11_runScript [.ref 0] h (rI (hnd Q (At m_L_runScript Q) 1 [some (.ref 0), some (.ref 147), none] [0, 0, 12, 2, 0, 0]) (fun x2 h1 => (vp_in (nI 0) 1 ∧ Q (.inl (some (.int (nI 0)))) (sl h1 147 (nI 0).toNatClampNeg (x2.toInt64))))))) :
    MetPM m_L_runScript [.ref 0, .ref 147] h Q := by
  exact met_of o_L_runScript (Nat.le_of_ble_eq_true rfl) (fun _ => hQ) (vg_ok k_L_runScript (stops := []) 62 0 0 _ [] h T)
set_option maxRecDepth 100000 in
set_option maxHeartbeats 4000000 in
theorem u_L_runScript_12 {h : PH} {Q : Res → PH → Prop}
    (T : Q (.inl (some (.int (nI 1)))) h) :
    At m_L_runScript Q 12 1 [some (.ref 0), some (.ref 147), none] [] h := by
  exact vg_ok k_L_runScript (stops := []) 62 12 1 _ _ h T
set_option maxRecDepth 100000 in
set_option maxHeartbeats 4000000 in
theorem t_X11_errorCode {h : PH} {Q : Res → PH → Prop}
    (T : Q (.inl (some (.int (gi h 1 2)))) h) :
    MetPM m_X11_errorCode [.ref 0] h Q := by
  exact met_of o_X11_errorCode (Nat.le_of_ble_eq_true rfl) (fun q => absurd rfl q) (vg_ok k_X11_errorCode (stops := []) 54 0 0 _ [] h T)
set_option maxRecDepth 100000 in
set_option maxHeartbeats 4000000 in
theorem t_X11_errorPosition {h : PH} {Q : Res → PH → Prop}
    (T : Q (.inl (some (.int (gi h 1 3)))) h) :
    MetPM m_X11_errorPosition [.ref 0] h Q := by
  exact met_of o_X11_errorPosition (Nat.le_of_ble_eq_true rfl) (fun q => absurd rfl q) (vg_ok k_X11_errorPosition (stops := []) 54 0 0 _ [] h T)
set_option maxRecDepth 100000 in
set_option maxHeartbeats 4000000 in
theorem t_X11_setting {p0 : Int32} {h : PH} {Q : Res → PH → Prop}
    (T : ((p0 < 0 → (0 + 1 ≤ m_X11_setting.cap ∧ Q (.inr 1) h)) ∧ (¬ p0 < 0 → ((p0 ≤ (nI 11) → ((¬ p0 = (nI 5) → ((¬ p0 = (nI 11) → MetPM m_X5_numberOf [.ref 15, .int p0] h (rI (hnd Q (At m_X11_setting Q) 0 [some (.ref 0), some (.int p0)] []) (fun x2 h1 => Q (.inl (some (.int x2))) h1))) ∧ (p0 = (nI 11) → Q (.inl (some (.int (gi h 60 1)))) h))) ∧ (p0 = (nI 5) → Q (.inl (some (.int (gi h 60 2)))) h))) ∧ (¬ p0 ≤ (nI 11) → (0 + 1 ≤ m_X11_setting.cap ∧ Q (.inr 1) h)))))) :
    MetPM m_X11_setting [.ref 0, .int p0] h Q := by
  exact met_of o_X11_setting (Nat.le_of_ble_eq_true rfl) (fun q => absurd rfl q) (vg_ok k_X11_setting (stops := []) 79 0 0 _ [] h T)
set_option maxRecDepth 100000 in
set_option maxHeartbeats 4000000 in
theorem t_L_setting {p1 : Int32} {h : PH} {Q : Res → PH → Prop} (hQ : ∀ x h, ¬ Q (.inr x) h)
    (T : (1 ≤ m_L_setting.cap ∧ MetPM m_X11_setting [.ref 0, .int p1] h (rI (hnd Q (At m_L_setting Q) 1 [some (.ref 0), some (.int p1), some (.ref 147), none] [0, 0, 13, 3, 0, 0]) (fun x2 h1 => (vp_in (nI 0) 1 ∧ Q (.inl (some (.int (nI 0)))) (sl h1 147 (nI 0).toNatClampNeg (x2.toInt64))))))) :
    MetPM m_L_setting [.ref 0, .int p1, .ref 147] h Q := by
  exact met_of o_L_setting (Nat.le_of_ble_eq_true rfl) (fun _ => hQ) (vg_ok k_L_setting (stops := []) 63 0 0 _ [] h T)
set_option maxRecDepth 100000 in
set_option maxHeartbeats 4000000 in
theorem u_L_setting_13 {v1 : Int32} {h : PH} {Q : Res → PH → Prop}
    (T : Q (.inl (some (.int (nI 1)))) h) :
    At m_L_setting Q 13 1 [some (.ref 0), some (.int v1), some (.ref 147), none] [] h := by
  exact vg_ok k_L_setting (stops := []) 63 13 1 _ _ h T
set_option maxRecDepth 100000 in
set_option maxHeartbeats 4000000 in
theorem t_X11_needVersion {p0 : Int32} {h : PH} {Q : Res → PH → Prop}
    (T : ((p0 < 0 → (0 + 1 ≤ m_X11_needVersion.cap ∧ Q (.inr 2) h)) ∧ (¬ p0 < 0 → ((p0 < (gi h 16 1) → Q (.inl none) h) ∧ (¬ p0 < (gi h 16 1) → (0 + 1 ≤ m_X11_needVersion.cap ∧ Q (.inr 2) h)))))) :
    MetPM m_X11_needVersion [.ref 0, .int p0] h Q := by
  exact met_of o_X11_needVersion (Nat.le_of_ble_eq_true rfl) (fun q => absurd rfl q) (vg_ok k_X11_needVersion (stops := []) 64 0 0 _ [] h T)
set_option maxRecDepth 100000 in
set_option maxHeartbeats 4000000 in
theorem t_X11_mayTalk {p0 : Int32} {p1 : Int32} {h : PH} {Q : Res → PH → Prop}
    (T : (1 ≤ m_X11_mayTalk.cap ∧ MetPM m_X11_needVersion [.ref 0, .int p0] h (rV (hnd Q (At m_X11_mayTalk Q) 1 [some (.ref 0), some (.int p0), some (.int p1)] []) (fun h1 => (2 ≤ m_X11_mayTalk.cap ∧ MetPM m_X11_needVersion [.ref 0, .int p1] h1 (rV (hnd Q (At m_X11_mayTalk Q) 2 [some (.ref 0), some (.int p0), some (.int p1)] []) (fun h2 => MetPM m_X5_talkersOf [.ref 15, .int p0] h2 (rI (hnd Q (At m_X11_mayTalk Q) 2 [some (.ref 0), some (.int p0), some (.int p1)] []) (fun x4 h3 => MetPM m_X11_isIn [.int x4, .int p1] h3 (rI (hnd Q (At m_X11_mayTalk Q) 2 [some (.ref 0), some (.int p0), some (.int p1)] []) (fun x6 h5 => (isB x6 ∧ Q (.inl (some (.int x6))) h5)))))))))))) :
    MetPM m_X11_mayTalk [.ref 0, .int p0, .int p1] h Q := by
  exact met_of o_X11_mayTalk (Nat.le_of_ble_eq_true rfl) (fun q => absurd rfl q) (vg_ok k_X11_mayTalk (stops := []) 64 0 0 _ [] h T)
set_option maxRecDepth 100000 in
set_option maxHeartbeats 4000000 in
theorem t_L_mayTalk {p1 : Int32} {p2 : Int32} {h : PH} {Q : Res → PH → Prop} (hQ : ∀ x h, ¬ Q (.inr x) h)
    (T : (2 ≤ m_L_mayTalk.cap ∧ MetPM m_X11_mayTalk [.ref 0, .int p1, .int p2] h (rI (hnd Q (At m_L_mayTalk Q) 2 [some (.ref 0), some (.int p1), some (.int p2), some (.ref 147), none] [0, 0, 0, 0, 22, 4]) (fun x2 h1 => ((x2 = 0 → (vp_in (nI 0) 1 ∧ Q (.inl (some (.int (nI 0)))) (sl h1 147 (nI 0).toNatClampNeg (lN 0)))) ∧ (¬ x2 = 0 → (vp_in (nI 0) 1 ∧ Q (.inl (some (.int (nI 0)))) (sl h1 147 (nI 0).toNatClampNeg (lN 1))))))))) :
    MetPM m_L_mayTalk [.ref 0, .int p1, .int p2, .ref 147] h Q := by
  exact met_of o_L_mayTalk (Nat.le_of_ble_eq_true rfl) (fun _ => hQ) (vg_ok k_L_mayTalk (stops := []) 67 0 0 _ [] h T)
set_option maxRecDepth 100000 in
set_option maxHeartbeats 4000000 in
theorem u_L_mayTalk_22 {v1 : Int32} {v2 : Int32} {h : PH} {Q : Res → PH → Prop}
    (T : Q (.inl (some (.int (nI 1)))) h) :
    At m_L_mayTalk Q 22 2 [some (.ref 0), some (.int v1), some (.int v2), some (.ref 147), none] [] h := by
  exact vg_ok k_L_mayTalk (stops := []) 67 22 2 _ _ h T
set_option maxRecDepth 100000 in
set_option maxHeartbeats 4000000 in
theorem t_X11_readers {p0 : Int32} {h : PH} {Q : Res → PH → Prop}
    (T : (1 ≤ m_X11_readers.cap ∧ MetPM m_X11_needFormat [.int p0] h (rV (hnd Q (At m_X11_readers Q) 1 [some (.ref 0), some (.int p0)] []) (fun h1 => MetPM m_X5_readersOf [.ref 15, .int p0] h1 (rI (hnd Q (At m_X11_readers Q) 1 [some (.ref 0), some (.int p0)] []) (fun x3 h2 => Q (.inl (some (.int x3))) h2)))))) :
    MetPM m_X11_readers [.ref 0, .int p0] h Q := by
  exact met_of o_X11_readers (Nat.le_of_ble_eq_true rfl) (fun q => absurd rfl q) (vg_ok k_X11_readers (stops := []) 58 0 0 _ [] h T)
set_option maxRecDepth 100000 in
set_option maxHeartbeats 4000000 in
theorem t_L_readers {p1 : Int32} {h : PH} {Q : Res → PH → Prop} (hQ : ∀ x h, ¬ Q (.inr x) h)
    (T : (1 ≤ m_L_readers.cap ∧ MetPM m_X11_readers [.ref 0, .int p1] h (rI (hnd Q (At m_L_readers Q) 1 [some (.ref 0), some (.int p1), some (.ref 147), none] [0, 0, 13, 3, 0, 0]) (fun x2 h1 => (vp_in (nI 0) 1 ∧ Q (.inl (some (.int (nI 0)))) (sl h1 147 (nI 0).toNatClampNeg (x2.toInt64))))))) :
    MetPM m_L_readers [.ref 0, .int p1, .ref 147] h Q := by
  exact met_of o_L_readers (Nat.le_of_ble_eq_true rfl) (fun _ => hQ) (vg_ok k_L_readers (stops := []) 63 0 0 _ [] h T)
set_option maxRecDepth 100000 in
set_option maxHeartbeats 4000000 in
theorem u_L_readers_13 {v1 : Int32} {h : PH} {Q : Res → PH → Prop}
    (T : Q (.inl (some (.int (nI 1)))) h) :
    At m_L_readers Q 13 1 [some (.ref 0), some (.int v1), some (.ref 147), none] [] h := by
  exact vg_ok k_L_readers (stops := []) 63 13 1 _ _ h T
set_option maxRecDepth 100000 in
set_option maxHeartbeats 4000000 in
theorem t_X11_talkers {p0 : Int32} {h : PH} {Q : Res → PH → Prop}
    (T : (1 ≤ m_X11_talkers.cap ∧ MetPM m_X11_needVersion [.ref 0, .int p0] h (rV (hnd Q (At m_X11_talkers Q) 1 [some (.ref 0), some (.int p0)] []) (fun h1 => MetPM m_X5_talkersOf [.ref 15, .int p0] h1 (rI (hnd Q (At m_X11_talkers Q) 1 [some (.ref 0), some (.int p0)] []) (fun x3 h2 => Q (.inl (some (.int x3))) h2)))))) :
    MetPM m_X11_talkers [.ref 0, .int p0] h Q := by
  exact met_of o_X11_talkers (Nat.le_of_ble_eq_true rfl) (fun q => absurd rfl q) (vg_ok k_X11_talkers (stops := []) 59 0 0 _ [] h T)
set_option maxRecDepth 100000 in
set_option maxHeartbeats 4000000 in
theorem t_L_talkers {p1 : Int32} {h : PH} {Q : Res → PH → Prop} (hQ : ∀ x h, ¬ Q (.inr x) h)
    (T : (1 ≤ m_L_talkers.cap ∧ MetPM m_X11_talkers [.ref 0, .int p1] h (rI (hnd Q (At m_L_talkers Q) 1 [some (.ref 0), some (.int p1), some (.ref 147), none] [0, 0, 0, 0, 13, 3]) (fun x2 h1 => (vp_in (nI 0) 1 ∧ Q (.inl (some (.int (nI 0)))) (sl h1 147 (nI 0).toNatClampNeg (x2.toInt64))))))) :
    MetPM m_L_talkers [.ref 0, .int p1, .ref 147] h Q := by
  exact met_of o_L_talkers (Nat.le_of_ble_eq_true rfl) (fun _ => hQ) (vg_ok k_L_talkers (stops := []) 63 0 0 _ [] h T)
set_option maxRecDepth 100000 in
set_option maxHeartbeats 4000000 in
theorem u_L_talkers_13 {v1 : Int32} {h : PH} {Q : Res → PH → Prop}
    (T : Q (.inl (some (.int (nI 1)))) h) :
    At m_L_talkers Q 13 1 [some (.ref 0), some (.int v1), some (.ref 147), none] [] h := by
  exact vg_ok k_L_talkers (stops := []) 63 13 1 _ _ h T
set_option maxRecDepth 100000 in
set_option maxHeartbeats 4000000 in
theorem t_X11_wayOf {p0 : Int32} {p1 : Int32} {h : PH} {Q : Res → PH → Prop}
    (T : (1 ≤ m_X11_wayOf.cap ∧ MetPM m_X11_needVersion [.ref 0, .int p0] h (rV (hnd Q (At m_X11_wayOf Q) 1 [some (.ref 0), some (.int p0), some (.int p1)] []) (fun h1 => (2 ≤ m_X11_wayOf.cap ∧ MetPM m_X11_needVersion [.ref 0, .int p1] h1 (rV (hnd Q (At m_X11_wayOf Q) 2 [some (.ref 0), some (.int p0), some (.int p1)] []) (fun h2 => MetPM m_X8_changesOnWay [.ref 60, .int p0, .int p1] h2 (rI (hnd Q (At m_X11_wayOf Q) 2 [some (.ref 0), some (.int p0), some (.int p1)] []) (fun x4 h3 => Q (.inl (some (.int x4))) h3))))))))) :
    MetPM m_X11_wayOf [.ref 0, .int p0, .int p1] h Q := by
  exact met_of o_X11_wayOf (Nat.le_of_ble_eq_true rfl) (fun q => absurd rfl q) (vg_ok k_X11_wayOf (stops := []) 62 0 0 _ [] h T)
set_option maxRecDepth 100000 in
set_option maxHeartbeats 4000000 in
theorem t_L_wayOf {p1 : Int32} {p2 : Int32} {h : PH} {Q : Res → PH → Prop} (hQ : ∀ x h, ¬ Q (.inr x) h)
    (T : (2 ≤ m_L_wayOf.cap ∧ MetPM m_X11_wayOf [.ref 0, .int p1, .int p2] h (rI (hnd Q (At m_L_wayOf Q) 2 [some (.ref 0), some (.int p1), some (.int p2), some (.ref 147), none] [0, 0, 0, 0, 15, 4]) (fun x2 h1 => (vp_in (nI 0) 1 ∧ Q (.inl (some (.int (nI 0)))) (sl h1 147 (nI 0).toNatClampNeg (x2.toInt64))))))) :
    MetPM m_L_wayOf [.ref 0, .int p1, .int p2, .ref 147] h Q := by
  exact met_of o_L_wayOf (Nat.le_of_ble_eq_true rfl) (fun _ => hQ) (vg_ok k_L_wayOf (stops := []) 64 0 0 _ [] h T)
set_option maxRecDepth 100000 in
set_option maxHeartbeats 4000000 in
theorem u_L_wayOf_15 {v1 : Int32} {v2 : Int32} {h : PH} {Q : Res → PH → Prop}
    (T : Q (.inl (some (.int (nI 1)))) h) :
    At m_L_wayOf Q 15 2 [some (.ref 0), some (.int v1), some (.int v2), some (.ref 147), none] [] h := by
  exact vg_ok k_L_wayOf (stops := []) 64 15 2 _ _ h T
set_option maxRecDepth 100000 in
set_option maxHeartbeats 4000000 in
theorem t_X11_nextOnWay {p0 : Int32} {p1 : Int32} {h : PH} {Q : Res → PH → Prop}
    (T : (1 ≤ m_X11_nextOnWay.cap ∧ MetPM m_X11_needVersion [.ref 0, .int p0] h (rV (hnd Q (At m_X11_nextOnWay Q) 1 [some (.ref 0), some (.int p0), some (.int p1)] []) (fun h1 => (2 ≤ m_X11_nextOnWay.cap ∧ MetPM m_X11_needVersion [.ref 0, .int p1] h1 (rV (hnd Q (At m_X11_nextOnWay Q) 2 [some (.ref 0), some (.int p0), some (.int p1)] []) (fun h2 => MetPM m_X8_firstOnWay [.ref 60, .int p0, .int p1] h2 (rI (hnd Q (At m_X11_nextOnWay Q) 2 [some (.ref 0), some (.int p0), some (.int p1)] []) (fun x4 h3 => Q (.inl (some (.int x4))) h3))))))))) :
    MetPM m_X11_nextOnWay [.ref 0, .int p0, .int p1] h Q := by
  exact met_of o_X11_nextOnWay (Nat.le_of_ble_eq_true rfl) (fun q => absurd rfl q) (vg_ok k_X11_nextOnWay (stops := []) 62 0 0 _ [] h T)
set_option maxRecDepth 100000 in
set_option maxHeartbeats 4000000 in
theorem t_L_nextOnWay {p1 : Int32} {p2 : Int32} {h : PH} {Q : Res → PH → Prop} (hQ : ∀ x h, ¬ Q (.inr x) h)
    (T : (2 ≤ m_L_nextOnWay.cap ∧ MetPM m_X11_nextOnWay [.ref 0, .int p1, .int p2] h (rI (hnd Q (At m_L_nextOnWay Q) 2 [some (.ref 0), some (.int p1), some (.int p2), some (.ref 147), none] [0, 0, 0, 0, 15, 4]) (fun x2 h1 => (vp_in (nI 0) 1 ∧ Q (.inl (some (.int (nI 0)))) (sl h1 147 (nI 0).toNatClampNeg (x2.toInt64))))))) :
    MetPM m_L_nextOnWay [.ref 0, .int p1, .int p2, .ref 147] h Q := by
  exact met_of o_L_nextOnWay (Nat.le_of_ble_eq_true rfl) (fun _ => hQ) (vg_ok k_L_nextOnWay (stops := []) 64 0 0 _ [] h T)
set_option maxRecDepth 100000 in
set_option maxHeartbeats 4000000 in
theorem u_L_nextOnWay_15 {v1 : Int32} {v2 : Int32} {h : PH} {Q : Res → PH → Prop}
    (T : Q (.inl (some (.int (nI 1)))) h) :
    At m_L_nextOnWay Q 15 2 [some (.ref 0), some (.int v1), some (.int v2), some (.ref 147), none] [] h := by
  exact vg_ok k_L_nextOnWay (stops := []) 64 15 2 _ _ h T
set_option maxRecDepth 100000 in
set_option maxHeartbeats 4000000 in
theorem t_X11_needMember {p0 : Int32} {h : PH} {Q : Res → PH → Prop}
    (T : ((p0 < 0 → (0 + 1 ≤ m_X11_needMember.cap ∧ Q (.inr 2) h)) ∧ (¬ p0 < 0 → ((p0 < (gi h 26 1) → Q (.inl none) h) ∧ (¬ p0 < (gi h 26 1) → (0 + 1 ≤ m_X11_needMember.cap ∧ Q (.inr 2) h)))))) :
    MetPM m_X11_needMember [.ref 0, .int p0] h Q := by
  exact met_of o_X11_needMember (Nat.le_of_ble_eq_true rfl) (fun q => absurd rfl q) (vg_ok k_X11_needMember (stops := []) 64 0 0 _ [] h T)
set_option maxRecDepth 100000 in
set_option maxHeartbeats 4000000 in
theorem t_X11_member {p0 : Int32} {p1 : Int32} {h : PH} {Q : Res → PH → Prop}
    (T : (1 ≤ m_X11_member.cap ∧ MetPM m_X11_needMember [.ref 0, .int p0] h (rV (hnd Q (At m_X11_member Q) 1 [some (.ref 0), some (.int p0), some (.int p1)] []) (fun h1 => ((p1 < 0 → (1 + 1 ≤ m_X11_member.cap ∧ Q (.inr 1) h1)) ∧ (¬ p1 < 0 → ((p1 ≤ (nI 6) → MetPM m_X8_numberOfMember [.ref 60, .int p0, .int p1] h1 (rI (hnd Q (At m_X11_member Q) 1 [some (.ref 0), some (.int p0), some (.int p1)] []) (fun x3 h2 => Q (.inl (some (.int x3))) h2))) ∧ (¬ p1 ≤ (nI 6) → (1 + 1 ≤ m_X11_member.cap ∧ Q (.inr 1) h1))))))))) :
    MetPM m_X11_member [.ref 0, .int p0, .int p1] h Q := by
  exact met_of o_X11_member (Nat.le_of_ble_eq_true rfl) (fun q => absurd rfl q) (vg_ok k_X11_member (stops := []) 68 0 0 _ [] h T)
set_option maxRecDepth 100000 in
set_option maxHeartbeats 4000000 in
theorem t_L_member {p1 : Int32} {p2 : Int32} {h : PH} {Q : Res → PH → Prop} (hQ : ∀ x h, ¬ Q (.inr x) h)
    (T : (2 ≤ m_L_member.cap ∧ MetPM m_X11_member [.ref 0, .int p1, .int p2] h (rI (hnd Q (At m_L_member Q) 2 [some (.ref 0), some (.int p1), some (.int p2), some (.ref 147), none] [0, 0, 19, 4, 15, 4]) (fun x2 h1 => (vp_in (nI 0) 1 ∧ Q (.inl (some (.int (nI 0)))) (sl h1 147 (nI 0).toNatClampNeg (x2.toInt64))))))) :
    MetPM m_L_member [.ref 0, .int p1, .int p2, .ref 147] h Q := by
  exact met_of o_L_member (Nat.le_of_ble_eq_true rfl) (fun _ => hQ) (vg_ok k_L_member (stops := []) 67 0 0 _ [] h T)
set_option maxRecDepth 100000 in
set_option maxHeartbeats 4000000 in
theorem u_L_member_15 {v1 : Int32} {v2 : Int32} {h : PH} {Q : Res → PH → Prop}
    (T : Q (.inl (some (.int (nI 1)))) h) :
    At m_L_member Q 15 2 [some (.ref 0), some (.int v1), some (.int v2), some (.ref 147), none] [] h := by
  exact vg_ok k_L_member (stops := []) 67 15 2 _ _ h T
set_option maxRecDepth 100000 in
set_option maxHeartbeats 4000000 in
theorem u_L_member_19 {v1 : Int32} {v2 : Int32} {h : PH} {Q : Res → PH → Prop}
    (T : Q (.inl (some (.int (nI 2)))) h) :
    At m_L_member Q 19 2 [some (.ref 0), some (.int v1), some (.int v2), some (.ref 147), none] [] h := by
  exact vg_ok k_L_member (stops := []) 67 19 2 _ _ h T
set_option maxRecDepth 100000 in
set_option maxHeartbeats 4000000 in
theorem t_X11_partners {p0 : Int32} {h : PH} {Q : Res → PH → Prop}
    (T : (1 ≤ m_X11_partners.cap ∧ MetPM m_X11_needMember [.ref 0, .int p0] h (rV (hnd Q (At m_X11_partners Q) 1 [some (.ref 0), some (.int p0)] []) (fun h1 => (vp_in p0 12 ∧ Q (.inl (some (.int (gi h1 29 p0.toNatClampNeg)))) h1))))) :
    MetPM m_X11_partners [.ref 0, .int p0] h Q := by
  exact met_of o_X11_partners (Nat.le_of_ble_eq_true rfl) (fun q => absurd rfl q) (vg_ok k_X11_partners (stops := []) 60 0 0 _ [] h T)
set_option maxRecDepth 100000 in
set_option maxHeartbeats 4000000 in
theorem t_L_partners {p1 : Int32} {h : PH} {Q : Res → PH → Prop} (hQ : ∀ x h, ¬ Q (.inr x) h)
    (T : (1 ≤ m_L_partners.cap ∧ MetPM m_X11_partners [.ref 0, .int p1] h (rI (hnd Q (At m_L_partners Q) 1 [some (.ref 0), some (.int p1), some (.ref 147), none] [0, 0, 0, 0, 13, 3]) (fun x2 h1 => (vp_in (nI 0) 1 ∧ Q (.inl (some (.int (nI 0)))) (sl h1 147 (nI 0).toNatClampNeg (x2.toInt64))))))) :
    MetPM m_L_partners [.ref 0, .int p1, .ref 147] h Q := by
  exact met_of o_L_partners (Nat.le_of_ble_eq_true rfl) (fun _ => hQ) (vg_ok k_L_partners (stops := []) 63 0 0 _ [] h T)
set_option maxRecDepth 100000 in
set_option maxHeartbeats 4000000 in
theorem u_L_partners_13 {v1 : Int32} {h : PH} {Q : Res → PH → Prop}
    (T : Q (.inl (some (.int (nI 1)))) h) :
    At m_L_partners Q 13 1 [some (.ref 0), some (.int v1), some (.ref 147), none] [] h := by
  exact vg_ok k_L_partners (stops := []) 63 13 1 _ _ h T
set_option maxRecDepth 100000 in
set_option maxHeartbeats 4000000 in
theorem t_X11_with {p0 : Int32} {h : PH} {Q : Res → PH → Prop}
    (T : (1 ≤ m_X11_with.cap ∧ MetPM m_X11_needVersion [.ref 0, .int p0] h (rV (hnd Q (At m_X11_with Q) 1 [some (.ref 0), some (.int p0)] []) (fun h1 => MetPM m_X8_upWith [.ref 60, .int p0] h1 (rI (hnd Q (At m_X11_with Q) 1 [some (.ref 0), some (.int p0)] []) (fun x3 h2 => Q (.inl (some (.int x3))) h2)))))) :
    MetPM m_X11_with [.ref 0, .int p0] h Q := by
  exact met_of o_X11_with (Nat.le_of_ble_eq_true rfl) (fun q => absurd rfl q) (vg_ok k_X11_with (stops := []) 58 0 0 _ [] h T)
set_option maxRecDepth 100000 in
set_option maxHeartbeats 4000000 in
theorem t_L_with {p1 : Int32} {h : PH} {Q : Res → PH → Prop} (hQ : ∀ x h, ¬ Q (.inr x) h)
    (T : (1 ≤ m_L_with.cap ∧ MetPM m_X11_with [.ref 0, .int p1] h (rI (hnd Q (At m_L_with Q) 1 [some (.ref 0), some (.int p1), some (.ref 147), none] [0, 0, 0, 0, 13, 3]) (fun x2 h1 => (vp_in (nI 0) 1 ∧ Q (.inl (some (.int (nI 0)))) (sl h1 147 (nI 0).toNatClampNeg (x2.toInt64))))))) :
    MetPM m_L_with [.ref 0, .int p1, .ref 147] h Q := by
  exact met_of o_L_with (Nat.le_of_ble_eq_true rfl) (fun _ => hQ) (vg_ok k_L_with (stops := []) 63 0 0 _ [] h T)
set_option maxRecDepth 100000 in
set_option maxHeartbeats 4000000 in
theorem u_L_with_13 {v1 : Int32} {h : PH} {Q : Res → PH → Prop}
    (T : Q (.inl (some (.int (nI 1)))) h) :
    At m_L_with Q 13 1 [some (.ref 0), some (.int v1), some (.ref 147), none] [] h := by
  exact vg_ok k_L_with (stops := []) 63 13 1 _ _ h T
set_option maxRecDepth 100000 in
set_option maxHeartbeats 4000000 in
theorem t_X11_down {p0 : Int32} {h : PH} {Q : Res → PH → Prop}
    (T : ((p0 < 0 → (0 + 1 ≤ m_X11_down.cap ∧ Q (.inr 2) h)) ∧ (¬ p0 < 0 → ((p0 < (gi h 21 1) → (vp_in p0 5 ∧ Q (.inl (some (.int ((gi h 24 p0.toNatClampNeg) &&& (gi h 60 7))))) h)) ∧ (¬ p0 < (gi h 21 1) → (0 + 1 ≤ m_X11_down.cap ∧ Q (.inr 2) h)))))) :
    MetPM m_X11_down [.ref 0, .int p0] h Q := by
  exact met_of o_X11_down (Nat.le_of_ble_eq_true rfl) (fun q => absurd rfl q) (vg_ok k_X11_down (stops := []) 74 0 0 _ [] h T)
set_option maxRecDepth 100000 in
set_option maxHeartbeats 4000000 in
theorem t_L_down {p1 : Int32} {h : PH} {Q : Res → PH → Prop} (hQ : ∀ x h, ¬ Q (.inr x) h)
    (T : (1 ≤ m_L_down.cap ∧ MetPM m_X11_down [.ref 0, .int p1] h (rI (hnd Q (At m_L_down Q) 1 [some (.ref 0), some (.int p1), some (.ref 147), none] [0, 0, 0, 0, 13, 3]) (fun x2 h1 => (vp_in (nI 0) 1 ∧ Q (.inl (some (.int (nI 0)))) (sl h1 147 (nI 0).toNatClampNeg (x2.toInt64))))))) :
    MetPM m_L_down [.ref 0, .int p1, .ref 147] h Q := by
  exact met_of o_L_down (Nat.le_of_ble_eq_true rfl) (fun _ => hQ) (vg_ok k_L_down (stops := []) 63 0 0 _ [] h T)
set_option maxRecDepth 100000 in
set_option maxHeartbeats 4000000 in
theorem u_L_down_13 {v1 : Int32} {h : PH} {Q : Res → PH → Prop}
    (T : Q (.inl (some (.int (nI 1)))) h) :
    At m_L_down Q 13 1 [some (.ref 0), some (.int v1), some (.ref 147), none] [] h := by
  exact vg_ok k_L_down (stops := []) 63 13 1 _ _ h T
set_option maxRecDepth 100000 in
set_option maxHeartbeats 4000000 in
theorem t_X11_skewNow {h : PH} {Q : Res → PH → Prop}
    (T : MetPM m_X5_everyMember [.ref 15] h (rI (hnd Q (At m_X11_skewNow Q) 0 [some (.ref 0), none] []) (fun x2 h1 => ((¬ x2 = 0 → MetPM m_X8_highestComing [.ref 60, .int x2] h1 (rI (hnd Q (At m_X11_skewNow Q) 0 [some (.ref 0), some (.int x2)] []) (fun x4 h3 => MetPM m_X8_lowestComing [.ref 60, .int x2] h3 (rI (hnd Q (At m_X11_skewNow Q) 0 [some (.ref 0), some (.int x2)] []) (fun x6 h5 => Q (.inl (some (.int (x4 - x6)))) h5))))) ∧ (x2 = 0 → Q (.inl (some (.int (nI 0)))) h1))))) :
    MetPM m_X11_skewNow [.ref 0] h Q := by
  exact met_of o_X11_skewNow (Nat.le_of_ble_eq_true rfl) (fun q => absurd rfl q) (vg_ok k_X11_skewNow (stops := []) 69 0 0 _ [] h T)
set_option maxRecDepth 100000 in
set_option maxHeartbeats 4000000 in
theorem t_X11_reason {p0 : Int32} {p1 : Int32} {h : PH} {Q : Res → PH → Prop}
    (T : (1 ≤ m_X11_reason.cap ∧ MetPM m_X11_needMember [.ref 0, .int p0] h (rV (hnd Q (At m_X11_reason Q) 1 [some (.ref 0), some (.int p0), some (.int p1)] []) (fun h1 => (2 ≤ m_X11_reason.cap ∧ MetPM m_X11_needVersion [.ref 0, .int p1] h1 (rV (hnd Q (At m_X11_reason Q) 2 [some (.ref 0), some (.int p0), some (.int p1)] []) (fun h2 => MetPM m_X8_whyNotBegin [.ref 60, .int p0, .int p1] h2 (rI (hnd Q (At m_X11_reason Q) 2 [some (.ref 0), some (.int p0), some (.int p1)] []) (fun x4 h3 => Q (.inl (some (.int x4))) h3))))))))) :
    MetPM m_X11_reason [.ref 0, .int p0, .int p1] h Q := by
  exact met_of o_X11_reason (Nat.le_of_ble_eq_true rfl) (fun q => absurd rfl q) (vg_ok k_X11_reason (stops := []) 62 0 0 _ [] h T)
set_option maxRecDepth 100000 in
set_option maxHeartbeats 4000000 in
theorem t_L_reason {p1 : Int32} {p2 : Int32} {h : PH} {Q : Res → PH → Prop} (hQ : ∀ x h, ¬ Q (.inr x) h)
    (T : (2 ≤ m_L_reason.cap ∧ MetPM m_X11_reason [.ref 0, .int p1, .int p2] h (rI (hnd Q (At m_L_reason Q) 2 [some (.ref 0), some (.int p1), some (.int p2), some (.ref 147), none] [0, 0, 0, 0, 15, 4]) (fun x2 h1 => (vp_in (nI 0) 1 ∧ Q (.inl (some (.int (nI 0)))) (sl h1 147 (nI 0).toNatClampNeg (x2.toInt64))))))) :
    MetPM m_L_reason [.ref 0, .int p1, .int p2, .ref 147] h Q := by
  exact met_of o_L_reason (Nat.le_of_ble_eq_true rfl) (fun _ => hQ) (vg_ok k_L_reason (stops := []) 64 0 0 _ [] h T)
set_option maxRecDepth 100000 in
set_option maxHeartbeats 4000000 in
theorem u_L_reason_15 {v1 : Int32} {v2 : Int32} {h : PH} {Q : Res → PH → Prop}
    (T : Q (.inl (some (.int (nI 1)))) h) :
    At m_L_reason Q 15 2 [some (.ref 0), some (.int v1), some (.int v2), some (.ref 147), none] [] h := by
  exact vg_ok k_L_reason (stops := []) 64 15 2 _ _ h T
set_option maxRecDepth 100000 in
set_option maxHeartbeats 4000000 in
theorem t_X11_open {p0 : Int32} {h : PH} {Q : Res → PH → Prop}
    (T : (1 ≤ m_X11_open.cap ∧ MetPM m_X11_needMember [.ref 0, .int p0] h (rV (hnd Q (At m_X11_open Q) 1 [some (.ref 0), some (.int p0), none, none] []) (fun h1 => At m_X11_open Q 9 1 [some (.ref 0), some (.int p0), some (.int (nI 0)), some (.int (nI 0))] [] h1)))) :
    MetPM m_X11_open [.ref 0, .int p0] h Q := by
  exact met_of o_X11_open (Nat.le_of_ble_eq_true rfl) (fun q => absurd rfl q) (vg_ok k_X11_open (stops := [9]) 80 0 0 _ [] h T)
set_option maxRecDepth 100000 in
set_option maxHeartbeats 4000000 in
theorem u_X11_open_9 {v1 : Int32} {v2 : Int32} {v3 : Int32} {h : PH} {Q : Res → PH → Prop}
    (T : (((gi h 16 1) ≤ v3 → Q (.inl (some (.int v2))) h) ∧ (¬ (gi h 16 1) ≤ v3 → MetPM m_X8_whyNotBegin [.ref 60, .int v1, .int v3] h (rI (hnd Q (At m_X11_open Q) 1 [some (.ref 0), some (.int v1), some (.int v2), some (.int v3)] []) (fun x2 h1 => ((¬ x2 = 0 → At m_X11_open Q 9 1 [some (.ref 0), some (.int v1), some (.int v2), some (.int (v3 + (nI 1)))] [] h1) ∧ (x2 = 0 → At m_X11_open Q 9 1 [some (.ref 0), some (.int v1), some (.int (v2 ||| ((nI 1) <<< (v3 &&& 31)))), some (.int (v3 + (nI 1)))] [] h1))))))) :
    At m_X11_open Q 9 1 [some (.ref 0), some (.int v1), some (.int v2), some (.int v3)] [] h := by
  exact vg_ok k_X11_open (stops := [9]) 80 9 1 _ _ h T
set_option maxRecDepth 100000 in
set_option maxHeartbeats 4000000 in
theorem t_L_open {p1 : Int32} {h : PH} {Q : Res → PH → Prop} (hQ : ∀ x h, ¬ Q (.inr x) h)
    (T : (1 ≤ m_L_open.cap ∧ MetPM m_X11_open [.ref 0, .int p1] h (rI (hnd Q (At m_L_open Q) 1 [some (.ref 0), some (.int p1), some (.ref 147), none] [0, 0, 0, 0, 13, 3]) (fun x2 h1 => (vp_in (nI 0) 1 ∧ Q (.inl (some (.int (nI 0)))) (sl h1 147 (nI 0).toNatClampNeg (x2.toInt64))))))) :
    MetPM m_L_open [.ref 0, .int p1, .ref 147] h Q := by
  exact met_of o_L_open (Nat.le_of_ble_eq_true rfl) (fun _ => hQ) (vg_ok k_L_open (stops := []) 63 0 0 _ [] h T)
set_option maxRecDepth 100000 in
set_option maxHeartbeats 4000000 in
theorem u_L_open_13 {v1 : Int32} {h : PH} {Q : Res → PH → Prop}
    (T : Q (.inl (some (.int (nI 1)))) h) :
    At m_L_open Q 13 1 [some (.ref 0), some (.int v1), some (.ref 147), none] [] h := by
  exact vg_ok k_L_open (stops := []) 63 13 1 _ _ h T
set_option maxRecDepth 100000 in
set_option maxHeartbeats 4000000 in
theorem t_X11_against {p0 : Int32} {p1 : Int32} {h : PH} {Q : Res → PH → Prop}
    (T : (1 ≤ m_X11_against.cap ∧ MetPM m_X11_needMember [.ref 0, .int p0] h (rV (hnd Q (At m_X11_against Q) 1 [some (.ref 0), some (.int p0), some (.int p1)] []) (fun h1 => (2 ≤ m_X11_against.cap ∧ MetPM m_X11_needVersion [.ref 0, .int p1] h1 (rV (hnd Q (At m_X11_against Q) 2 [some (.ref 0), some (.int p0), some (.int p1)] []) (fun h2 => MetPM m_X8_opponents [.ref 60, .int p0, .int p1] h2 (rI (hnd Q (At m_X11_against Q) 2 [some (.ref 0), some (.int p0), some (.int p1)] []) (fun x4 h3 => Q (.inl (some (.int x4))) h3))))))))) :
    MetPM m_X11_against [.ref 0, .int p0, .int p1] h Q := by
  exact met_of o_X11_against (Nat.le_of_ble_eq_true rfl) (fun q => absurd rfl q) (vg_ok k_X11_against (stops := []) 62 0 0 _ [] h T)
set_option maxRecDepth 100000 in
set_option maxHeartbeats 4000000 in
theorem t_L_against {p1 : Int32} {p2 : Int32} {h : PH} {Q : Res → PH → Prop} (hQ : ∀ x h, ¬ Q (.inr x) h)
    (T : (2 ≤ m_L_against.cap ∧ MetPM m_X11_against [.ref 0, .int p1, .int p2] h (rI (hnd Q (At m_L_against Q) 2 [some (.ref 0), some (.int p1), some (.int p2), some (.ref 147), none] [0, 0, 0, 0, 15, 4]) (fun x2 h1 => (vp_in (nI 0) 1 ∧ Q (.inl (some (.int (nI 0)))) (sl h1 147 (nI 0).toNatClampNeg (x2.toInt64))))))) :
    MetPM m_L_against [.ref 0, .int p1, .int p2, .ref 147] h Q := by
  exact met_of o_L_against (Nat.le_of_ble_eq_true rfl) (fun _ => hQ) (vg_ok k_L_against (stops := []) 64 0 0 _ [] h T)
set_option maxRecDepth 100000 in
set_option maxHeartbeats 4000000 in
theorem u_L_against_15 {v1 : Int32} {v2 : Int32} {h : PH} {Q : Res → PH → Prop}
    (T : Q (.inl (some (.int (nI 1)))) h) :
    At m_L_against Q 15 2 [some (.ref 0), some (.int v1), some (.int v2), some (.ref 147), none] [] h := by
  exact vg_ok k_L_against (stops := []) 64 15 2 _ _ h T
set_option maxRecDepth 100000 in
set_option maxHeartbeats 4000000 in
theorem t_X11_mixed {h : PH} {Q : Res → PH → Prop}
    (T : MetPM m_X8_mixedPairs [.ref 60] h (rI (hnd Q (At m_X11_mixed Q) 0 [some (.ref 0)] []) (fun x2 h1 => Q (.inl (some (.int x2))) h1))) :
    MetPM m_X11_mixed [.ref 0] h Q := by
  exact met_of o_X11_mixed (Nat.le_of_ble_eq_true rfl) (fun q => absurd rfl q) (vg_ok k_X11_mixed (stops := []) 54 0 0 _ [] h T)
set_option maxRecDepth 100000 in
set_option maxHeartbeats 4000000 in
theorem t_X11_plan {p0 : Int32} {h : PH} {Q : Res → PH → Prop}
    (T : ((p0 < 0 → (0 + 1 ≤ m_X11_plan.cap ∧ Q (.inr 1) h)) ∧ (¬ p0 < 0 → ((p0 ≤ (nI 4) → MetPM m_X8_numberOfPlan [.ref 60, .int p0] h (rI (hnd Q (At m_X11_plan Q) 0 [some (.ref 0), some (.int p0)] []) (fun x2 h1 => Q (.inl (some (.int x2))) h1))) ∧ (¬ p0 ≤ (nI 4) → (0 + 1 ≤ m_X11_plan.cap ∧ Q (.inr 1) h)))))) :
    MetPM m_X11_plan [.ref 0, .int p0] h Q := by
  exact met_of o_X11_plan (Nat.le_of_ble_eq_true rfl) (fun q => absurd rfl q) (vg_ok k_X11_plan (stops := []) 64 0 0 _ [] h T)
set_option maxRecDepth 100000 in
set_option maxHeartbeats 4000000 in
theorem t_L_plan {p1 : Int32} {h : PH} {Q : Res → PH → Prop} (hQ : ∀ x h, ¬ Q (.inr x) h)
    (T : (1 ≤ m_L_plan.cap ∧ MetPM m_X11_plan [.ref 0, .int p1] h (rI (hnd Q (At m_L_plan Q) 1 [some (.ref 0), some (.int p1), some (.ref 147), none] [0, 0, 13, 3, 0, 0]) (fun x2 h1 => (vp_in (nI 0) 1 ∧ Q (.inl (some (.int (nI 0)))) (sl h1 147 (nI 0).toNatClampNeg (x2.toInt64))))))) :
    MetPM m_L_plan [.ref 0, .int p1, .ref 147] h Q := by
  exact met_of o_L_plan (Nat.le_of_ble_eq_true rfl) (fun _ => hQ) (vg_ok k_L_plan (stops := []) 63 0 0 _ [] h T)
set_option maxRecDepth 100000 in
set_option maxHeartbeats 4000000 in
theorem u_L_plan_13 {v1 : Int32} {h : PH} {Q : Res → PH → Prop}
    (T : Q (.inl (some (.int (nI 1)))) h) :
    At m_L_plan Q 13 1 [some (.ref 0), some (.int v1), some (.ref 147), none] [] h := by
  exact vg_ok k_L_plan (stops := []) 63 13 1 _ _ h T
set_option maxRecDepth 100000 in
set_option maxHeartbeats 4000000 in
theorem t_X11_lagging {h : PH} {Q : Res → PH → Prop}
    (T : MetPM m_X8_laggards [.ref 60] h (rI (hnd Q (At m_X11_lagging Q) 0 [some (.ref 0)] []) (fun x2 h1 => Q (.inl (some (.int x2))) h1))) :
    MetPM m_X11_lagging [.ref 0] h Q := by
  exact met_of o_X11_lagging (Nat.le_of_ble_eq_true rfl) (fun q => absurd rfl q) (vg_ok k_X11_lagging (stops := []) 54 0 0 _ [] h T)
set_option maxRecDepth 100000 in
set_option maxHeartbeats 4000000 in
theorem t_X11_blocked {h : PH} {Q : Res → PH → Prop}
    (T : MetPM m_X8_laggards [.ref 60] h (rI (hnd Q (At m_X11_blocked Q) 0 [some (.ref 0), some (.int (nI 0)), none, none] []) (fun x2 h1 => At m_X11_blocked Q 22 0 [some (.ref 0), some (.int (nI 0)), some (.int (x2 &&& ((gi h1 60 7) ^^^ (-(nI 1))))), some (.int (nI 0))] [] h1))) :
    MetPM m_X11_blocked [.ref 0] h Q := by
  exact met_of o_X11_blocked (Nat.le_of_ble_eq_true rfl) (fun q => absurd rfl q) (vg_ok k_X11_blocked (stops := [22]) 93 0 0 _ [] h T)
set_option maxRecDepth 100000 in
set_option maxHeartbeats 4000000 in
theorem u_X11_blocked_22 {v1 : Int32} {v2 : Int32} {v3 : Int32} {h : PH} {Q : Res → PH → Prop}
    (T : (((gi h 26 1) ≤ v3 → Q (.inl (some (.int v1))) h) ∧ (¬ (gi h 26 1) ≤ v3 → MetPM m_X11_isIn [.int v2, .int v3] h (rI (hnd Q (At m_X11_blocked Q) 0 [some (.ref 0), some (.int v1), some (.int v2), some (.int v3)] []) (fun x2 h1 => ((x2 = 0 → At m_X11_blocked Q 22 0 [some (.ref 0), some (.int v1), some (.int v2), some (.int (v3 + (nI 1)))] [] h1) ∧ (¬ x2 = 0 → MetPM m_X8_whyNotBegin [.ref 60, .int v3, .int (gi h1 60 11)] h1 (rI (hnd Q (At m_X11_blocked Q) 0 [some (.ref 0), some (.int v1), some (.int v2), some (.int v3)] []) (fun x4 h3 => ((x4 = 0 → At m_X11_blocked Q 22 0 [some (.ref 0), some (.int v1), some (.int v2), some (.int (v3 + (nI 1)))] [] h3) ∧ (¬ x4 = 0 → At m_X11_blocked Q 22 0 [some (.ref 0), some (.int (v1 ||| ((nI 1) <<< (v3 &&& 31)))), some (.int v2), some (.int (v3 + (nI 1)))] [] h3))))))))))) :
    At m_X11_blocked Q 22 0 [some (.ref 0), some (.int v1), some (.int v2), some (.int v3)] [] h := by
  exact vg_ok k_X11_blocked (stops := [22]) 93 22 0 _ _ h T
set_option maxRecDepth 100000 in
set_option maxHeartbeats 4000000 in
theorem t_X11_inWave {p0 : Int32} {h : PH} {Q : Res → PH → Prop}
    (T : ((p0 < 0 → (0 + 1 ≤ m_X11_inWave.cap ∧ Q (.inr 2) h)) ∧ (¬ p0 < 0 → ((p0 < (gi h 15 12) → (vp_in p0 5 ∧ Q (.inl (some (.int (gi h 25 p0.toNatClampNeg)))) h)) ∧ (¬ p0 < (gi h 15 12) → (0 + 1 ≤ m_X11_inWave.cap ∧ Q (.inr 2) h)))))) :
    MetPM m_X11_inWave [.ref 0, .int p0] h Q := by
  exact met_of o_X11_inWave (Nat.le_of_ble_eq_true rfl) (fun q => absurd rfl q) (vg_ok k_X11_inWave (stops := []) 69 0 0 _ [] h T)
set_option maxRecDepth 100000 in
set_option maxHeartbeats 4000000 in
theorem t_L_inWave {p1 : Int32} {h : PH} {Q : Res → PH → Prop} (hQ : ∀ x h, ¬ Q (.inr x) h)
    (T : (1 ≤ m_L_inWave.cap ∧ MetPM m_X11_inWave [.ref 0, .int p1] h (rI (hnd Q (At m_L_inWave Q) 1 [some (.ref 0), some (.int p1), some (.ref 147), none] [0, 0, 0, 0, 13, 3]) (fun x2 h1 => (vp_in (nI 0) 1 ∧ Q (.inl (some (.int (nI 0)))) (sl h1 147 (nI 0).toNatClampNeg (x2.toInt64))))))) :
    MetPM m_L_inWave [.ref 0, .int p1, .ref 147] h Q := by
  exact met_of o_L_inWave (Nat.le_of_ble_eq_true rfl) (fun _ => hQ) (vg_ok k_L_inWave (stops := []) 63 0 0 _ [] h T)
set_option maxRecDepth 100000 in
set_option maxHeartbeats 4000000 in
theorem u_L_inWave_13 {v1 : Int32} {h : PH} {Q : Res → PH → Prop}
    (T : Q (.inl (some (.int (nI 1)))) h) :
    At m_L_inWave Q 13 1 [some (.ref 0), some (.int v1), some (.ref 147), none] [] h := by
  exact vg_ok k_L_inWave (stops := []) 63 13 1 _ _ h T
set_option maxRecDepth 100000 in
set_option maxHeartbeats 4000000 in
theorem t_X11_share {p0 : Int32} {h : PH} {Q : Res → PH → Prop}
    (T : (1 ≤ m_X11_share.cap ∧ MetPM m_X11_needVersion [.ref 0, .int p0] h (rV (hnd Q (At m_X11_share Q) 1 [some (.ref 0), some (.int p0), none, none] []) (fun h1 => MetPM m_X5_plannedMembers [.ref 15] h1 (rI (hnd Q (At m_X11_share Q) 1 [some (.ref 0), some (.int p0), none, none] []) (fun x3 h2 => ((¬ x3 = 0 → MetPM m_X8_upWith [.ref 60, .int p0] h2 (rI (hnd Q (At m_X11_share Q) 1 [some (.ref 0), some (.int p0), some (.int x3), none] []) (fun x5 h4 => MetPM m_J6_bitCount_0f7a4 [.int (x5 &&& x3)] h4 (rI (hnd Q (At m_X11_share Q) 1 [some (.ref 0), some (.int p0), some (.int x3), some (.int (x5 &&& x3))] []) (fun x7 h6 => MetPM m_J6_bitCount_0f7a4 [.int x3] h6 (rI (hnd Q (At m_X11_share Q) 1 [some (.ref 0), some (.int p0), some (.int x3), some (.int (x5 &&& x3))] []) (fun x9 h8 => (vf_n32 (FP.fdiv (FP.i2f x7) (FP.i2f x9)) ∧ Q (.inl (some (.float (FP.fdiv (FP.i2f x7) (FP.i2f x9))))) h8)))))))) ∧ (x3 = 0 → Q (.inl (some (.float FP.fconst0))) h2)))))))) :
    MetPM m_X11_share [.ref 0, .int p0] h Q := by
  exact met_of o_X11_share (Nat.le_of_ble_eq_true rfl) (fun q => absurd rfl q) (vg_ok k_X11_share (stops := []) 77 0 0 _ [] h T)
set_option maxRecDepth 100000 in
set_option maxHeartbeats 4000000 in
theorem t_L_share {p1 : Int32} {h : PH} {Q : Res → PH → Prop} (hQ : ∀ x h, ¬ Q (.inr x) h)
    (T : (1 ≤ m_L_share.cap ∧ MetPM m_X11_share [.ref 0, .int p1] h (rF (hnd Q (At m_L_share Q) 1 [some (.ref 0), some (.int p1), some (.ref 148), none] [0, 0, 0, 0, 13, 3]) (fun x2 h1 => (vf_n64 (FP.f2d x2) ∧ (vp_in (nI 0) 1 ∧ Q (.inl (some (.int (nI 0)))) (sd h1 148 (nI 0).toNatClampNeg (FP.f2d x2)))))))) :
    MetPM m_L_share [.ref 0, .int p1, .ref 148] h Q := by
  exact met_of o_L_share (Nat.le_of_ble_eq_true rfl) (fun _ => hQ) (vg_ok k_L_share (stops := []) 63 0 0 _ [] h T)
set_option maxRecDepth 100000 in
set_option maxHeartbeats 4000000 in
theorem u_L_share_13 {v1 : Int32} {h : PH} {Q : Res → PH → Prop}
    (T : Q (.inl (some (.int (nI 1)))) h) :
    At m_L_share Q 13 1 [some (.ref 0), some (.int v1), some (.ref 148), none] [] h := by
  exact vg_ok k_L_share (stops := []) 63 13 1 _ _ h T
set_option maxRecDepth 100000 in
set_option maxHeartbeats 4000000 in
theorem t_X11_meanMeasure {h : PH} {Q : Res → PH → Prop}
    (T : MetPM m_X8_isUnderWay [.ref 60] h (rI (hnd Q (At m_X11_meanMeasure Q) 0 [some (.ref 0), none] []) (fun x2 h1 => ((x2 = 0 → ((¬ (nI 0) = 0 → MetPM m_X8_sumOfMeasures [.ref 60, .int (nI 0)] h1 (rI (hnd Q (At m_X11_meanMeasure Q) 0 [some (.ref 0), some (.int (nI 0))] []) (fun x4 h3 => MetPM m_J6_bitCount_0f7a4 [.int (nI 0)] h3 (rI (hnd Q (At m_X11_meanMeasure Q) 0 [some (.ref 0), some (.int (nI 0))] []) (fun x6 h5 => (vf_n64 (FP.ddiv (FP.i2d x4) (FP.i2d x6)) ∧ Q (.inl (some (.double (FP.ddiv (FP.i2d x4) (FP.i2d x6))))) h5)))))) ∧ ((nI 0) = 0 → Q (.inl (some (.double FP.dconst0))) h1))) ∧ (¬ x2 = 0 → MetPM m_X8_measuredSet [.ref 60] h1 (rI (hnd Q (At m_X11_meanMeasure Q) 0 [some (.ref 0), none] []) (fun x8 h7 => ((¬ x8 = 0 → MetPM m_X8_sumOfMeasures [.ref 60, .int x8] h7 (rI (hnd Q (At m_X11_meanMeasure Q) 0 [some (.ref 0), some (.int x8)] []) (fun x10 h9 => MetPM m_J6_bitCount_0f7a4 [.int x8] h9 (rI (hnd Q (At m_X11_meanMeasure Q) 0 [some (.ref 0), some (.int x8)] []) (fun x12 h11 => (vf_n64 (FP.ddiv (FP.i2d x10) (FP.i2d x12)) ∧ Q (.inl (some (.double (FP.ddiv (FP.i2d x10) (FP.i2d x12))))) h11)))))) ∧ (x8 = 0 → Q (.inl (some (.double FP.dconst0))) h7))))))))) :
    MetPM m_X11_meanMeasure [.ref 0] h Q := by
  exact met_of o_X11_meanMeasure (Nat.le_of_ble_eq_true rfl) (fun q => absurd rfl q) (vg_ok k_X11_meanMeasure (stops := []) 74 0 0 _ [] h T)
set_option maxRecDepth 100000 in
set_option maxHeartbeats 4000000 in
theorem t_X11_whyNotCommit {p0 : Int32} {h : PH} {Q : Res → PH → Prop}
    (T : (1 ≤ m_X11_whyNotCommit.cap ∧ MetPM m_X11_needFormat [.int p0] h (rV (hnd Q (At m_X11_whyNotCommit Q) 1 [some (.ref 0), some (.int p0)] []) (fun h1 => MetPM m_X8_whyNotFormat [.ref 60, .int p0] h1 (rI (hnd Q (At m_X11_whyNotCommit Q) 1 [some (.ref 0), some (.int p0)] []) (fun x3 h2 => Q (.inl (some (.int x3))) h2)))))) :
    MetPM m_X11_whyNotCommit [.ref 0, .int p0] h Q := by
  exact met_of o_X11_whyNotCommit (Nat.le_of_ble_eq_true rfl) (fun q => absurd rfl q) (vg_ok k_X11_whyNotCommit (stops := []) 57 0 0 _ [] h T)
set_option maxRecDepth 100000 in
set_option maxHeartbeats 4000000 in
theorem t_L_whyNotCommit {p1 : Int32} {h : PH} {Q : Res → PH → Prop} (hQ : ∀ x h, ¬ Q (.inr x) h)
    (T : (1 ≤ m_L_whyNotCommit.cap ∧ MetPM m_X11_whyNotCommit [.ref 0, .int p1] h (rI (hnd Q (At m_L_whyNotCommit Q) 1 [some (.ref 0), some (.int p1), some (.ref 147), none] [0, 0, 13, 3, 0, 0]) (fun x2 h1 => (vp_in (nI 0) 1 ∧ Q (.inl (some (.int (nI 0)))) (sl h1 147 (nI 0).toNatClampNeg (x2.toInt64))))))) :
    MetPM m_L_whyNotCommit [.ref 0, .int p1, .ref 147] h Q := by
  exact met_of o_L_whyNotCommit (Nat.le_of_ble_eq_true rfl) (fun _ => hQ) (vg_ok k_L_whyNotCommit (stops := []) 63 0 0 _ [] h T)
set_option maxRecDepth 100000 in
set_option maxHeartbeats 4000000 in
theorem u_L_whyNotCommit_13 {v1 : Int32} {h : PH} {Q : Res → PH → Prop}
    (T : Q (.inl (some (.int (nI 1)))) h) :
    At m_L_whyNotCommit Q 13 1 [some (.ref 0), some (.int v1), some (.ref 147), none] [] h := by
  exact vg_ok k_L_whyNotCommit (stops := []) 63 13 1 _ _ h T
set_option maxRecDepth 100000 in
set_option maxHeartbeats 4000000 in
theorem t_X11_highestFormat {h : PH} {Q : Res → PH → Prop}
    (T : ((¬ (gi h 26 1) = 0 → At m_X11_highestFormat Q 21 0 [some (.ref 0), some (.int (nI 9))] [] h) ∧ ((gi h 26 1) = 0 → Q (.inl (some (.int (-(nI 1))))) h))) :
    MetPM m_X11_highestFormat [.ref 0] h Q := by
  exact met_of o_X11_highestFormat (Nat.le_of_ble_eq_true rfl) (fun q => absurd rfl q) (vg_ok k_X11_highestFormat (stops := [21]) 74 0 0 _ [] h T)
set_option maxRecDepth 100000 in
set_option maxHeartbeats 4000000 in
theorem u_X11_highestFormat_21 {v1 : Int32} {h : PH} {Q : Res → PH → Prop}
    (T : ((v1 < (nI 1) → Q (.inl (some (.int (-(nI 1))))) h) ∧ (¬ v1 < (nI 1) → MetPM m_X8_isReadByAll [.ref 60, .int v1] h (rI (hnd Q (At m_X11_highestFormat Q) 0 [some (.ref 0), some (.int v1)] []) (fun x2 h1 => ((x2 = 0 → At m_X11_highestFormat Q 21 0 [some (.ref 0), some (.int (v1 + (-(nI 1))))] [] h1) ∧ (¬ x2 = 0 → Q (.inl (some (.int v1))) h1))))))) :
    At m_X11_highestFormat Q 21 0 [some (.ref 0), some (.int v1)] [] h := by
  exact vg_ok k_X11_highestFormat (stops := [21]) 74 21 0 _ _ h T
set_option maxRecDepth 100000 in
set_option maxHeartbeats 4000000 in
theorem t_X11_wayBack {h : PH} {Q : Res → PH → Prop}
    (T : MetPM m_X8_lowestWayBack [.ref 60] h (rI (hnd Q (At m_X11_wayBack Q) 0 [some (.ref 0)] []) (fun x2 h1 => Q (.inl (some (.int x2))) h1))) :
    MetPM m_X11_wayBack [.ref 0] h Q := by
  exact met_of o_X11_wayBack (Nat.le_of_ble_eq_true rfl) (fun q => absurd rfl q) (vg_ok k_X11_wayBack (stops := []) 54 0 0 _ [] h T)
set_option maxRecDepth 100000 in
set_option maxHeartbeats 4000000 in
theorem t_X11_minutesToEnd {p0 : Int32} {h : PH} {Q : Res → PH → Prop}
    (T : (1 ≤ m_X11_minutesToEnd.cap ∧ MetPM m_X11_needAhead [.int p0] h (rV (hnd Q (At m_X11_minutesToEnd Q) 1 [some (.ref 0), some (.int p0)] []) (fun h1 => MetPM m_X8_copyFrom [.ref 67, .ref 60] h1 (rV (hnd Q (At m_X11_minutesToEnd Q) 1 [some (.ref 0), some (.int p0)] []) (fun h2 => MetPM m_X8_minutesToDone [.ref 67, .int p0] h2 (rI (hnd Q (At m_X11_minutesToEnd Q) 1 [some (.ref 0), some (.int p0)] []) (fun x4 h3 => Q (.inl (some (.int x4))) h3)))))))) :
    MetPM m_X11_minutesToEnd [.ref 0, .int p0] h Q := by
  exact met_of o_X11_minutesToEnd (Nat.le_of_ble_eq_true rfl) (fun q => absurd rfl q) (vg_ok k_X11_minutesToEnd (stops := []) 62 0 0 _ [] h T)
set_option maxRecDepth 100000 in
set_option maxHeartbeats 4000000 in
theorem t_L_minutesToEnd {p1 : Int32} {h : PH} {Q : Res → PH → Prop} (hQ : ∀ x h, ¬ Q (.inr x) h)
    (T : (1 ≤ m_L_minutesToEnd.cap ∧ MetPM m_X11_minutesToEnd [.ref 0, .int p1] h (rI (hnd Q (At m_L_minutesToEnd Q) 1 [some (.ref 0), some (.int p1), some (.ref 147), none] [0, 0, 13, 3, 0, 0]) (fun x2 h1 => (vp_in (nI 0) 1 ∧ Q (.inl (some (.int (nI 0)))) (sl h1 147 (nI 0).toNatClampNeg (x2.toInt64))))))) :
    MetPM m_L_minutesToEnd [.ref 0, .int p1, .ref 147] h Q := by
  exact met_of o_L_minutesToEnd (Nat.le_of_ble_eq_true rfl) (fun _ => hQ) (vg_ok k_L_minutesToEnd (stops := []) 63 0 0 _ [] h T)
set_option maxRecDepth 100000 in
set_option maxHeartbeats 4000000 in
theorem u_L_minutesToEnd_13 {v1 : Int32} {h : PH} {Q : Res → PH → Prop}
    (T : Q (.inl (some (.int (nI 1)))) h) :
    At m_L_minutesToEnd Q 13 1 [some (.ref 0), some (.int v1), some (.ref 147), none] [] h := by
  exact vg_ok k_L_minutesToEnd (stops := []) 63 13 1 _ _ h T
set_option maxRecDepth 100000 in
set_option maxHeartbeats 4000000 in
theorem t_X11_minutesWhenFreed {p0 : Int32} {h : PH} {Q : Res → PH → Prop}
    (T : MetPM m_X8_copyFrom [.ref 67, .ref 60] h (rV (hnd Q (At m_X11_minutesWhenFreed Q) 0 [some (.ref 0), some (.int p0)] []) (fun h1 => MetPM m_X8_minutesToDone [.ref 67, .int (nI 2000)] (si h1 67 8 ((gi h1 67 8) &&& (((nI 1) <<< (p0 &&& 31)) ^^^ (-(nI 1))))) (rI (hnd Q (At m_X11_minutesWhenFreed Q) 0 [some (.ref 0), some (.int p0)] []) (fun x3 h2 => Q (.inl (some (.int x3))) h2))))) :
    MetPM m_X11_minutesWhenFreed [.ref 0, .int p0] h Q := by
  exact met_of o_X11_minutesWhenFreed (Nat.le_of_ble_eq_true rfl) (fun q => absurd rfl q) (vg_ok k_X11_minutesWhenFreed (stops := []) 71 0 0 _ [] h T)
set_option maxRecDepth 100000 in
set_option maxHeartbeats 4000000 in
theorem t_X11_minutesIfFree {p0 : Int32} {h : PH} {Q : Res → PH → Prop}
    (T : (1 ≤ m_X11_minutesIfFree.cap ∧ MetPM m_X11_needMember [.ref 0, .int p0] h (rV (hnd Q (At m_X11_minutesIfFree Q) 1 [some (.ref 0), some (.int p0)] []) (fun h1 => MetPM m_X11_minutesWhenFreed [.ref 0, .int p0] h1 (rI (hnd Q (At m_X11_minutesIfFree Q) 1 [some (.ref 0), some (.int p0)] []) (fun x3 h2 => Q (.inl (some (.int x3))) h2)))))) :
    MetPM m_X11_minutesIfFree [.ref 0, .int p0] h Q := by
  exact met_of o_X11_minutesIfFree (Nat.le_of_ble_eq_true rfl) (fun q => absurd rfl q) (vg_ok k_X11_minutesIfFree (stops := []) 57 0 0 _ [] h T)
set_option maxRecDepth 100000 in
set_option maxHeartbeats 4000000 in
theorem t_L_minutesIfFree {p1 : Int32} {h : PH} {Q : Res → PH → Prop} (hQ : ∀ x h, ¬ Q (.inr x) h)
    (T : (1 ≤ m_L_minutesIfFree.cap ∧ MetPM m_X11_minutesIfFree [.ref 0, .int p1] h (rI (hnd Q (At m_L_minutesIfFree Q) 1 [some (.ref 0), some (.int p1), some (.ref 147), none] [0, 0, 0, 0, 13, 3]) (fun x2 h1 => (vp_in (nI 0) 1 ∧ Q (.inl (some (.int (nI 0)))) (sl h1 147 (nI 0).toNatClampNeg (x2.toInt64))))))) :
    MetPM m_L_minutesIfFree [.ref 0, .int p1, .ref 147] h Q := by
  exact met_of o_L_minutesIfFree (Nat.le_of_ble_eq_true rfl) (fun _ => hQ) (vg_ok k_L_minutesIfFree (stops := []) 63 0 0 _ [] h T)
set_option maxRecDepth 100000 in
set_option maxHeartbeats 4000000 in
theorem u_L_minutesIfFree_13 {v1 : Int32} {h : PH} {Q : Res → PH → Prop}
    (T : Q (.inl (some (.int (nI 1)))) h) :
    At m_L_minutesIfFree Q 13 1 [some (.ref 0), some (.int v1), some (.ref 147), none] [] h := by
  exact vg_ok k_L_minutesIfFree (stops := []) 63 13 1 _ _ h T
set_option maxRecDepth 100000 in
set_option maxHeartbeats 4000000 in
theorem t_X11_bestToFree {h : PH} {Q : Res → PH → Prop}
    (T : At m_X11_bestToFree Q 8 0 [some (.ref 0), some (.int (-(nI 1))), some (.int (nI 2001)), some (.int (nI 0)), none] [] h) :
    MetPM m_X11_bestToFree [.ref 0] h Q := by
  exact met_of o_X11_bestToFree (Nat.le_of_ble_eq_true rfl) (fun q => absurd rfl q) (vg_ok k_X11_bestToFree (stops := [8]) 89 0 0 _ [] h T)
set_option maxRecDepth 100000 in
set_option maxHeartbeats 4000000 in
theorem u_X11_bestToFree_8 {v1 : Int32} {v2 : Int32} {v3 : Int32} {o4 : Option Value} {h : PH} {Q : Res → PH → Prop}
    (T : (((gi h 26 1) ≤ v3 → Q (.inl (some (.int v1))) h) ∧ (¬ (gi h 26 1) ≤ v3 → MetPM m_X11_isIn [.int (gi h 60 8), .int v3] h (rI (hnd Q (At m_X11_bestToFree Q) 0 [some (.ref 0), some (.int v1), some (.int v2), some (.int v3), o4] []) (fun x2 h1 => ((x2 = 0 → (((-(nI 1)) = (-(nI 1)) → At m_X11_bestToFree Q 8 0 [some (.ref 0), some (.int v1), some (.int v2), some (.int (v3 + (nI 1))), some (.int (-(nI 1)))] [] h1) ∧ (¬ (-(nI 1)) = (-(nI 1)) → ((v2 ≤ (-(nI 1)) → At m_X11_bestToFree Q 8 0 [some (.ref 0), some (.int v1), some (.int v2), some (.int (v3 + (nI 1))), some (.int (-(nI 1)))] [] h1) ∧ (¬ v2 ≤ (-(nI 1)) → At m_X11_bestToFree Q 8 0 [some (.ref 0), some (.int v3), some (.int (-(nI 1))), some (.int (v3 + (nI 1))), some (.int (-(nI 1)))] [] h1))))) ∧ (¬ x2 = 0 → MetPM m_X11_minutesWhenFreed [.ref 0, .int v3] h1 (rI (hnd Q (At m_X11_bestToFree Q) 0 [some (.ref 0), some (.int v1), some (.int v2), some (.int v3), o4] []) (fun x4 h3 => ((x4 = (-(nI 1)) → At m_X11_bestToFree Q 8 0 [some (.ref 0), some (.int v1), some (.int v2), some (.int (v3 + (nI 1))), some (.int x4)] [] h3) ∧ (¬ x4 = (-(nI 1)) → ((v2 ≤ x4 → At m_X11_bestToFree Q 8 0 [some (.ref 0), some (.int v1), some (.int v2), some (.int (v3 + (nI 1))), some (.int x4)] [] h3) ∧ (¬ v2 ≤ x4 → At m_X11_bestToFree Q 8 0 [some (.ref 0), some (.int v3), some (.int x4), some (.int (v3 + (nI 1))), some (.int x4)] [] h3))))))))))))) :
    At m_X11_bestToFree Q 8 0 [some (.ref 0), some (.int v1), some (.int v2), some (.int v3), o4] [] h := by
  exact vg_ok k_X11_bestToFree (stops := [8]) 89 8 0 _ _ h T
set_option maxRecDepth 100000 in
set_option maxHeartbeats 4000000 in
theorem t_X11_changesIn {p0 : Int32} {h : PH} {Q : Res → PH → Prop}
    (T : (1 ≤ m_X11_changesIn.cap ∧ MetPM m_X11_needAhead [.int p0] h (rV (hnd Q (At m_X11_changesIn Q) 1 [some (.ref 0), some (.int p0)] []) (fun h1 => MetPM m_X8_copyFrom [.ref 67, .ref 60] h1 (rV (hnd Q (At m_X11_changesIn Q) 1 [some (.ref 0), some (.int p0)] []) (fun h2 => MetPM m_X8_changesWithin [.ref 67, .int p0] h2 (rI (hnd Q (At m_X11_changesIn Q) 1 [some (.ref 0), some (.int p0)] []) (fun x4 h3 => Q (.inl (some (.int x4))) h3)))))))) :
    MetPM m_X11_changesIn [.ref 0, .int p0] h Q := by
  exact met_of o_X11_changesIn (Nat.le_of_ble_eq_true rfl) (fun q => absurd rfl q) (vg_ok k_X11_changesIn (stops := []) 62 0 0 _ [] h T)
set_option maxRecDepth 100000 in
set_option maxHeartbeats 4000000 in
theorem t_L_changesIn {p1 : Int32} {h : PH} {Q : Res → PH → Prop} (hQ : ∀ x h, ¬ Q (.inr x) h)
    (T : (1 ≤ m_L_changesIn.cap ∧ MetPM m_X11_changesIn [.ref 0, .int p1] h (rI (hnd Q (At m_L_changesIn Q) 1 [some (.ref 0), some (.int p1), some (.ref 147), none] [0, 0, 13, 3, 0, 0]) (fun x2 h1 => (vp_in (nI 0) 1 ∧ Q (.inl (some (.int (nI 0)))) (sl h1 147 (nI 0).toNatClampNeg (x2.toInt64))))))) :
    MetPM m_L_changesIn [.ref 0, .int p1, .ref 147] h Q := by
  exact met_of o_L_changesIn (Nat.le_of_ble_eq_true rfl) (fun _ => hQ) (vg_ok k_L_changesIn (stops := []) 63 0 0 _ [] h T)
set_option maxRecDepth 100000 in
set_option maxHeartbeats 4000000 in
theorem u_L_changesIn_13 {v1 : Int32} {h : PH} {Q : Res → PH → Prop}
    (T : Q (.inl (some (.int (nI 1)))) h) :
    At m_L_changesIn Q 13 1 [some (.ref 0), some (.int v1), some (.ref 147), none] [] h := by
  exact vg_ok k_L_changesIn (stops := []) 63 13 1 _ _ h T
set_option maxRecDepth 100000 in
set_option maxHeartbeats 4000000 in
theorem t_X11_wouldStop {p0 : Int32} {p1 : Int32} {h : PH} {Q : Res → PH → Prop}
    (T : (1 ≤ m_X11_wouldStop.cap ∧ MetPM m_X11_needMember [.ref 0, .int p0] h (rV (hnd Q (At m_X11_wouldStop Q) 1 [some (.ref 0), some (.int p0), some (.int p1)] []) (fun h1 => (2 ≤ m_X11_wouldStop.cap ∧ MetPM m_X11_needMeasure [.int p1] h1 (rV (hnd Q (At m_X11_wouldStop Q) 2 [some (.ref 0), some (.int p0), some (.int p1)] []) (fun h2 => MetPM m_X8_isActive [.ref 60] h2 (rI (hnd Q (At m_X11_wouldStop Q) 2 [some (.ref 0), some (.int p0), some (.int p1)] []) (fun x4 h3 => ((¬ x4 = 0 → MetPM m_X8_copyFrom [.ref 67, .ref 60] h3 (rV (hnd Q (At m_X11_wouldStop Q) 2 [some (.ref 0), some (.int p0), some (.int p1)] []) (fun h5 => (vp_in p0 12 ∧ MetPM m_X8_passMinute [.ref 67] (si h5 71 p0.toNatClampNeg p1) (rI (hnd Q (At m_X11_wouldStop Q) 2 [some (.ref 0), some (.int p0), some (.int p1)] []) (fun x7 h6 => ((¬ (gi h6 67 9) = (nI 3) → (isB (nI 0) ∧ Q (.inl (some (.int (nI 0)))) h6)) ∧ ((gi h6 67 9) = (nI 3) → (isB (nI 1) ∧ Q (.inl (some (.int (nI 1)))) h6))))))))) ∧ (x4 = 0 → (isB (nI 0) ∧ Q (.inl (some (.int (nI 0)))) h3)))))))))))) :
    MetPM m_X11_wouldStop [.ref 0, .int p0, .int p1] h Q := by
  exact met_of o_X11_wouldStop (Nat.le_of_ble_eq_true rfl) (fun q => absurd rfl q) (vg_ok k_X11_wouldStop (stops := []) 85 0 0 _ [] h T)
set_option maxRecDepth 100000 in
set_option maxHeartbeats 4000000 in
theorem t_L_wouldStop {p1 : Int32} {p2 : Int32} {h : PH} {Q : Res → PH → Prop} (hQ : ∀ x h, ¬ Q (.inr x) h)
    (T : (2 ≤ m_L_wouldStop.cap ∧ MetPM m_X11_wouldStop [.ref 0, .int p1, .int p2] h (rI (hnd Q (At m_L_wouldStop Q) 2 [some (.ref 0), some (.int p1), some (.int p2), some (.ref 147), none] [0, 0, 26, 4, 22, 4]) (fun x2 h1 => ((x2 = 0 → (vp_in (nI 0) 1 ∧ Q (.inl (some (.int (nI 0)))) (sl h1 147 (nI 0).toNatClampNeg (lN 0)))) ∧ (¬ x2 = 0 → (vp_in (nI 0) 1 ∧ Q (.inl (some (.int (nI 0)))) (sl h1 147 (nI 0).toNatClampNeg (lN 1))))))))) :
    MetPM m_L_wouldStop [.ref 0, .int p1, .int p2, .ref 147] h Q := by
  exact met_of o_L_wouldStop (Nat.le_of_ble_eq_true rfl) (fun _ => hQ) (vg_ok k_L_wouldStop (stops := []) 70 0 0 _ [] h T)
set_option maxRecDepth 100000 in
set_option maxHeartbeats 4000000 in
theorem u_L_wouldStop_22 {v1 : Int32} {v2 : Int32} {h : PH} {Q : Res → PH → Prop}
    (T : Q (.inl (some (.int (nI 1)))) h) :
    At m_L_wouldStop Q 22 2 [some (.ref 0), some (.int v1), some (.int v2), some (.ref 147), none] [] h := by
  exact vg_ok k_L_wouldStop (stops := []) 70 22 2 _ _ h T
set_option maxRecDepth 100000 in
set_option maxHeartbeats 4000000 in
theorem u_L_wouldStop_26 {v1 : Int32} {v2 : Int32} {h : PH} {Q : Res → PH → Prop}
    (T : Q (.inl (some (.int (nI 2)))) h) :
    At m_L_wouldStop Q 26 2 [some (.ref 0), some (.int v1), some (.int v2), some (.ref 147), none] [] h := by
  exact vg_ok k_L_wouldStop (stops := []) 70 26 2 _ _ h T
set_option maxRecDepth 100000 in
set_option maxHeartbeats 4000000 in
theorem t_X11_events {h : PH} {Q : Res → PH → Prop}
    (T : Q (.inl (some (.int (gi h 65 1)))) h) :
    MetPM m_X11_events [.ref 0] h Q := by
  exact met_of o_X11_events (Nat.le_of_ble_eq_true rfl) (fun q => absurd rfl q) (vg_ok k_X11_events (stops := []) 55 0 0 _ [] h T)
set_option maxRecDepth 100000 in
set_option maxHeartbeats 4000000 in
theorem t_X11_event {p0 : Int32} {p1 : Int32} {h : PH} {Q : Res → PH → Prop}
    (T : ((p0 < 0 → (0 + 1 ≤ m_X11_event.cap ∧ Q (.inr 2) h)) ∧ (¬ p0 < 0 → ((p0 < (gi h 65 1) → ((p1 < 0 → (0 + 1 ≤ m_X11_event.cap ∧ Q (.inr 1) h)) ∧ (¬ p1 < 0 → ((p1 < (nI 4) → MetPM m_X3_cellOf [.ref 65, .int p0, .int p1] h (rI (hnd Q (At m_X11_event Q) 0 [some (.ref 0), some (.int p0), some (.int p1)] []) (fun x2 h1 => Q (.inl (some (.int x2))) h1))) ∧ (¬ p1 < (nI 4) → (0 + 1 ≤ m_X11_event.cap ∧ Q (.inr 1) h)))))) ∧ (¬ p0 < (gi h 65 1) → (0 + 1 ≤ m_X11_event.cap ∧ Q (.inr 2) h)))))) :
    MetPM m_X11_event [.ref 0, .int p0, .int p1] h Q := by
  exact met_of o_X11_event (Nat.le_of_ble_eq_true rfl) (fun q => absurd rfl q) (vg_ok k_X11_event (stops := []) 78 0 0 _ [] h T)
set_option maxRecDepth 100000 in
set_option maxHeartbeats 4000000 in
theorem t_L_event {p1 : Int32} {p2 : Int32} {h : PH} {Q : Res → PH → Prop} (hQ : ∀ x h, ¬ Q (.inr x) h)
    (T : (1 ≤ m_L_event.cap ∧ MetPM m_X11_event [.ref 0, .int p1, .int p2] h (rI (hnd Q (At m_L_event Q) 1 [some (.ref 0), some (.int p1), some (.int p2), some (.ref 147), none] [0, 0, 19, 4, 15, 4]) (fun x2 h1 => (vp_in (nI 0) 1 ∧ Q (.inl (some (.int (nI 0)))) (sl h1 147 (nI 0).toNatClampNeg (x2.toInt64))))))) :
    MetPM m_L_event [.ref 0, .int p1, .int p2, .ref 147] h Q := by
  exact met_of o_L_event (Nat.le_of_ble_eq_true rfl) (fun _ => hQ) (vg_ok k_L_event (stops := []) 67 0 0 _ [] h T)
set_option maxRecDepth 100000 in
set_option maxHeartbeats 4000000 in
theorem u_L_event_15 {v1 : Int32} {v2 : Int32} {h : PH} {Q : Res → PH → Prop}
    (T : Q (.inl (some (.int (nI 1)))) h) :
    At m_L_event Q 15 1 [some (.ref 0), some (.int v1), some (.int v2), some (.ref 147), none] [] h := by
  exact vg_ok k_L_event (stops := []) 67 15 1 _ _ h T
set_option maxRecDepth 100000 in
set_option maxHeartbeats 4000000 in
theorem u_L_event_19 {v1 : Int32} {v2 : Int32} {h : PH} {Q : Res → PH → Prop}
    (T : Q (.inl (some (.int (nI 2)))) h) :
    At m_L_event Q 19 1 [some (.ref 0), some (.int v1), some (.int v2), some (.ref 147), none] [] h := by
  exact vg_ok k_L_event (stops := []) 67 19 1 _ _ h T
set_option maxRecDepth 100000 in
set_option maxHeartbeats 4000000 in
theorem t_X11_pass {p0 : Int32} {h : PH} {Q : Res → PH → Prop}
    (T : MetPM m_X8_canPass [.ref 60, .int p0] h (rI (hnd Q (At m_X11_pass Q) 0 [some (.ref 0), some (.int p0)] []) (fun x2 h1 => ((¬ x2 = 0 → MetPM m_X4_keep [.ref 13, .ref 60] h1 (rV (hnd Q (At m_X11_pass Q) 0 [some (.ref 0), some (.int p0)] []) (fun h3 => MetPM m_X8_passMinutes [.ref 60, .int p0] h3 (rI (hnd Q (At m_X11_pass Q) 0 [some (.ref 0), some (.int p0)] []) (fun x5 h4 => Q (.inl (some (.int x5))) h4))))) ∧ (x2 = 0 → (0 + 1 ≤ m_X11_pass.cap ∧ Q (.inr 1) h1)))))) :
    MetPM m_X11_pass [.ref 0, .int p0] h Q := by
  exact met_of o_X11_pass (Nat.le_of_ble_eq_true rfl) (fun q => absurd rfl q) (vg_ok k_X11_pass (stops := []) 69 0 0 _ [] h T)
set_option maxRecDepth 100000 in
set_option maxHeartbeats 4000000 in
theorem t_L_pass {p1 : Int32} {h : PH} {Q : Res → PH → Prop} (hQ : ∀ x h, ¬ Q (.inr x) h)
    (T : (1 ≤ m_L_pass.cap ∧ MetPM m_X11_pass [.ref 0, .int p1] h (rI (hnd Q (At m_L_pass Q) 1 [some (.ref 0), some (.int p1), some (.ref 147), none] [0, 0, 13, 3, 0, 0]) (fun x2 h1 => (vp_in (nI 0) 1 ∧ Q (.inl (some (.int (nI 0)))) (sl h1 147 (nI 0).toNatClampNeg (x2.toInt64))))))) :
    MetPM m_L_pass [.ref 0, .int p1, .ref 147] h Q := by
  exact met_of o_L_pass (Nat.le_of_ble_eq_true rfl) (fun _ => hQ) (vg_ok k_L_pass (stops := []) 63 0 0 _ [] h T)
set_option maxRecDepth 100000 in
set_option maxHeartbeats 4000000 in
theorem u_L_pass_13 {v1 : Int32} {h : PH} {Q : Res → PH → Prop}
    (T : Q (.inl (some (.int (nI 1)))) h) :
    At m_L_pass Q 13 1 [some (.ref 0), some (.int v1), some (.ref 147), none] [] h := by
  exact vg_ok k_L_pass (stops := []) 63 13 1 _ _ h T
set_option maxRecDepth 100000 in
set_option maxHeartbeats 4000000 in
theorem t_X11_start {p0 : Int32} {h : PH} {Q : Res → PH → Prop}
    (T : (1 ≤ m_X11_start.cap ∧ MetPM m_X11_needVersion [.ref 0, .int p0] h (rV (hnd Q (At m_X11_start Q) 1 [some (.ref 0), some (.int p0)] []) (fun h1 => MetPM m_X8_canStart [.ref 60] h1 (rI (hnd Q (At m_X11_start Q) 1 [some (.ref 0), some (.int p0)] []) (fun x3 h2 => ((¬ x3 = 0 → MetPM m_X4_keep [.ref 13, .ref 60] h2 (rV (hnd Q (At m_X11_start Q) 1 [some (.ref 0), some (.int p0)] []) (fun h4 => MetPM m_X8_startPlan [.ref 60, .int p0] h4 (rI (hnd Q (At m_X11_start Q) 1 [some (.ref 0), some (.int p0)] []) (fun x6 h5 => Q (.inl (some (.int x6))) h5))))) ∧ (x3 = 0 → (1 + 1 ≤ m_X11_start.cap ∧ Q (.inr 0) h2))))))))) :
    MetPM m_X11_start [.ref 0, .int p0] h Q := by
  exact met_of o_X11_start (Nat.le_of_ble_eq_true rfl) (fun q => absurd rfl q) (vg_ok k_X11_start (stops := []) 71 0 0 _ [] h T)
set_option maxRecDepth 100000 in
set_option maxHeartbeats 4000000 in
theorem t_L_start {p1 : Int32} {h : PH} {Q : Res → PH → Prop} (hQ : ∀ x h, ¬ Q (.inr x) h)
    (T : (2 ≤ m_L_start.cap ∧ MetPM m_X11_start [.ref 0, .int p1] h (rI (hnd Q (At m_L_start Q) 2 [some (.ref 0), some (.int p1), some (.ref 147), none] [16, 3, 0, 0, 13, 3]) (fun x2 h1 => (vp_in (nI 0) 1 ∧ Q (.inl (some (.int (nI 0)))) (sl h1 147 (nI 0).toNatClampNeg (x2.toInt64))))))) :
    MetPM m_L_start [.ref 0, .int p1, .ref 147] h Q := by
  exact met_of o_L_start (Nat.le_of_ble_eq_true rfl) (fun _ => hQ) (vg_ok k_L_start (stops := []) 66 0 0 _ [] h T)
set_option maxRecDepth 100000 in
set_option maxHeartbeats 4000000 in
theorem u_L_start_13 {v1 : Int32} {h : PH} {Q : Res → PH → Prop}
    (T : Q (.inl (some (.int (nI 1)))) h) :
    At m_L_start Q 13 2 [some (.ref 0), some (.int v1), some (.ref 147), none] [] h := by
  exact vg_ok k_L_start (stops := []) 66 13 2 _ _ h T
set_option maxRecDepth 100000 in
set_option maxHeartbeats 4000000 in
theorem u_L_start_16 {v1 : Int32} {h : PH} {Q : Res → PH → Prop}
    (T : Q (.inl (some (.int (nI 2)))) h) :
    At m_L_start Q 16 2 [some (.ref 0), some (.int v1), some (.ref 147), none] [] h := by
  exact vg_ok k_L_start (stops := []) 66 16 2 _ _ h T
set_option maxRecDepth 100000 in
set_option maxHeartbeats 4000000 in
theorem t_X11_stop {h : PH} {Q : Res → PH → Prop}
    (T : MetPM m_X8_isActive [.ref 60] h (rI (hnd Q (At m_X11_stop Q) 0 [some (.ref 0)] []) (fun x2 h1 => ((¬ x2 = 0 → MetPM m_X4_keep [.ref 13, .ref 60] h1 (rV (hnd Q (At m_X11_stop Q) 0 [some (.ref 0)] []) (fun h3 => MetPM m_X8_stopPlan [.ref 60] h3 (rI (hnd Q (At m_X11_stop Q) 0 [some (.ref 0)] []) (fun x5 h4 => Q (.inl (some (.int x5))) h4))))) ∧ (x2 = 0 → (0 + 1 ≤ m_X11_stop.cap ∧ Q (.inr 0) h1)))))) :
    MetPM m_X11_stop [.ref 0] h Q := by
  exact met_of o_X11_stop (Nat.le_of_ble_eq_true rfl) (fun q => absurd rfl q) (vg_ok k_X11_stop (stops := []) 67 0 0 _ [] h T)
set_option maxRecDepth 100000 in
set_option maxHeartbeats 4000000 in
theorem t_L_stop {h : PH} {Q : Res → PH → Prop} (hQ : ∀ x h, ¬ Q (.inr x) h)
    (T : (1 ≤ m_L_stop.cap ∧ MetPM m_X11_stop [.ref 0] h (rI (hnd Q (At m_L_stop Q) 1 [some (.ref 0), some (.ref 147), none] [12, 2, 0, 0, 0, 0]) (fun x2 h1 => (vp_in (nI 0) 1 ∧ Q (.inl (some (.int (nI 0)))) (sl h1 147 (nI 0).toNatClampNeg (x2.toInt64))))))) :
    MetPM m_L_stop [.ref 0, .ref 147] h Q := by
  exact met_of o_L_stop (Nat.le_of_ble_eq_true rfl) (fun _ => hQ) (vg_ok k_L_stop (stops := []) 62 0 0 _ [] h T)
set_option maxRecDepth 100000 in
set_option maxHeartbeats 4000000 in
theorem u_L_stop_12 {h : PH} {Q : Res → PH → Prop}
    (T : Q (.inl (some (.int (nI 1)))) h) :
    At m_L_stop Q 12 1 [some (.ref 0), some (.ref 147), none] [] h := by
  exact vg_ok k_L_stop (stops := []) 62 12 1 _ _ h T
set_option maxRecDepth 100000 in
set_option maxHeartbeats 4000000 in
theorem t_X11_go {h : PH} {Q : Res → PH → Prop}
    (T : (((gi h 60 9) = (nI 3) → MetPM m_X4_keep [.ref 13, .ref 60] h (rV (hnd Q (At m_X11_go Q) 0 [some (.ref 0)] []) (fun h1 => MetPM m_X8_resumePlan [.ref 60] h1 (rI (hnd Q (At m_X11_go Q) 0 [some (.ref 0)] []) (fun x3 h2 => Q (.inl (some (.int x3))) h2))))) ∧ (¬ (gi h 60 9) = (nI 3) → (0 + 1 ≤ m_X11_go.cap ∧ Q (.inr 0) h)))) :
    MetPM m_X11_go [.ref 0] h Q := by
  exact met_of o_X11_go (Nat.le_of_ble_eq_true rfl) (fun q => absurd rfl q) (vg_ok k_X11_go (stops := []) 68 0 0 _ [] h T)
set_option maxRecDepth 100000 in
set_option maxHeartbeats 4000000 in
theorem t_L_go {h : PH} {Q : Res → PH → Prop} (hQ : ∀ x h, ¬ Q (.inr x) h)
    (T : (1 ≤ m_L_go.cap ∧ MetPM m_X11_go [.ref 0] h (rI (hnd Q (At m_L_go Q) 1 [some (.ref 0), some (.ref 147), none] [12, 2, 0, 0, 0, 0]) (fun x2 h1 => (vp_in (nI 0) 1 ∧ Q (.inl (some (.int (nI 0)))) (sl h1 147 (nI 0).toNatClampNeg (x2.toInt64))))))) :
    MetPM m_L_go [.ref 0, .ref 147] h Q := by
  exact met_of o_L_go (Nat.le_of_ble_eq_true rfl) (fun _ => hQ) (vg_ok k_L_go (stops := []) 62 0 0 _ [] h T)
set_option maxRecDepth 100000 in
set_option maxHeartbeats 4000000 in
theorem u_L_go_12 {h : PH} {Q : Res → PH → Prop}
    (T : Q (.inl (some (.int (nI 1)))) h) :
    At m_L_go Q 12 1 [some (.ref 0), some (.ref 147), none] [] h := by
  exact vg_ok k_L_go (stops := []) 62 12 1 _ _ h T
set_option maxRecDepth 100000 in
set_option maxHeartbeats 4000000 in
theorem t_X11_hold {p0 : Int32} {p1 : Int32} {h : PH} {Q : Res → PH → Prop}
    (T : (1 ≤ m_X11_hold.cap ∧ MetPM m_X11_needMember [.ref 0, .int p0] h (rV (hnd Q (At m_X11_hold Q) 1 [some (.ref 0), some (.int p0), some (.int p1)] []) (fun h1 => MetPM m_X11_isIn [.int (gi h1 60 8), .int p0] h1 (rI (hnd Q (At m_X11_hold Q) 1 [some (.ref 0), some (.int p0), some (.int p1)] []) (fun x3 h2 => ((¬ x3 = p1 → MetPM m_X4_keep [.ref 13, .ref 60] h2 (rV (hnd Q (At m_X11_hold Q) 1 [some (.ref 0), some (.int p0), some (.int p1)] []) (fun h4 => MetPM m_X8_setHeld [.ref 60, .int p0, .int p1] h4 (rI (hnd Q (At m_X11_hold Q) 1 [some (.ref 0), some (.int p0), some (.int p1)] []) (fun x6 h5 => Q (.inl (some (.int x6))) h5))))) ∧ (x3 = p1 → (1 + 1 ≤ m_X11_hold.cap ∧ Q (.inr 0) h2))))))))) :
    MetPM m_X11_hold [.ref 0, .int p0, .int p1] h Q := by
  exact met_of o_X11_hold (Nat.le_of_ble_eq_true rfl) (fun q => absurd rfl q) (vg_ok k_X11_hold (stops := []) 75 0 0 _ [] h T)
set_option maxRecDepth 100000 in
set_option maxHeartbeats 4000000 in
theorem t_L_hold {p1 : Int32} {p2 : Int32} {h : PH} {Q : Res → PH → Prop} (hQ : ∀ x h, ¬ Q (.inr x) h)
    (T : (2 ≤ m_L_hold.cap ∧ MetPM m_X11_hold [.ref 0, .int p1, .int p2] h (rI (hnd Q (At m_L_hold Q) 2 [some (.ref 0), some (.int p1), some (.int p2), some (.ref 147), none] [19, 4, 0, 0, 15, 4]) (fun x2 h1 => (vp_in (nI 0) 1 ∧ Q (.inl (some (.int (nI 0)))) (sl h1 147 (nI 0).toNatClampNeg (x2.toInt64))))))) :
    MetPM m_L_hold [.ref 0, .int p1, .int p2, .ref 147] h Q := by
  exact met_of o_L_hold (Nat.le_of_ble_eq_true rfl) (fun _ => hQ) (vg_ok k_L_hold (stops := []) 67 0 0 _ [] h T)
set_option maxRecDepth 100000 in
set_option maxHeartbeats 4000000 in
theorem u_L_hold_15 {v1 : Int32} {v2 : Int32} {h : PH} {Q : Res → PH → Prop}
    (T : Q (.inl (some (.int (nI 1)))) h) :
    At m_L_hold Q 15 2 [some (.ref 0), some (.int v1), some (.int v2), some (.ref 147), none] [] h := by
  exact vg_ok k_L_hold (stops := []) 67 15 2 _ _ h T
set_option maxRecDepth 100000 in
set_option maxHeartbeats 4000000 in
theorem u_L_hold_19 {v1 : Int32} {v2 : Int32} {h : PH} {Q : Res → PH → Prop}
    (T : Q (.inl (some (.int (nI 2)))) h) :
    At m_L_hold Q 19 2 [some (.ref 0), some (.int v1), some (.int v2), some (.ref 147), none] [] h := by
  exact vg_ok k_L_hold (stops := []) 67 19 2 _ _ h T
set_option maxRecDepth 100000 in
set_option maxHeartbeats 4000000 in
theorem t_X11_report {p0 : Int32} {p1 : Int32} {h : PH} {Q : Res → PH → Prop}
    (T : (1 ≤ m_X11_report.cap ∧ MetPM m_X11_needMember [.ref 0, .int p0] h (rV (hnd Q (At m_X11_report Q) 1 [some (.ref 0), some (.int p0), some (.int p1)] []) (fun h1 => (2 ≤ m_X11_report.cap ∧ MetPM m_X11_needMeasure [.int p1] h1 (rV (hnd Q (At m_X11_report Q) 2 [some (.ref 0), some (.int p0), some (.int p1)] []) (fun h2 => MetPM m_X8_isUp [.ref 60, .int p0] h2 (rI (hnd Q (At m_X11_report Q) 2 [some (.ref 0), some (.int p0), some (.int p1)] []) (fun x4 h3 => ((¬ x4 = 0 → MetPM m_X4_keep [.ref 13, .ref 60] h3 (rV (hnd Q (At m_X11_report Q) 2 [some (.ref 0), some (.int p0), some (.int p1)] []) (fun h5 => MetPM m_X8_setMeasure [.ref 60, .int p0, .int p1] h5 (rI (hnd Q (At m_X11_report Q) 2 [some (.ref 0), some (.int p0), some (.int p1)] []) (fun x7 h6 => Q (.inl (some (.int x7))) h6))))) ∧ (x4 = 0 → (2 + 1 ≤ m_X11_report.cap ∧ Q (.inr 0) h3)))))))))))) :
    MetPM m_X11_report [.ref 0, .int p0, .int p1] h Q := by
  exact met_of o_X11_report (Nat.le_of_ble_eq_true rfl) (fun q => absurd rfl q) (vg_ok k_X11_report (stops := []) 75 0 0 _ [] h T)
set_option maxRecDepth 100000 in
set_option maxHeartbeats 4000000 in
theorem t_L_report {p1 : Int32} {p2 : Int32} {h : PH} {Q : Res → PH → Prop} (hQ : ∀ x h, ¬ Q (.inr x) h)
    (T : (3 ≤ m_L_report.cap ∧ MetPM m_X11_report [.ref 0, .int p1, .int p2] h (rI (hnd Q (At m_L_report Q) 3 [some (.ref 0), some (.int p1), some (.int p2), some (.ref 147), none] [23, 4, 19, 4, 15, 4]) (fun x2 h1 => (vp_in (nI 0) 1 ∧ Q (.inl (some (.int (nI 0)))) (sl h1 147 (nI 0).toNatClampNeg (x2.toInt64))))))) :
    MetPM m_L_report [.ref 0, .int p1, .int p2, .ref 147] h Q := by
  exact met_of o_L_report (Nat.le_of_ble_eq_true rfl) (fun _ => hQ) (vg_ok k_L_report (stops := []) 70 0 0 _ [] h T)
set_option maxRecDepth 100000 in
set_option maxHeartbeats 4000000 in
theorem u_L_report_15 {v1 : Int32} {v2 : Int32} {h : PH} {Q : Res → PH → Prop}
    (T : Q (.inl (some (.int (nI 1)))) h) :
    At m_L_report Q 15 3 [some (.ref 0), some (.int v1), some (.int v2), some (.ref 147), none] [] h := by
  exact vg_ok k_L_report (stops := []) 70 15 3 _ _ h T
set_option maxRecDepth 100000 in
set_option maxHeartbeats 4000000 in
theorem u_L_report_19 {v1 : Int32} {v2 : Int32} {h : PH} {Q : Res → PH → Prop}
    (T : Q (.inl (some (.int (nI 2)))) h) :
    At m_L_report Q 19 3 [some (.ref 0), some (.int v1), some (.int v2), some (.ref 147), none] [] h := by
  exact vg_ok k_L_report (stops := []) 70 19 3 _ _ h T
set_option maxRecDepth 100000 in
set_option maxHeartbeats 4000000 in
theorem u_L_report_23 {v1 : Int32} {v2 : Int32} {h : PH} {Q : Res → PH → Prop}
    (T : Q (.inl (some (.int (nI 3)))) h) :
    At m_L_report Q 23 3 [some (.ref 0), some (.int v1), some (.int v2), some (.ref 147), none] [] h := by
  exact vg_ok k_L_report (stops := []) 70 23 3 _ _ h T
set_option maxRecDepth 100000 in
set_option maxHeartbeats 4000000 in
theorem t_X11_change {p0 : Int32} {p1 : Int32} {h : PH} {Q : Res → PH → Prop}
    (T : (1 ≤ m_X11_change.cap ∧ MetPM m_X11_needMember [.ref 0, .int p0] h (rV (hnd Q (At m_X11_change Q) 1 [some (.ref 0), some (.int p0), some (.int p1)] []) (fun h1 => (2 ≤ m_X11_change.cap ∧ MetPM m_X11_needVersion [.ref 0, .int p1] h1 (rV (hnd Q (At m_X11_change Q) 2 [some (.ref 0), some (.int p0), some (.int p1)] []) (fun h2 => MetPM m_X8_whyNotBegin [.ref 60, .int p0, .int p1] h2 (rI (hnd Q (At m_X11_change Q) 2 [some (.ref 0), some (.int p0), some (.int p1)] []) (fun x4 h3 => ((x4 = 0 → MetPM m_X4_keep [.ref 13, .ref 60] h3 (rV (hnd Q (At m_X11_change Q) 2 [some (.ref 0), some (.int p0), some (.int p1)] []) (fun h5 => MetPM m_X8_beginChange [.ref 60, .int p0, .int p1] h5 (rI (hnd Q (At m_X11_change Q) 2 [some (.ref 0), some (.int p0), some (.int p1)] []) (fun x7 h6 => Q (.inl (some (.int x7))) h6))))) ∧ (¬ x4 = 0 → (2 + 1 ≤ m_X11_change.cap ∧ Q (.inr 0) h3)))))))))))) :
    MetPM m_X11_change [.ref 0, .int p0, .int p1] h Q := by
  exact met_of o_X11_change (Nat.le_of_ble_eq_true rfl) (fun q => absurd rfl q) (vg_ok k_X11_change (stops := []) 77 0 0 _ [] h T)
set_option maxRecDepth 100000 in
set_option maxHeartbeats 4000000 in
theorem t_L_change {p1 : Int32} {p2 : Int32} {h : PH} {Q : Res → PH → Prop} (hQ : ∀ x h, ¬ Q (.inr x) h)
    (T : (3 ≤ m_L_change.cap ∧ MetPM m_X11_change [.ref 0, .int p1, .int p2] h (rI (hnd Q (At m_L_change Q) 3 [some (.ref 0), some (.int p1), some (.int p2), some (.ref 147), none] [19, 4, 0, 0, 15, 4]) (fun x2 h1 => (vp_in (nI 0) 1 ∧ Q (.inl (some (.int (nI 0)))) (sl h1 147 (nI 0).toNatClampNeg (x2.toInt64))))))) :
    MetPM m_L_change [.ref 0, .int p1, .int p2, .ref 147] h Q := by
  exact met_of o_L_change (Nat.le_of_ble_eq_true rfl) (fun _ => hQ) (vg_ok k_L_change (stops := []) 67 0 0 _ [] h T)
set_option maxRecDepth 100000 in
set_option maxHeartbeats 4000000 in
theorem u_L_change_15 {v1 : Int32} {v2 : Int32} {h : PH} {Q : Res → PH → Prop}
    (T : Q (.inl (some (.int (nI 1)))) h) :
    At m_L_change Q 15 3 [some (.ref 0), some (.int v1), some (.int v2), some (.ref 147), none] [] h := by
  exact vg_ok k_L_change (stops := []) 67 15 3 _ _ h T
set_option maxRecDepth 100000 in
set_option maxHeartbeats 4000000 in
theorem u_L_change_19 {v1 : Int32} {v2 : Int32} {h : PH} {Q : Res → PH → Prop}
    (T : Q (.inl (some (.int (nI 2)))) h) :
    At m_L_change Q 19 3 [some (.ref 0), some (.int v1), some (.int v2), some (.ref 147), none] [] h := by
  exact vg_ok k_L_change (stops := []) 67 19 3 _ _ h T
set_option maxRecDepth 100000 in
set_option maxHeartbeats 4000000 in
theorem t_X11_commit {p0 : Int32} {h : PH} {Q : Res → PH → Prop}
    (T : (1 ≤ m_X11_commit.cap ∧ MetPM m_X11_needFormat [.int p0] h (rV (hnd Q (At m_X11_commit Q) 1 [some (.ref 0), some (.int p0)] []) (fun h1 => MetPM m_X8_whyNotFormat [.ref 60, .int p0] h1 (rI (hnd Q (At m_X11_commit Q) 1 [some (.ref 0), some (.int p0)] []) (fun x3 h2 => ((x3 = 0 → MetPM m_X4_keep [.ref 13, .ref 60] h2 (rV (hnd Q (At m_X11_commit Q) 1 [some (.ref 0), some (.int p0)] []) (fun h4 => MetPM m_X8_setFormat [.ref 60, .int p0] h4 (rI (hnd Q (At m_X11_commit Q) 1 [some (.ref 0), some (.int p0)] []) (fun x6 h5 => Q (.inl (some (.int x6))) h5))))) ∧ (¬ x3 = 0 → (1 + 1 ≤ m_X11_commit.cap ∧ Q (.inr 0) h2))))))))) :
    MetPM m_X11_commit [.ref 0, .int p0] h Q := by
  exact met_of o_X11_commit (Nat.le_of_ble_eq_true rfl) (fun q => absurd rfl q) (vg_ok k_X11_commit (stops := []) 71 0 0 _ [] h T)
set_option maxRecDepth 100000 in
set_option maxHeartbeats 4000000 in
theorem t_L_commit {p1 : Int32} {h : PH} {Q : Res → PH → Prop} (hQ : ∀ x h, ¬ Q (.inr x) h)
    (T : (2 ≤ m_L_commit.cap ∧ MetPM m_X11_commit [.ref 0, .int p1] h (rI (hnd Q (At m_L_commit Q) 2 [some (.ref 0), some (.int p1), some (.ref 147), none] [16, 3, 13, 3, 0, 0]) (fun x2 h1 => (vp_in (nI 0) 1 ∧ Q (.inl (some (.int (nI 0)))) (sl h1 147 (nI 0).toNatClampNeg (x2.toInt64))))))) :
    MetPM m_L_commit [.ref 0, .int p1, .ref 147] h Q := by
  exact met_of o_L_commit (Nat.le_of_ble_eq_true rfl) (fun _ => hQ) (vg_ok k_L_commit (stops := []) 66 0 0 _ [] h T)
set_option maxRecDepth 100000 in
set_option maxHeartbeats 4000000 in
theorem u_L_commit_13 {v1 : Int32} {h : PH} {Q : Res → PH → Prop}
    (T : Q (.inl (some (.int (nI 1)))) h) :
    At m_L_commit Q 13 2 [some (.ref 0), some (.int v1), some (.ref 147), none] [] h := by
  exact vg_ok k_L_commit (stops := []) 66 13 2 _ _ h T
set_option maxRecDepth 100000 in
set_option maxHeartbeats 4000000 in
theorem u_L_commit_16 {v1 : Int32} {h : PH} {Q : Res → PH → Prop}
    (T : Q (.inl (some (.int (nI 2)))) h) :
    At m_L_commit Q 16 2 [some (.ref 0), some (.int v1), some (.ref 147), none] [] h := by
  exact vg_ok k_L_commit (stops := []) 66 16 2 _ _ h T
set_option maxRecDepth 100000 in
set_option maxHeartbeats 4000000 in
theorem t_X11_writeByte {p0 : Int32} {h : PH} {Q : Res → PH → Prop}
    (T : (((nI 336) ≤ (gi h 0 10) → Q (.inl none) h) ∧ (¬ (nI 336) ≤ (gi h 0 10) → (vp_in (gi h 0 10) 336 ∧ (let h1 : PH := (si (si h 3 (gi h 0 10).toNatClampNeg (p0.toInt8.toInt32).toInt8.toInt32) 0 10 ((gi (si h 3 (gi h 0 10).toNatClampNeg (p0.toInt8.toInt32).toInt8.toInt32) 0 10) + (nI 1))); Q (.inl none) h1))))) :
    MetPM m_X11_writeByte [.ref 0, .int p0] h Q := by
  exact met_of o_X11_writeByte (Nat.le_of_ble_eq_true rfl) (fun q => absurd rfl q) (vg_ok k_X11_writeByte (stops := []) 70 0 0 _ [] h T)
set_option maxRecDepth 100000 in
set_option maxHeartbeats 4000000 in
theorem t_X11_writeName {p0 : Int64} {h : PH} {Q : Res → PH → Prop}
    (T : At m_X11_writeName Q 3 0 [some (.ref 0), some (.long p0), none, some (.int (nI 56)), none] [] h) :
    MetPM m_X11_writeName [.ref 0, .long p0] h Q := by
  exact met_of o_X11_writeName (Nat.le_of_ble_eq_true rfl) (fun q => absurd rfl q) (vg_ok k_X11_writeName (stops := [3]) 69 0 0 _ [] h T)
set_option maxRecDepth 100000 in
set_option maxHeartbeats 4000000 in
theorem u_X11_writeName_3 {v1 : Int64} {v3 : Int32} {o4 : Option Value} {h : PH} {Q : Res → PH → Prop}
    (T : ((v3 < 0 → Q (.inl none) h) ∧ (¬ v3 < 0 → (((((v1 >>> (v3.toInt64 &&& 63)).toInt32) &&& (nI 255)) = 0 → At m_X11_writeName Q 3 0 [some (.ref 0), some (.long v1), none, some (.int (v3 + (-(nI 8)))), some (.int (((v1 >>> (v3.toInt64 &&& 63)).toInt32) &&& (nI 255)))] [] h) ∧ (¬ (((v1 >>> (v3.toInt64 &&& 63)).toInt32) &&& (nI 255)) = 0 → MetPM m_X11_writeByte [.ref 0, .int (((v1 >>> (v3.toInt64 &&& 63)).toInt32) &&& (nI 255))] h (rV (hnd Q (At m_X11_writeName Q) 0 [some (.ref 0), some (.long v1), none, some (.int v3), some (.int (((v1 >>> (v3.toInt64 &&& 63)).toInt32) &&& (nI 255)))] []) (fun h1 => At m_X11_writeName Q 3 0 [some (.ref 0), some (.long v1), none, some (.int (v3 + (-(nI 8)))), some (.int (((v1 >>> (v3.toInt64 &&& 63)).toInt32) &&& (nI 255)))] [] h1))))))) :
    At m_X11_writeName Q 3 0 [some (.ref 0), some (.long v1), none, some (.int v3), o4] [] h := by
  exact vg_ok k_X11_writeName (stops := [3]) 69 3 0 _ _ h T
set_option maxRecDepth 100000 in
set_option maxHeartbeats 4000000 in
theorem t_X11_writeReport {h : PH} {Q : Res → PH → Prop}
    (T : At m_X11_writeReport Q 7 0 [some (.ref 0), some (.int (nI 0))] [] (si h 0 10 (nI 0))) :
    MetPM m_X11_writeReport [.ref 0] h Q := by
  exact met_of o_X11_writeReport (Nat.le_of_ble_eq_true rfl) (fun q => absurd rfl q) (vg_ok k_X11_writeReport (stops := [7, 117, 137]) 122 0 0 _ [] h T)
set_option maxRecDepth 100000 in
set_option maxHeartbeats 4000000 in
theorem u_X11_writeReport_7 {v1 : Int32} {h : PH} {Q : Res → PH → Prop}
    (T : (((gi h 26 1) ≤ v1 → Q (.inl (some (.int (gi h 0 10)))) h) ∧ (¬ (gi h 26 1) ≤ v1 → MetPM m_X6_nameOf [.ref 26, .int v1] h (rL (hnd Q (At m_X11_writeReport Q) 0 [some (.ref 0), some (.int v1)] []) (fun x2 h1 => MetPM m_X11_writeName [.ref 0, .long x2] h1 (rV (hnd Q (At m_X11_writeReport Q) 0 [some (.ref 0), some (.int v1)] []) (fun h3 => MetPM m_X11_writeByte [.ref 0, .int (nI 32)] h3 (rV (hnd Q (At m_X11_writeReport Q) 0 [some (.ref 0), some (.int v1)] []) (fun h4 => (vp_in v1 12 ∧ MetPM m_X6_nameOf [.ref 16, .int (gi h4 61 v1.toNatClampNeg)] h4 (rL (hnd Q (At m_X11_writeReport Q) 0 [some (.ref 0), some (.int v1)] []) (fun x6 h5 => MetPM m_X11_writeName [.ref 0, .long x6] h5 (rV (hnd Q (At m_X11_writeReport Q) 0 [some (.ref 0), some (.int v1)] []) (fun h7 => MetPM m_X8_isUp [.ref 60, .int v1] h7 (rI (hnd Q (At m_X11_writeReport Q) 0 [some (.ref 0), some (.int v1)] []) (fun x9 h8 => ((¬ x9 = 0 → At m_X11_writeReport Q 117 0 [some (.ref 0), some (.int v1)] [] h8) ∧ (x9 = 0 → MetPM m_X11_writeByte [.ref 0, .int (nI 62)] h8 (rV (hnd Q (At m_X11_writeReport Q) 0 [some (.ref 0), some (.int v1)] []) (fun h10 => (vp_in v1 12 ∧ MetPM m_X6_nameOf [.ref 16, .int (gi h10 62 v1.toNatClampNeg)] h10 (rL (hnd Q (At m_X11_writeReport Q) 0 [some (.ref 0), some (.int v1)] []) (fun x12 h11 => MetPM m_X11_writeName [.ref 0, .long x12] h11 (rV (hnd Q (At m_X11_writeReport Q) 0 [some (.ref 0), some (.int v1)] []) (fun h13 => At m_X11_writeReport Q 117 0 [some (.ref 0), some (.int v1)] [] h13))))))))))))))))))))))))) :
    At m_X11_writeReport Q 7 0 [some (.ref 0), some (.int v1)] [] h := by
  exact vg_ok k_X11_writeReport (stops := [7, 117, 137]) 122 7 0 _ _ h T
set_option maxRecDepth 100000 in
set_option maxHeartbeats 4000000 in
theorem u_X11_writeReport_117 {v1 : Int32} {h : PH} {Q : Res → PH → Prop}
    (T : MetPM m_X11_isIn [.int (gi h 60 8), .int v1] h (rI (hnd Q (At m_X11_writeReport Q) 0 [some (.ref 0), some (.int v1)] []) (fun x2 h1 => ((x2 = 0 → At m_X11_writeReport Q 137 0 [some (.ref 0), some (.int v1)] [] h1) ∧ (¬ x2 = 0 → MetPM m_X11_writeByte [.ref 0, .int (nI 33)] h1 (rV (hnd Q (At m_X11_writeReport Q) 0 [some (.ref 0), some (.int v1)] []) (fun h3 => At m_X11_writeReport Q 137 0 [some (.ref 0), some (.int v1)] [] h3))))))) :
    At m_X11_writeReport Q 117 0 [some (.ref 0), some (.int v1)] [] h := by
  exact vg_ok k_X11_writeReport (stops := [7, 117, 137]) 122 117 0 _ _ h T
set_option maxRecDepth 100000 in
set_option maxHeartbeats 4000000 in
theorem u_X11_writeReport_137 {v1 : Int32} {h : PH} {Q : Res → PH → Prop}
    (T : MetPM m_X11_writeByte [.ref 0, .int (nI 10)] h (rV (hnd Q (At m_X11_writeReport Q) 0 [some (.ref 0), some (.int v1)] []) (fun h1 => At m_X11_writeReport Q 7 0 [some (.ref 0), some (.int (v1 + (nI 1)))] [] h1))) :
    At m_X11_writeReport Q 137 0 [some (.ref 0), some (.int v1)] [] h := by
  exact vg_ok k_X11_writeReport (stops := [7, 117, 137]) 122 137 0 _ _ h T
set_option maxRecDepth 100000 in
set_option maxHeartbeats 4000000 in
theorem t_X11_reportByte {p0 : Int32} {h : PH} {Q : Res → PH → Prop}
    (T : ((p0 < 0 → (0 + 1 ≤ m_X11_reportByte.cap ∧ Q (.inr 2) h)) ∧ (¬ p0 < 0 → ((p0 < (gi h 0 10) → (vp_in p0 336 ∧ Q (.inl (some (.int (gi h 3 p0.toNatClampNeg)))) h)) ∧ (¬ p0 < (gi h 0 10) → (0 + 1 ≤ m_X11_reportByte.cap ∧ Q (.inr 2) h)))))) :
    MetPM m_X11_reportByte [.ref 0, .int p0] h Q := by
  exact met_of o_X11_reportByte (Nat.le_of_ble_eq_true rfl) (fun q => absurd rfl q) (vg_ok k_X11_reportByte (stops := []) 65 0 0 _ [] h T)
set_option maxRecDepth 100000 in
set_option maxHeartbeats 4000000 in
theorem t_L_reportByte {p1 : Int32} {h : PH} {Q : Res → PH → Prop} (hQ : ∀ x h, ¬ Q (.inr x) h)
    (T : (1 ≤ m_L_reportByte.cap ∧ MetPM m_X11_reportByte [.ref 0, .int p1] h (rI (hnd Q (At m_L_reportByte Q) 1 [some (.ref 0), some (.int p1), some (.ref 147), none] [0, 0, 0, 0, 13, 3]) (fun x2 h1 => (vp_in (nI 0) 1 ∧ Q (.inl (some (.int (nI 0)))) (sl h1 147 (nI 0).toNatClampNeg (x2.toInt64))))))) :
    MetPM m_L_reportByte [.ref 0, .int p1, .ref 147] h Q := by
  exact met_of o_L_reportByte (Nat.le_of_ble_eq_true rfl) (fun _ => hQ) (vg_ok k_L_reportByte (stops := []) 63 0 0 _ [] h T)
set_option maxRecDepth 100000 in
set_option maxHeartbeats 4000000 in
theorem u_L_reportByte_13 {v1 : Int32} {h : PH} {Q : Res → PH → Prop}
    (T : Q (.inl (some (.int (nI 1)))) h) :
    At m_L_reportByte Q 13 1 [some (.ref 0), some (.int v1), some (.ref 147), none] [] h := by
  exact vg_ok k_L_reportByte (stops := []) 63 13 1 _ _ h T
set_option maxRecDepth 100000 in
set_option maxHeartbeats 4000000 in
theorem t_X11_undo {h : PH} {Q : Res → PH → Prop}
    (T : ((¬ (gi h 13 1) = 0 → MetPM m_X4_takeBack [.ref 13, .ref 60] h (rV (hnd Q (At m_X11_undo Q) 0 [some (.ref 0)] []) (fun h1 => Q (.inl (some (.int (gi h1 13 1)))) h1))) ∧ ((gi h 13 1) = 0 → Q (.inl (some (.int (-(nI 1))))) h))) :
    MetPM m_X11_undo [.ref 0] h Q := by
  exact met_of o_X11_undo (Nat.le_of_ble_eq_true rfl) (fun q => absurd rfl q) (vg_ok k_X11_undo (stops := []) 65 0 0 _ [] h T)
set_option maxRecDepth 100000 in
set_option maxHeartbeats 4000000 in
theorem t_X11_save {h : PH} {Q : Res → PH → Prop}
    (T : MetPM m_X8_replaceBy [.ref 81, .ref 60] h (rV (hnd Q (At m_X11_save Q) 0 [some (.ref 0)] []) (fun h1 => (isB (nI 1) ∧ Q (.inl (some (.int (gi (si h1 0 5 (nI 1)) 60 1)))) (si h1 0 5 (nI 1)))))) :
    MetPM m_X11_save [.ref 0] h Q := by
  exact met_of o_X11_save (Nat.le_of_ble_eq_true rfl) (fun q => absurd rfl q) (vg_ok k_X11_save (stops := []) 62 0 0 _ [] h T)
set_option maxRecDepth 100000 in
set_option maxHeartbeats 4000000 in
theorem t_X11_restore {h : PH} {Q : Res → PH → Prop}
    (T : ((¬ (gi h 0 5) = 0 → MetPM m_X8_replaceBy [.ref 60, .ref 81] h (rV (hnd Q (At m_X11_restore Q) 0 [some (.ref 0)] []) (fun h1 => MetPM m_X4_forget [.ref 13] h1 (rV (hnd Q (At m_X11_restore Q) 0 [some (.ref 0)] []) (fun h2 => Q (.inl (some (.int (gi h2 60 1)))) h2))))) ∧ ((gi h 0 5) = 0 → (0 + 1 ≤ m_X11_restore.cap ∧ Q (.inr 0) h)))) :
    MetPM m_X11_restore [.ref 0] h Q := by
  exact met_of o_X11_restore (Nat.le_of_ble_eq_true rfl) (fun q => absurd rfl q) (vg_ok k_X11_restore (stops := []) 69 0 0 _ [] h T)
set_option maxRecDepth 100000 in
set_option maxHeartbeats 4000000 in
theorem t_L_restore {h : PH} {Q : Res → PH → Prop} (hQ : ∀ x h, ¬ Q (.inr x) h)
    (T : (1 ≤ m_L_restore.cap ∧ MetPM m_X11_restore [.ref 0] h (rI (hnd Q (At m_L_restore Q) 1 [some (.ref 0), some (.ref 147), none] [12, 2, 0, 0, 0, 0]) (fun x2 h1 => (vp_in (nI 0) 1 ∧ Q (.inl (some (.int (nI 0)))) (sl h1 147 (nI 0).toNatClampNeg (x2.toInt64))))))) :
    MetPM m_L_restore [.ref 0, .ref 147] h Q := by
  exact met_of o_L_restore (Nat.le_of_ble_eq_true rfl) (fun _ => hQ) (vg_ok k_L_restore (stops := []) 62 0 0 _ [] h T)
set_option maxRecDepth 100000 in
set_option maxHeartbeats 4000000 in
theorem u_L_restore_12 {h : PH} {Q : Res → PH → Prop}
    (T : Q (.inl (some (.int (nI 1)))) h) :
    At m_L_restore Q 12 1 [some (.ref 0), some (.ref 147), none] [] h := by
  exact vg_ok k_L_restore (stops := []) 62 12 1 _ _ h T
