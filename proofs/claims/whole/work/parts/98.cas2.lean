/-! ===== the law, case by case: questions that may be refused ===== -/
section
variable {h : PH} {z : FI} {C E c i n : Nat} {o6 o7 o8 : Option Value}
theorem L_534 (I : Inv z C E h) (B : LB z C E c i n) (G : GO z C E c i) : At m_L_law QL 534 c (LLs (nI i) o6 o7 o8) [] h := by
  have Z := I.iz
  refine u_L_law_534 ⟨vpS Z B (by omega), capL B (by omega), ?_⟩
  rw [a999 Z B (show 1 < 6 by omega)]
  refine t_L_setting hQI ⟨Nat.le_of_ble_eq_true rfl, c_setting I.ic.2 (fun e => u_L_setting_13 (ret1 ⟨vpS Z B (by omega), ?_⟩)) (fun e => ⟨vp_in_nI (by omega) (by omega), ret1 ⟨vpS Z B (by omega), ?_⟩⟩)⟩
  · rw [a999 Z B (show 1 < 6 by omega)]
    exact s_setting (s := h.1 132) rfl (fun _ => tl_no (k := 1) (by omega) gi_same (G.go (by omega) (I.fz FZ0) (by omega) (by omega))) (fun y => by rw [e] at y; cases y)
  · rw [a999s Z B (show 1 < 6 by omega)]
    exact s_setting (s := h.1 132) rfl (fun y => by rw [e] at y; cases y) (fun _ => tl_ok gi_same okLs (G.go (by omega) (I.fz (FZL.trans FZ0)) (by omega) (by omega)))
theorem L_590 (I : Inv z C E h) (B : LB z C E c i n) (G : GO z C E c i) : At m_L_law QL 590 c (LLs (nI i) o6 o7 o8) [] h := by
  have Z := I.iz
  refine u_L_law_590 ⟨vpS Z B (by omega), vpS Z B (by omega), capL B (by omega), ?_⟩
  rw [a999 Z B (show 1 < 6 by omega)]
  rw [a999 Z B (show 2 < 6 by omega)]
  refine t_L_mayTalk hQI ⟨Nat.le_of_ble_eq_true rfl, c_mayTalk I.ic.1 I.ic.2 (fun e => u_L_mayTalk_22 (ret1 ⟨vpS Z B (by omega), vpS Z B (by omega), ?_⟩)) (fun e => bq (fun eb => ⟨vp_in_nI (by omega) (by omega), ret1 ⟨vpS Z B (by omega), vpS Z B (by omega), ?_⟩⟩) (fun eb => ⟨vp_in_nI (by omega) (by omega), ret1 ⟨vpS Z B (by omega), vpS Z B (by omega), ?_⟩⟩))⟩
  · rw [a999 Z B (show 1 < 6 by omega)]
    rw [a999 Z B (show 2 < 6 by omega)]
    exact s_mayTalk I.ic.1 (s := h.1 132) rfl (fun _ => tl_no (k := 1) (by omega) gi_same (G.go (by omega) (I.fz FZ0) (by omega) (by omega))) (fun y => by rw [e] at y; cases y)
  · rw [a999s Z B (show 1 < 6 by omega)]
    rw [a999s Z B (show 2 < 6 by omega)]
    exact s_mayTalk I.ic.1 (s := h.1 132) rfl (fun y => by rw [e] at y; cases y) (fun _ => tl_okb gi_same (okLs.trans (by rw [eb]; rfl)) (G.go (by omega) (I.fz (FZL.trans FZ0)) (by omega) (by omega)))
  · rw [a999s Z B (show 1 < 6 by omega)]
    rw [a999s Z B (show 2 < 6 by omega)]
    exact s_mayTalk I.ic.1 (s := h.1 132) rfl (fun y => by rw [e] at y; cases y) (fun _ => tl_okb gi_same (okLs.trans (by rw [eb]; rfl)) (G.go (by omega) (I.fz (FZL.trans FZ0)) (by omega) (by omega)))
theorem L_665 (I : Inv z C E h) (B : LB z C E c i n) (G : GO z C E c i) : At m_L_law QL 665 c (LLs (nI i) o6 o7 o8) [] h := by
  have Z := I.iz
  refine u_L_law_665 ⟨vpS Z B (by omega), capL B (by omega), ?_⟩
  rw [a999 Z B (show 1 < 6 by omega)]
  refine t_L_readers hQI ⟨Nat.le_of_ble_eq_true rfl, c_readers I.ic.1 I.ic.2 (fun e => u_L_readers_13 (ret1 ⟨vpS Z B (by omega), ?_⟩)) (fun e => ⟨vp_in_nI (by omega) (by omega), ret1 ⟨vpS Z B (by omega), ?_⟩⟩)⟩
  · rw [a999 Z B (show 1 < 6 by omega)]
    exact s_readers I.ic.1 (s := h.1 132) rfl (fun _ => tl_no (k := 1) (by omega) gi_same (G.go (by omega) (I.fz FZ0) (by omega) (by omega))) (fun y => by rw [e] at y; cases y)
  · rw [a999s Z B (show 1 < 6 by omega)]
    exact s_readers I.ic.1 (s := h.1 132) rfl (fun y => by rw [e] at y; cases y) (fun _ => tl_ok gi_same okLs (G.go (by omega) (I.fz (FZL.trans FZ0)) (by omega) (by omega)))
theorem L_721 (I : Inv z C E h) (B : LB z C E c i n) (G : GO z C E c i) : At m_L_law QL 721 c (LLs (nI i) o6 o7 o8) [] h := by
  have Z := I.iz
  refine u_L_law_721 ⟨vpS Z B (by omega), capL B (by omega), ?_⟩
  rw [a999 Z B (show 1 < 6 by omega)]
  refine t_L_talkers hQI ⟨Nat.le_of_ble_eq_true rfl, c_talkers I.ic.1 I.ic.2 (fun e => u_L_talkers_13 (ret1 ⟨vpS Z B (by omega), ?_⟩)) (fun e => ⟨vp_in_nI (by omega) (by omega), ret1 ⟨vpS Z B (by omega), ?_⟩⟩)⟩
  · rw [a999 Z B (show 1 < 6 by omega)]
    exact s_talkers I.ic.1 (s := h.1 132) rfl (fun _ => tl_no (k := 1) (by omega) gi_same (G.go (by omega) (I.fz FZ0) (by omega) (by omega))) (fun y => by rw [e] at y; cases y)
  · rw [a999s Z B (show 1 < 6 by omega)]
    exact s_talkers I.ic.1 (s := h.1 132) rfl (fun y => by rw [e] at y; cases y) (fun _ => tl_ok gi_same okLs (G.go (by omega) (I.fz (FZL.trans FZ0)) (by omega) (by omega)))
theorem L_777 (I : Inv z C E h) (B : LB z C E c i n) (G : GO z C E c i) : At m_L_law QL 777 c (LLs (nI i) o6 o7 o8) [] h := by
  have Z := I.iz
  refine u_L_law_777 ⟨vpS Z B (by omega), vpS Z B (by omega), capL B (by omega), ?_⟩
  rw [a999 Z B (show 1 < 6 by omega)]
  rw [a999 Z B (show 2 < 6 by omega)]
  refine t_L_wayOf hQI ⟨Nat.le_of_ble_eq_true rfl, c_wayOf I.ic.1 I.ic.2 (fun e => u_L_wayOf_15 (ret1 ⟨vpS Z B (by omega), vpS Z B (by omega), ?_⟩)) (fun e => ⟨vp_in_nI (by omega) (by omega), ret1 ⟨vpS Z B (by omega), vpS Z B (by omega), ?_⟩⟩)⟩
  · rw [a999 Z B (show 1 < 6 by omega)]
    rw [a999 Z B (show 2 < 6 by omega)]
    exact s_wayOf I.ic.1 (s := h.1 132) rfl (fun _ => tl_no (k := 1) (by omega) gi_same (G.go (by omega) (I.fz FZ0) (by omega) (by omega))) (fun y => by rw [e] at y; cases y)
  · rw [a999s Z B (show 1 < 6 by omega)]
    rw [a999s Z B (show 2 < 6 by omega)]
    exact s_wayOf I.ic.1 (s := h.1 132) rfl (fun y => by rw [e] at y; cases y) (fun _ h2 f2 => tl_ok ((f2.1 130 0 rfl).trans gi_same) (okF f2) (G.go (by omega) (I.fz ((FZL.trans FZ0).trans (FZf f2))) (by omega) (by omega)))
theorem L_845 (I : Inv z C E h) (B : LB z C E c i n) (G : GO z C E c i) : At m_L_law QL 845 c (LLs (nI i) o6 o7 o8) [] h := by
  have Z := I.iz
  refine u_L_law_845 ⟨vpS Z B (by omega), vpS Z B (by omega), capL B (by omega), ?_⟩
  rw [a999 Z B (show 1 < 6 by omega)]
  rw [a999 Z B (show 2 < 6 by omega)]
  refine t_L_nextOnWay hQI ⟨Nat.le_of_ble_eq_true rfl, c_nextOnWay I.ic.1 I.ic.2 (fun e => u_L_nextOnWay_15 (ret1 ⟨vpS Z B (by omega), vpS Z B (by omega), ?_⟩)) (fun e => ⟨vp_in_nI (by omega) (by omega), ret1 ⟨vpS Z B (by omega), vpS Z B (by omega), ?_⟩⟩)⟩
  · rw [a999 Z B (show 1 < 6 by omega)]
    rw [a999 Z B (show 2 < 6 by omega)]
    exact s_nextOnWay I.ic.1 (s := h.1 132) rfl (fun _ => tl_no (k := 1) (by omega) gi_same (G.go (by omega) (I.fz FZ0) (by omega) (by omega))) (fun y => by rw [e] at y; cases y)
  · rw [a999s Z B (show 1 < 6 by omega)]
    rw [a999s Z B (show 2 < 6 by omega)]
    exact s_nextOnWay I.ic.1 (s := h.1 132) rfl (fun y => by rw [e] at y; cases y) (fun _ h2 f2 => tl_ok ((f2.1 130 0 rfl).trans gi_same) (okF f2) (G.go (by omega) (I.fz ((FZL.trans FZ0).trans (FZf f2))) (by omega) (by omega)))
theorem L_913 (I : Inv z C E h) (B : LB z C E c i n) (G : GO z C E c i) : At m_L_law QL 913 c (LLs (nI i) o6 o7 o8) [] h := by
  have Z := I.iz
  refine u_L_law_913 ⟨vpS Z B (by omega), vpS Z B (by omega), capL B (by omega), ?_⟩
  rw [a999 Z B (show 1 < 6 by omega)]
  rw [a999 Z B (show 2 < 6 by omega)]
  refine t_L_member hQI ⟨Nat.le_of_ble_eq_true rfl, c_member I.ic.1 I.ic.2 (fun e => u_L_member_15 (ret1 ⟨vpS Z B (by omega), vpS Z B (by omega), ?_⟩)) (fun e e2 => u_L_member_19 (ret1 ⟨vpS Z B (by omega), vpS Z B (by omega), ?_⟩)) (fun e e2 => ⟨vp_in_nI (by omega) (by omega), ret1 ⟨vpS Z B (by omega), vpS Z B (by omega), ?_⟩⟩)⟩
  · rw [a999 Z B (show 1 < 6 by omega)]
    rw [a999 Z B (show 2 < 6 by omega)]
    exact s_member I.ic.1 (s := h.1 132) rfl (fun _ => tl_no (k := 1) (by omega) gi_same (G.go (by omega) (I.fz FZ0) (by omega) (by omega))) (fun y => by rw [e] at y; cases y) (fun y => by rw [e] at y; cases y)
  · rw [a999 Z B (show 1 < 6 by omega)]
    rw [a999 Z B (show 2 < 6 by omega)]
    exact s_member I.ic.1 (s := h.1 132) rfl (fun y => by rw [e] at y; cases y) (fun _ _ => tl_no (k := 2) (by omega) gi_same (G.go (by omega) (I.fz FZ0) (by omega) (by omega))) (fun _ y => by rw [e2] at y; cases y)
  · rw [a999s Z B (show 1 < 6 by omega)]
    rw [a999s Z B (show 2 < 6 by omega)]
    exact s_member I.ic.1 (s := h.1 132) rfl (fun y => by rw [e] at y; cases y) (fun _ y => by rw [e2] at y; cases y) (fun _ _ => tl_ok gi_same okLs (G.go (by omega) (I.fz (FZL.trans FZ0)) (by omega) (by omega)))
theorem L_981 (I : Inv z C E h) (B : LB z C E c i n) (G : GO z C E c i) : At m_L_law QL 981 c (LLs (nI i) o6 o7 o8) [] h := by
  have Z := I.iz
  refine u_L_law_981 ⟨vpS Z B (by omega), capL B (by omega), ?_⟩
  rw [a999 Z B (show 1 < 6 by omega)]
  refine t_L_partners hQI ⟨Nat.le_of_ble_eq_true rfl, c_partners I.ic.1 I.ic.2 (fun e => u_L_partners_13 (ret1 ⟨vpS Z B (by omega), ?_⟩)) (fun e => ⟨vp_in_nI (by omega) (by omega), ret1 ⟨vpS Z B (by omega), ?_⟩⟩)⟩
  · rw [a999 Z B (show 1 < 6 by omega)]
    exact s_partners I.ic.1 (s := h.1 132) rfl (fun _ => tl_no (k := 1) (by omega) gi_same (G.go (by omega) (I.fz FZ0) (by omega) (by omega))) (fun y => by rw [e] at y; cases y)
  · rw [a999s Z B (show 1 < 6 by omega)]
    exact s_partners I.ic.1 (s := h.1 132) rfl (fun y => by rw [e] at y; cases y) (fun _ => tl_ok gi_same okLs (G.go (by omega) (I.fz (FZL.trans FZ0)) (by omega) (by omega)))
theorem L_1037 (I : Inv z C E h) (B : LB z C E c i n) (G : GO z C E c i) : At m_L_law QL 1037 c (LLs (nI i) o6 o7 o8) [] h := by
  have Z := I.iz
  refine u_L_law_1037 ⟨vpS Z B (by omega), capL B (by omega), ?_⟩
  rw [a999 Z B (show 1 < 6 by omega)]
  refine t_L_with hQI ⟨Nat.le_of_ble_eq_true rfl, c_with I.ic.1 I.ic.2 (fun e => u_L_with_13 (ret1 ⟨vpS Z B (by omega), ?_⟩)) (fun e => ⟨vp_in_nI (by omega) (by omega), ret1 ⟨vpS Z B (by omega), ?_⟩⟩)⟩
  · rw [a999 Z B (show 1 < 6 by omega)]
    exact s_with I.ic.1 (s := h.1 132) rfl (fun _ => tl_no (k := 1) (by omega) gi_same (G.go (by omega) (I.fz FZ0) (by omega) (by omega))) (fun y => by rw [e] at y; cases y)
  · rw [a999s Z B (show 1 < 6 by omega)]
    exact s_with I.ic.1 (s := h.1 132) rfl (fun y => by rw [e] at y; cases y) (fun _ => tl_ok gi_same okLs (G.go (by omega) (I.fz (FZL.trans FZ0)) (by omega) (by omega)))
theorem L_1093 (I : Inv z C E h) (B : LB z C E c i n) (G : GO z C E c i) : At m_L_law QL 1093 c (LLs (nI i) o6 o7 o8) [] h := by
  have Z := I.iz
  refine u_L_law_1093 ⟨vpS Z B (by omega), capL B (by omega), ?_⟩
  rw [a999 Z B (show 1 < 6 by omega)]
  refine t_L_down hQI ⟨Nat.le_of_ble_eq_true rfl, c_down I.ic.1 I.ic.2 (fun e => u_L_down_13 (ret1 ⟨vpS Z B (by omega), ?_⟩)) (fun e => ⟨vp_in_nI (by omega) (by omega), ret1 ⟨vpS Z B (by omega), ?_⟩⟩)⟩
  · rw [a999 Z B (show 1 < 6 by omega)]
    exact s_down I.ic.1 (s := h.1 132) rfl (fun _ => tl_no (k := 1) (by omega) gi_same (G.go (by omega) (I.fz FZ0) (by omega) (by omega))) (fun y => by rw [e] at y; cases y)
  · rw [a999s Z B (show 1 < 6 by omega)]
    exact s_down I.ic.1 (s := h.1 132) rfl (fun y => by rw [e] at y; cases y) (fun _ => tl_ok gi_same okLs (G.go (by omega) (I.fz (FZL.trans FZ0)) (by omega) (by omega)))
theorem L_1162 (I : Inv z C E h) (B : LB z C E c i n) (G : GO z C E c i) : At m_L_law QL 1162 c (LLs (nI i) o6 o7 o8) [] h := by
  have Z := I.iz
  refine u_L_law_1162 ⟨vpS Z B (by omega), vpS Z B (by omega), capL B (by omega), ?_⟩
  rw [a999 Z B (show 1 < 6 by omega)]
  rw [a999 Z B (show 2 < 6 by omega)]
  refine t_L_reason hQI ⟨Nat.le_of_ble_eq_true rfl, c_reason I.ic.1 I.ic.2 (fun e => u_L_reason_15 (ret1 ⟨vpS Z B (by omega), vpS Z B (by omega), ?_⟩)) (fun e => ⟨vp_in_nI (by omega) (by omega), ret1 ⟨vpS Z B (by omega), vpS Z B (by omega), ?_⟩⟩)⟩
  · rw [a999 Z B (show 1 < 6 by omega)]
    rw [a999 Z B (show 2 < 6 by omega)]
    exact s_reason I.ic.1 (s := h.1 132) rfl (fun _ => tl_no (k := 1) (by omega) gi_same (G.go (by omega) (I.fz FZ0) (by omega) (by omega))) (fun y => by rw [e] at y; cases y)
  · rw [a999s Z B (show 1 < 6 by omega)]
    rw [a999s Z B (show 2 < 6 by omega)]
    exact s_reason I.ic.1 (s := h.1 132) rfl (fun y => by rw [e] at y; cases y) (fun _ => tl_ok gi_same okLs (G.go (by omega) (I.fz (FZL.trans FZ0)) (by omega) (by omega)))
theorem L_1230 (I : Inv z C E h) (B : LB z C E c i n) (G : GO z C E c i) : At m_L_law QL 1230 c (LLs (nI i) o6 o7 o8) [] h := by
  have Z := I.iz
  refine u_L_law_1230 ⟨vpS Z B (by omega), capL B (by omega), ?_⟩
  rw [a999 Z B (show 1 < 6 by omega)]
  refine t_L_open hQI ⟨Nat.le_of_ble_eq_true rfl, c_open I.ic.1 I.ic.2 (fun e => u_L_open_13 (ret1 ⟨vpS Z B (by omega), ?_⟩)) (fun e => ⟨vp_in_nI (by omega) (by omega), ret1 ⟨vpS Z B (by omega), ?_⟩⟩)⟩
  · rw [a999 Z B (show 1 < 6 by omega)]
    exact s_open I.ic.1 (s := h.1 132) rfl (fun _ => tl_no (k := 1) (by omega) gi_same (G.go (by omega) (I.fz FZ0) (by omega) (by omega))) (fun y => by rw [e] at y; cases y)
  · rw [a999s Z B (show 1 < 6 by omega)]
    exact s_open I.ic.1 (s := h.1 132) rfl (fun y => by rw [e] at y; cases y) (fun _ => tl_ok gi_same okLs (G.go (by omega) (I.fz (FZL.trans FZ0)) (by omega) (by omega)))
theorem L_1286 (I : Inv z C E h) (B : LB z C E c i n) (G : GO z C E c i) : At m_L_law QL 1286 c (LLs (nI i) o6 o7 o8) [] h := by
  have Z := I.iz
  refine u_L_law_1286 ⟨vpS Z B (by omega), vpS Z B (by omega), capL B (by omega), ?_⟩
  rw [a999 Z B (show 1 < 6 by omega)]
  rw [a999 Z B (show 2 < 6 by omega)]
  refine t_L_against hQI ⟨Nat.le_of_ble_eq_true rfl, c_against I.ic.1 I.ic.2 (fun e => u_L_against_15 (ret1 ⟨vpS Z B (by omega), vpS Z B (by omega), ?_⟩)) (fun e => ⟨vp_in_nI (by omega) (by omega), ret1 ⟨vpS Z B (by omega), vpS Z B (by omega), ?_⟩⟩)⟩
  · rw [a999 Z B (show 1 < 6 by omega)]
    rw [a999 Z B (show 2 < 6 by omega)]
    exact s_against I.ic.1 (s := h.1 132) rfl (fun _ => tl_no (k := 1) (by omega) gi_same (G.go (by omega) (I.fz FZ0) (by omega) (by omega))) (fun y => by rw [e] at y; cases y)
  · rw [a999s Z B (show 1 < 6 by omega)]
    rw [a999s Z B (show 2 < 6 by omega)]
    exact s_against I.ic.1 (s := h.1 132) rfl (fun y => by rw [e] at y; cases y) (fun _ => tl_ok gi_same okLs (G.go (by omega) (I.fz (FZL.trans FZ0)) (by omega) (by omega)))
theorem L_1367 (I : Inv z C E h) (B : LB z C E c i n) (G : GO z C E c i) : At m_L_law QL 1367 c (LLs (nI i) o6 o7 o8) [] h := by
  have Z := I.iz
  refine u_L_law_1367 ⟨vpS Z B (by omega), capL B (by omega), ?_⟩
  rw [a999 Z B (show 1 < 6 by omega)]
  refine t_L_plan hQI ⟨Nat.le_of_ble_eq_true rfl, c_plan I.ic.2 (fun e => u_L_plan_13 (ret1 ⟨vpS Z B (by omega), ?_⟩)) (fun e => ⟨vp_in_nI (by omega) (by omega), ret1 ⟨vpS Z B (by omega), ?_⟩⟩)⟩
  · rw [a999 Z B (show 1 < 6 by omega)]
    exact s_plan (s := h.1 132) rfl (fun _ => tl_no (k := 1) (by omega) gi_same (G.go (by omega) (I.fz FZ0) (by omega) (by omega))) (fun y => by rw [e] at y; cases y)
  · rw [a999s Z B (show 1 < 6 by omega)]
    exact s_plan (s := h.1 132) rfl (fun y => by rw [e] at y; cases y) (fun _ => tl_ok gi_same okLs (G.go (by omega) (I.fz (FZL.trans FZ0)) (by omega) (by omega)))
theorem L_1449 (I : Inv z C E h) (B : LB z C E c i n) (G : GO z C E c i) : At m_L_law QL 1449 c (LLs (nI i) o6 o7 o8) [] h := by
  have Z := I.iz
  refine u_L_law_1449 ⟨vpS Z B (by omega), capL B (by omega), ?_⟩
  rw [a999 Z B (show 1 < 6 by omega)]
  refine t_L_inWave hQI ⟨Nat.le_of_ble_eq_true rfl, c_inWave I.ic.1 I.ic.2 (fun e => u_L_inWave_13 (ret1 ⟨vpS Z B (by omega), ?_⟩)) (fun e => ⟨vp_in_nI (by omega) (by omega), ret1 ⟨vpS Z B (by omega), ?_⟩⟩)⟩
  · rw [a999 Z B (show 1 < 6 by omega)]
    exact s_inWave I.ic.1 (s := h.1 132) rfl (fun _ => tl_no (k := 1) (by omega) gi_same (G.go (by omega) (I.fz FZ0) (by omega) (by omega))) (fun y => by rw [e] at y; cases y)
  · rw [a999s Z B (show 1 < 6 by omega)]
    exact s_inWave I.ic.1 (s := h.1 132) rfl (fun y => by rw [e] at y; cases y) (fun _ => tl_ok gi_same okLs (G.go (by omega) (I.fz (FZL.trans FZ0)) (by omega) (by omega)))
theorem L_1624 (I : Inv z C E h) (B : LB z C E c i n) (G : GO z C E c i) : At m_L_law QL 1624 c (LLs (nI i) o6 o7 o8) [] h := by
  have Z := I.iz
  refine u_L_law_1624 ⟨vpS Z B (by omega), capL B (by omega), ?_⟩
  rw [a999 Z B (show 1 < 6 by omega)]
  refine t_L_whyNotCommit hQI ⟨Nat.le_of_ble_eq_true rfl, c_whyNotCommit I.ic.1 I.ic.2 (fun e => u_L_whyNotCommit_13 (ret1 ⟨vpS Z B (by omega), ?_⟩)) (fun e => ⟨vp_in_nI (by omega) (by omega), ret1 ⟨vpS Z B (by omega), ?_⟩⟩)⟩
  · rw [a999 Z B (show 1 < 6 by omega)]
    exact s_whyNotCommit I.ic.1 (s := h.1 132) rfl (fun _ => tl_no (k := 1) (by omega) gi_same (G.go (by omega) (I.fz FZ0) (by omega) (by omega))) (fun y => by rw [e] at y; cases y)
  · rw [a999s Z B (show 1 < 6 by omega)]
    exact s_whyNotCommit I.ic.1 (s := h.1 132) rfl (fun y => by rw [e] at y; cases y) (fun _ => tl_ok gi_same okLs (G.go (by omega) (I.fz (FZL.trans FZ0)) (by omega) (by omega)))
theorem L_1706 (I : Inv z C E h) (B : LB z C E c i n) (G : GO z C E c i) : At m_L_law QL 1706 c (LLs (nI i) o6 o7 o8) [] h := by
  have Z := I.iz
  have hC := B.bC
  have hE := B.bE
  refine u_L_law_1706 ⟨vpS Z B (by omega), capL B (by omega), ?_⟩
  rw [a999 Z B (show 1 < 6 by omega)]
  refine t_L_minutesToEnd hQI ⟨Nat.le_of_ble_eq_true rfl, c_minutesToEnd I.ic.1 (by omega) (by omega) I.ic.2 (fun e => u_L_minutesToEnd_13 (ret1 ⟨vpS Z B (by omega), ?_⟩)) (fun e h1 f1 => have Z1 : IZ z h1 := (I.fz (FZw f1)).iz; ⟨vp_in_nI (by omega) (by omega), ret1 ⟨vpS (h := sl h1 147 _ _) Z1 B (by omega), ?_⟩⟩)⟩
  · rw [a999 Z B (show 1 < 6 by omega)]
    exact s_minutesToEnd I.ic.1 (by omega) (by omega) (s := h.1 132) rfl (fun _ => tl_no (k := 1) (by omega) gi_same (G.go (by omega) (I.fz FZ0) (by omega) (by omega))) (fun y => by rw [e] at y; cases y)
  · rw [a999s Z1 B (show 1 < 6 by omega)]
    have hs1 : ∀ x, (sl h1 147 (nI 0).toNatClampNeg x).1 132 = h.1 132 := fun x => (FZw f1).cell (fun k => by unfold WZ; omega)
    exact s_minutesToEnd I.ic.1 (by omega) (by omega) (s := h.1 132) (hs1 _) (fun y => by rw [e] at y; cases y) (fun _ h2 U => tl_ok U.2.2 (okQ U) (G.go (by omega) (I.fz (((FZw f1).trans FZL).trans (FZq (hs1 _) U))) (by omega) (by omega)))
theorem L_1762 (I : Inv z C E h) (B : LB z C E c i n) (G : GO z C E c i) : At m_L_law QL 1762 c (LLs (nI i) o6 o7 o8) [] h := by
  have Z := I.iz
  have hC := B.bC
  have hE := B.bE
  refine u_L_law_1762 ⟨vpS Z B (by omega), capL B (by omega), ?_⟩
  rw [a999 Z B (show 1 < 6 by omega)]
  refine t_L_minutesIfFree hQI ⟨Nat.le_of_ble_eq_true rfl, c_minutesIfFree I.ic.1 (by omega) (by omega) I.ic.2 (fun e => u_L_minutesIfFree_13 (ret1 ⟨vpS Z B (by omega), ?_⟩)) (fun e h1 f1 => have Z1 : IZ z h1 := (I.fz (FZw f1)).iz; ⟨vp_in_nI (by omega) (by omega), ret1 ⟨vpS (h := sl h1 147 _ _) Z1 B (by omega), ?_⟩⟩)⟩
  · rw [a999 Z B (show 1 < 6 by omega)]
    exact s_minutesIfFree I.ic.1 (by omega) (by omega) (s := h.1 132) rfl (fun _ => tl_no (k := 1) (by omega) gi_same (G.go (by omega) (I.fz FZ0) (by omega) (by omega))) (fun y => by rw [e] at y; cases y)
  · rw [a999s Z1 B (show 1 < 6 by omega)]
    have hs1 : ∀ x, (sl h1 147 (nI 0).toNatClampNeg x).1 132 = h.1 132 := fun x => (FZw f1).cell (fun k => by unfold WZ; omega)
    exact s_minutesIfFree I.ic.1 (by omega) (by omega) (s := h.1 132) (hs1 _) (fun y => by rw [e] at y; cases y) (fun _ h2 U => tl_ok U.2.2 (okQ U) (G.go (by omega) (I.fz (((FZw f1).trans FZL).trans (FZq (hs1 _) U))) (by omega) (by omega)))
theorem L_1831 (I : Inv z C E h) (B : LB z C E c i n) (G : GO z C E c i) : At m_L_law QL 1831 c (LLs (nI i) o6 o7 o8) [] h := by
  have Z := I.iz
  have hC := B.bC
  have hE := B.bE
  refine u_L_law_1831 ⟨vpS Z B (by omega), capL B (by omega), ?_⟩
  rw [a999 Z B (show 1 < 6 by omega)]
  refine t_L_changesIn hQI ⟨Nat.le_of_ble_eq_true rfl, c_changesIn I.ic.1 (by omega) (by omega) I.ic.2 (fun e => u_L_changesIn_13 (ret1 ⟨vpS Z B (by omega), ?_⟩)) (fun e h1 f1 => have Z1 : IZ z h1 := (I.fz (FZw f1)).iz; ⟨vp_in_nI (by omega) (by omega), ret1 ⟨vpS (h := sl h1 147 _ _) Z1 B (by omega), ?_⟩⟩)⟩
  · rw [a999 Z B (show 1 < 6 by omega)]
    exact s_changesIn I.ic.1 (by omega) (by omega) (s := h.1 132) rfl (fun _ => tl_no (k := 1) (by omega) gi_same (G.go (by omega) (I.fz FZ0) (by omega) (by omega))) (fun y => by rw [e] at y; cases y)
  · rw [a999s Z1 B (show 1 < 6 by omega)]
    have hs1 : ∀ x, (sl h1 147 (nI 0).toNatClampNeg x).1 132 = h.1 132 := fun x => (FZw f1).cell (fun k => by unfold WZ; omega)
    exact s_changesIn I.ic.1 (by omega) (by omega) (s := h.1 132) (hs1 _) (fun y => by rw [e] at y; cases y) (fun _ h2 U => tl_ok U.2.2 (okQ U) (G.go (by omega) (I.fz (((FZw f1).trans FZL).trans (FZq (hs1 _) U))) (by omega) (by omega)))
theorem L_1887 (I : Inv z C E h) (B : LB z C E c i n) (G : GO z C E c i) : At m_L_law QL 1887 c (LLs (nI i) o6 o7 o8) [] h := by
  have Z := I.iz
  have hC := B.bC
  have hE := B.bE
  refine u_L_law_1887 ⟨vpS Z B (by omega), vpS Z B (by omega), capL B (by omega), ?_⟩
  rw [a999 Z B (show 1 < 6 by omega)]
  rw [a999 Z B (show 2 < 6 by omega)]
  refine t_L_wouldStop hQI ⟨Nat.le_of_ble_eq_true rfl, c_wouldStop I.ic.1 (by omega) (by omega) I.ic.2 (fun e => u_L_wouldStop_22 (ret1 ⟨vpS Z B (by omega), vpS Z B (by omega), ?_⟩)) (fun e e2 => u_L_wouldStop_26 (ret1 ⟨vpS Z B (by omega), vpS Z B (by omega), ?_⟩)) (fun e e2 h1 f1 => have Z1 : IZ z h1 := (I.fz (FZw f1)).iz; bq (fun eb => ⟨vp_in_nI (by omega) (by omega), ret1 ⟨vpS (h := sl h1 147 _ _) Z1 B (by omega), vpS (h := sl h1 147 _ _) Z1 B (by omega), ?_⟩⟩) (fun eb => ⟨vp_in_nI (by omega) (by omega), ret1 ⟨vpS (h := sl h1 147 _ _) Z1 B (by omega), vpS (h := sl h1 147 _ _) Z1 B (by omega), ?_⟩⟩))⟩
  · rw [a999 Z B (show 1 < 6 by omega)]
    rw [a999 Z B (show 2 < 6 by omega)]
    exact s_wouldStop I.ic.1 (by omega) (by omega) (s := h.1 132) rfl (fun _ => tl_no (k := 1) (by omega) gi_same (G.go (by omega) (I.fz FZ0) (by omega) (by omega))) (fun y => by rw [e] at y; cases y) (fun y => by rw [e] at y; cases y)
  · rw [a999 Z B (show 1 < 6 by omega)]
    rw [a999 Z B (show 2 < 6 by omega)]
    exact s_wouldStop I.ic.1 (by omega) (by omega) (s := h.1 132) rfl (fun y => by rw [e] at y; cases y) (fun _ _ => tl_no (k := 2) (by omega) gi_same (G.go (by omega) (I.fz FZ0) (by omega) (by omega))) (fun _ y => by rw [e2] at y; cases y)
  · rw [a999s Z1 B (show 1 < 6 by omega)]
    rw [a999s Z1 B (show 2 < 6 by omega)]
    have hs1 : (sl h1 147 (nI 0).toNatClampNeg (lN 0)).1 132 = h.1 132 := (FZw f1).cell (fun k => by unfold WZ; omega)
    exact s_wouldStop I.ic.1 (by omega) (by omega) (s := h.1 132) hs1 (fun y => by rw [e] at y; cases y) (fun _ y => by rw [e2] at y; cases y) (fun _ _ h2 U => tl_okb U.2.2 ((okQ U).trans (by rw [eb]; rfl)) (G.go (by omega) (I.fz (((FZw f1).trans FZL).trans (FZq hs1 U))) (by omega) (by omega)))
  · rw [a999s Z1 B (show 1 < 6 by omega)]
    rw [a999s Z1 B (show 2 < 6 by omega)]
    have hs1 : (sl h1 147 (nI 0).toNatClampNeg (lN 1)).1 132 = h.1 132 := (FZw f1).cell (fun k => by unfold WZ; omega)
    exact s_wouldStop I.ic.1 (by omega) (by omega) (s := h.1 132) hs1 (fun y => by rw [e] at y; cases y) (fun _ y => by rw [e2] at y; cases y) (fun _ _ h2 U => tl_okb U.2.2 ((okQ U).trans (by rw [eb]; rfl)) (G.go (by omega) (I.fz (((FZw f1).trans FZL).trans (FZq hs1 U))) (by omega) (by omega)))
theorem L_1975 (I : Inv z C E h) (B : LB z C E c i n) (G : GO z C E c i) : At m_L_law QL 1975 c (LLs (nI i) o6 o7 o8) [] h := by
  have Z := I.iz
  refine u_L_law_1975 ⟨vpS Z B (by omega), vpS Z B (by omega), capL B (by omega), ?_⟩
  rw [a999 Z B (show 1 < 6 by omega)]
  rw [a999 Z B (show 2 < 6 by omega)]
  refine t_L_event hQI ⟨Nat.le_of_ble_eq_true rfl, c_event I.ic.2 (fun e => u_L_event_15 (ret1 ⟨vpS Z B (by omega), vpS Z B (by omega), ?_⟩)) (fun e e2 => u_L_event_19 (ret1 ⟨vpS Z B (by omega), vpS Z B (by omega), ?_⟩)) (fun e e2 => ⟨vp_in_nI (by omega) (by omega), ret1 ⟨vpS Z B (by omega), vpS Z B (by omega), ?_⟩⟩)⟩
  · rw [a999 Z B (show 1 < 6 by omega)]
    rw [a999 Z B (show 2 < 6 by omega)]
    exact s_event I.ic.1 (by have := B.bE; omega) (s := h.1 132) rfl (fun _ => tl_no (k := 1) (by omega) gi_same (G.go (by omega) (I.fz FZ0) (by omega) (by omega))) (fun y => by rw [e] at y; cases y) (fun y => by rw [e] at y; cases y)
  · rw [a999 Z B (show 1 < 6 by omega)]
    rw [a999 Z B (show 2 < 6 by omega)]
    exact s_event I.ic.1 (by have := B.bE; omega) (s := h.1 132) rfl (fun y => by rw [e] at y; cases y) (fun _ _ => tl_no (k := 2) (by omega) gi_same (G.go (by omega) (I.fz FZ0) (by omega) (by omega))) (fun _ y => by rw [e2] at y; cases y)
  · rw [a999s Z B (show 1 < 6 by omega)]
    rw [a999s Z B (show 2 < 6 by omega)]
    exact s_event I.ic.1 (by have := B.bE; omega) (s := h.1 132) rfl (fun y => by rw [e] at y; cases y) (fun _ y => by rw [e2] at y; cases y) (fun _ _ => tl_ok gi_same okLs (G.go (by omega) (I.fz (FZL.trans FZ0)) (by omega) (by omega)))
theorem L_1505 (I : Inv z C E h) (B : LB z C E c i n) (G : GO z C E c i) : At m_L_law QL 1505 c (LLs (nI i) o6 o7 o8) [] h := by
  have Z := I.iz
  refine u_L_law_1505 ⟨vpS Z B (by omega), capL B (by omega), ?_⟩
  rw [a999 Z B (show 1 < 6 by omega)]
  refine t_L_share hQI ⟨Nat.le_of_ble_eq_true rfl, c_share I.ic.1 I.ic.2 (fun e => u_L_share_13 (ret1 ⟨vpS Z B (by omega), ?_⟩)) (fun e => ⟨shaV_ok I.ic.1, vp_in_nI (by omega) (by omega), ret1 ⟨vpS Z B (by omega), ?_⟩⟩)⟩
  · rw [a999 Z B (show 1 < 6 by omega)]
    exact s_share I.ic.1 (s := h.1 132) rfl (fun _ => tl_no (k := 1) (by omega) gi_same (G.go (by omega) (I.fz FZ0) (by omega) (by omega))) (fun y => by rw [e] at y; cases y)
  · rw [a999d Z B (show 1 < 6 by omega)]
    refine s_share I.ic.1 (s := h.1 132) rfl (fun y => by rw [e] at y; cases y) (fun _ => t_X12_thrown (ret1 ?_))
    have g : ∀ c' o6 o7 o8, c' ≤ c + 3 → At m_L_law QL 2658 c' (LLs (nI i) o6 o7 o8) [] (si (sd h 148 (nI 0).toNatClampNeg (FP.f2d (shaV (h.1 132) (nn (z 1 (i + 1)))))) 130 0 (nI 0)) := fun c' o6 o7 o8 hc => G.go hc (I.fz (FZD.trans FZ0)) (by omega) (by omega)
    have e1 : ∀ x : UInt64, gd (si (sd h 148 (nI 0).toNatClampNeg x) 130 0 (nI 0)) 148 (nI 0).toNatClampNeg = x := fun x => by
      rw [cl (by omega)]
      show up2 h.2.2.2 148 0 x 148 0 = x
      exact up2_s _ _ _ _
    rw [gi_same, e1]
    exact ⟨fun _ => ⟨fun y => absurd rfl y, fun _ => ⟨vp_in_nI (by omega) (by omega), shaV_ok I.ic.1, fun _ => g _ _ _ _ (by omega), fun y => absurd (shaV_c I.ic.1) y⟩⟩, fun y => absurd rfl y⟩
end
