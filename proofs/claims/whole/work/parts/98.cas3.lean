/-! ===== the law, case by case: changes ===== -/
section
variable {s : RW} {nm : Nat → Int64} {h h' : PH} {e pl k : Nat} {x : Int64}
theorem RdE.sl (U : RdE e pl h h') : RdE e pl h (sl h' 147 k x) := ⟨U.1.trans (Fz.sl h' x (Or.inr rfl)), U.2⟩
theorem RdO.sl (U : RdO s nm h h') : RdO s nm h (sl h' 147 k x) := ⟨U.1.trans (Fz.sl h' x (Or.inl (Or.inr rfl))), U.2⟩
theorem RsC.sl (U : RsC h h') : RsC h (sl h' 147 k x) := by
  obtain ⟨u1, u2, u3, u4, u5, u6, u7⟩ := U
  refine ⟨u1, u2, u3, fun c h1 h2 => ?_, u5, ?_, u7⟩
  · rw [← u4 c h1 h2]
    exact funext fun j => gl_ob h2
  · exact ⟨u6.1, fun j hj => (gl_ob (by omega)).trans (u6.2.1 j hj), fun j hj => (gl_ob (by omega)).trans (u6.2.2.1 j hj), fun j hj => (gl_ob (by omega)).trans (u6.2.2.2 j hj)⟩
end
section
variable {h : PH} {z : FI} {C E c i n : Nat} {o6 o7 o8 : Option Value}
theorem L_260 (I : Inv z C E h) (B : LB z C E c i n) (G : GO z C E c i) : At m_L_law QL 260 c (LLs (nI i) o6 o7 o8) [] h := by
  have Z := I.iz
  obtain ⟨n0, a1, a2, a3, a4, a5, a6⟩ := I.it
  refine u_L_law_260 ⟨vpS Z B (by omega), vpS Z B (by omega), vpS Z B (by omega), vpS Z B (by omega), vpS Z B (by omega), capL B (by omega), ?_⟩
  rw [a999 Z B (show 1 < 6 by omega)]
  rw [a999 Z B (show 2 < 6 by omega)]
  rw [a999 Z B (show 3 < 6 by omega)]
  rw [a999 Z B (show 4 < 6 by omega)]
  rw [a999 Z B (show 5 < 6 by omega)]
  refine t_L_feed hQI ⟨Nat.le_of_ble_eq_true rfl, c_feed a2 a1 (fun e => u_L_feed_21 (ret1 ⟨vpS Z B (by omega), vpS Z B (by omega), vpS Z B (by omega), vpS Z B (by omega), vpS Z B (by omega), ?_⟩)) (fun e h1 f1 => ?_)⟩
  · rw [a999 Z B (show 1 < 6 by omega)]
    rw [a999 Z B (show 2 < 6 by omega)]
    rw [a999 Z B (show 3 < 6 by omega)]
    rw [a999 Z B (show 4 < 6 by omega)]
    rw [a999 Z B (show 5 < 6 by omega)]
    exact s_feed0 a3 a1 e (tl_no (k := 1) (by omega) gi_same (G.go (by omega) (I.fz FZ0) (by omega) (by omega)))
  · have fz : Fz (fun b k => b = 1 ∨ b = 2) (fun _ => False) h h1 := Fz.fr f1.1 (fun b k y => by have := W12_t y; omega)
    have Z1 : IZ z h1 := I.iz.fz fz (fun k => by omega) (fun k => by omega) (by omega)
    refine ⟨vp_in_nI (by omega) (by omega), ret1 ⟨vpS (h := sl h1 147 _ _) Z1 B (by omega), vpS (h := sl h1 147 _ _) Z1 B (by omega), vpS (h := sl h1 147 _ _) Z1 B (by omega), vpS (h := sl h1 147 _ _) Z1 B (by omega), vpS (h := sl h1 147 _ _) Z1 B (by omega), ?_⟩⟩
    rw [a999 (h := sl h1 147 _ _) Z1 B (show 1 < 6 by omega)]
    rw [a999 (h := sl h1 147 _ _) Z1 B (show 2 < 6 by omega)]
    rw [a999 (h := sl h1 147 _ _) Z1 B (show 3 < 6 by omega)]
    rw [a999 (h := sl h1 147 _ _) Z1 B (show 4 < 6 by omega)]
    rw [a999 (h := sl h1 147 _ _) Z1 B (show 5 < 6 by omega)]
    have e30 : ∀ x, gi (sl h1 147 (nI 0).toNatClampNeg x) 130 2 = nI n0 := fun x => (fz.1 130 2 (by omega)).trans a3
    refine s_feed (e30 _) e (fun h3 f3 k1 k2 k3 => ?_)
    have J := I.fed a2 e (fun j => pick_lt) f1 (by rw [cl (by omega)]) f3 k1 k2 k3
    exact tl_ok J.2 (okF f3) (G.go (by omega) J.1 (by omega) (by omega))
theorem L_364 (I : Inv z C E h) (B : LB z C E c i n) (G : GO z C E c i) : At m_L_law QL 364 c (LLs (nI i) o6 o7 o8) [] h := by
  have Z := I.iz
  obtain ⟨n0, a1, a2, a3, a4, a5, a6⟩ := I.it
  refine u_L_law_364 ⟨vpS Z B (by omega), capL B (by omega), ?_⟩
  rw [a999 Z B (show 1 < 6 by omega)]
  have Z1 : ∀ x, IZ z (si h 1 1 x) := fun x => I.iz.fz (Fz.si (W := fun b _ => b = 1) (V := fun _ => False) h x rfl) (fun k => by omega) (fun k => by omega) (by omega)
  have e30 : ∀ x y, gi (sl (si h 1 1 x) 147 (nI 0).toNatClampNeg y) 130 2 = nI n0 := fun x y => by
    show gi (si h 1 1 x) 130 2 = nI n0
    rw [gi_ob (by omega)]; exact a3
  have tr0 : ∀ {x : Int32} {y : Int64}, inR x 0 n0 = true → Inv z C E (si (si (sl (si h 1 1 x) 147 (nI 0).toNatClampNeg y) 130 0 (nI 0)) 130 2 x) := fun {x y} e => by
    rw [cl (by omega)]
    exact I.trunc a2 a1 e
  refine t_L_truncate hQI ⟨Nat.le_of_ble_eq_true rfl, c_truncate a2 a1 (fun e => u_L_truncate_13 (ret1 ⟨vpS Z B (by omega), ?_⟩)) (fun e => ⟨vp_in_nI (by omega) (by omega), ret1 ⟨vpS (h := sl (si h 1 1 (z 1 (i + 1))) 147 _ _) (Z1 (z 1 (i + 1))) B (by omega), ?_⟩⟩)⟩
  · rw [a999 Z B (show 1 < 6 by omega)]
    exact s_truncate a3 a1 (fun _ => tl_no (k := 1) (by omega) gi_same (G.go (by omega) (I.fz FZ0) (by omega) (by omega))) (fun y => by rw [e] at y; cases y)
  · rw [a999s (Z1 (z 1 (i + 1))) B (show 1 < 6 by omega)]
    exact s_truncate (e30 _ _) a1 (fun y => by rw [e] at y; cases y) (fun _ => tl_ok (by rw [gi_ok (by omega)]; exact gi_same) okL (G.go (by omega) (tr0 e) (by omega) (by omega)))
theorem L_420 (I : Inv z C E h) (B : LB z C E c i n) (G : GO z C E c i) : At m_L_law QL 420 c (LLs (nI i) o6 o7 o8) [] h := by
  have hC := B.bC
  have hE := B.bE
  obtain ⟨n0, cc, B0, e2, eb⟩ := I.it.fn
  refine u_L_law_420 ⟨capL B (by omega), ?_⟩
  refine t_L_readText hQI ⟨Nat.le_of_ble_eq_true rfl, c_readText B0 I.iz.2.2 (fun e pl er h1 U => u_L_readText_12 (ret1 (s_read0 I B0 e2 eb er U (fun h2 J g => tl_no (k := 1) (by omega) g (G.go (by omega) J (by omega) (by omega)))))) (fun s nm td p er h1 U P => ⟨vp_in_nI (by omega) (by omega), ret1 (s_read1 I B0 e2 eb er U.sl (fun h2 J g l => tl_ok g (okG l) (G.go (by omega) J (by omega) (by omega))))⟩)⟩
theorem L_464 (I : Inv z C E h) (B : LB z C E c i n) (G : GO z C E c i) : At m_L_law QL 464 c (LLs (nI i) o6 o7 o8) [] h := by
  have hC := B.bC
  have hE := B.bE
  obtain ⟨n0, cc, B0, e2, eb⟩ := I.it.fn
  refine u_L_law_464 ⟨capL B (by omega), ?_⟩
  refine t_L_runScript hQI ⟨Nat.le_of_ble_eq_true rfl, c_runScript I B0 (by omega) (by omega) (fun e pl er h1 U => u_L_runScript_12 (ret1 (s_run0 I B0 e2 eb er U (fun h2 J g => tl_no (k := 1) (by omega) g (G.go (by omega) J (by omega) (by omega)))))) (fun g nm td p er u w h1 U => ⟨vp_in_nI (by omega) (by omega), ret1 (s_run1 I B0 (by omega) (by omega) e2 eb er U.sl (fun h2 J g l => tl_ok g (okG l) (G.go (by omega) J (by omega) (by omega))))⟩)⟩
theorem L_2043 (I : Inv z C E h) (B : LB z C E c i n) (G : GO z C E c i) : At m_L_law QL 2043 c (LLs (nI i) o6 o7 o8) [] h := by
  have Z := I.iz
  have hC := B.bC
  have hE := B.bE
  refine u_L_law_2043 ⟨vpS Z B (by omega), capL B (by omega), ?_⟩
  rw [a999 Z B (show 1 < 6 by omega)]
  refine t_L_pass hQI ⟨Nat.le_of_ble_eq_true rfl, c_pass I (by omega) (by omega) (fun e => u_L_pass_13 (ret1 ⟨vpS Z B (by omega), ?_⟩)) (fun e u w h2 M => ⟨vp_in_nI (by omega) (by omega), ret1 ⟨vpS (h := sl h2 147 _ _) M.2.1.2.2.2.2 B (by omega), ?_⟩⟩)⟩
  · rw [a999 Z B (show 1 < 6 by omega)]
    exact s_pass0 e rfl (tl_no (k := 1) (by omega) gi_same (G.go (by omega) (I.fz FZ0) (by omega) (by omega)))
  · rw [a999 (h := sl h2 147 _ _) M.2.1.2.2.2.2 B (show 1 < 6 by omega)]
    exact s_pass e (by omega) (by omega) (M.fz FZL) (fun h3 J g l => tl_ok g (okG l) (G.go (by omega) J (by omega) (by omega)))
theorem L_2099 (I : Inv z C E h) (B : LB z C E c i n) (G : GO z C E c i) : At m_L_law QL 2099 c (LLs (nI i) o6 o7 o8) [] h := by
  have Z := I.iz
  have hC := B.bC
  have hE := B.bE
  refine u_L_law_2099 ⟨vpS Z B (by omega), capL B (by omega), ?_⟩
  rw [a999 Z B (show 1 < 6 by omega)]
  refine t_L_start hQI ⟨Nat.le_of_ble_eq_true rfl, c_start I (by omega) (fun e => u_L_start_13 (ret1 ⟨vpS Z B (by omega), ?_⟩)) (fun e e2 => u_L_start_16 (ret1 ⟨vpS Z B (by omega), ?_⟩)) (fun e e2 u w h2 M => ⟨vp_in_nI (by omega) (by omega), ret1 ⟨vpS (h := sl h2 147 _ _) M.2.1.2.2.2.2 B (by omega), ?_⟩⟩)⟩
  · rw [a999 Z B (show 1 < 6 by omega)]
    exact s_start0 I.ic.1 rfl (fun _ => tl_no (k := 1) (by omega) gi_same (G.go (by omega) (I.fz FZ0) (by omega) (by omega))) (fun y => by rw [e] at y; cases y) (fun y => by rw [e] at y; cases y.1)
  · rw [a999 Z B (show 1 < 6 by omega)]
    exact s_start0 I.ic.1 rfl (fun y => by rw [e] at y; cases y) (fun _ _ => tl_no (k := 2) (by omega) gi_same (G.go (by omega) (I.fz FZ0) (by omega) (by omega))) (fun y => by rw [e2] at y; cases y.2)
  · rw [a999 (h := sl h2 147 _ _) M.2.1.2.2.2.2 B (show 1 < 6 by omega)]
    exact s_start e e2 (by omega) (M.fz FZL) (fun h3 J g l => tl_ok g (okG l) (G.go (by omega) J (by omega) (by omega)))
theorem L_2155 (I : Inv z C E h) (B : LB z C E c i n) (G : GO z C E c i) : At m_L_law QL 2155 c (LLs (nI i) o6 o7 o8) [] h := by
  have Z := I.iz
  have hC := B.bC
  have hE := B.bE
  refine u_L_law_2155 ⟨capL B (by omega), ?_⟩
  refine t_L_stop hQI ⟨Nat.le_of_ble_eq_true rfl, c_stop I (by omega) (fun e => u_L_stop_12 (ret1 ?_)) (fun e u w h2 M => ⟨vp_in_nI (by omega) (by omega), ret1 ?_⟩)⟩
  · exact s_stop0 rfl e (tl_no (k := 1) (by omega) gi_same (G.go (by omega) (I.fz FZ0) (by omega) (by omega)))
  · exact s_stop e (by omega) (M.fz FZL) (fun h3 J g l => tl_ok g (okG l) (G.go (by omega) J (by omega) (by omega)))
theorem L_2199 (I : Inv z C E h) (B : LB z C E c i n) (G : GO z C E c i) : At m_L_law QL 2199 c (LLs (nI i) o6 o7 o8) [] h := by
  have Z := I.iz
  have hC := B.bC
  have hE := B.bE
  refine u_L_law_2199 ⟨capL B (by omega), ?_⟩
  refine t_L_go hQI ⟨Nat.le_of_ble_eq_true rfl, c_go I (by omega) (fun e => u_L_go_12 (ret1 ?_)) (fun e u w h2 M => ⟨vp_in_nI (by omega) (by omega), ret1 ?_⟩)⟩
  · exact s_go0 rfl e (tl_no (k := 1) (by omega) gi_same (G.go (by omega) (I.fz FZ0) (by omega) (by omega)))
  · exact s_go e (by omega) (M.fz FZL) (fun h3 J g l => tl_ok g (okG l) (G.go (by omega) J (by omega) (by omega)))
theorem L_2327 (I : Inv z C E h) (B : LB z C E c i n) (G : GO z C E c i) : At m_L_law QL 2327 c (LLs (nI i) o6 o7 o8) [] h := by
  have Z := I.iz
  have hC := B.bC
  have hE := B.bE
  refine u_L_law_2327 ⟨vpS Z B (by omega), vpS Z B (by omega), capL B (by omega), ?_⟩
  rw [a999 Z B (show 1 < 6 by omega)]
  rw [a999 Z B (show 2 < 6 by omega)]
  refine t_L_report hQI ⟨Nat.le_of_ble_eq_true rfl, c_report I (fun e => u_L_report_15 (ret1 ⟨vpS Z B (by omega), vpS Z B (by omega), ?_⟩)) (fun e e2 => u_L_report_19 (ret1 ⟨vpS Z B (by omega), vpS Z B (by omega), ?_⟩)) (fun e e2 e3 => u_L_report_23 (ret1 ⟨vpS Z B (by omega), vpS Z B (by omega), ?_⟩)) (fun e e2 e3 u w h2 M => ⟨vp_in_nI (by omega) (by omega), ret1 ⟨vpS (h := sl h2 147 _ _) M.2.1.2.2.2.2 B (by omega), vpS (h := sl h2 147 _ _) M.2.1.2.2.2.2 B (by omega), ?_⟩⟩)⟩
  · rw [a999 Z B (show 1 < 6 by omega)]
    rw [a999 Z B (show 2 < 6 by omega)]
    exact s_report0 I.ic.1 rfl (fun _ => tl_no (k := 1) (by omega) gi_same (G.go (by omega) (I.fz FZ0) (by omega) (by omega))) (fun y => by rw [e] at y; cases y) (fun y => by rw [e] at y; cases y) (fun y => by rw [e] at y; cases y.1)
  · rw [a999 Z B (show 1 < 6 by omega)]
    rw [a999 Z B (show 2 < 6 by omega)]
    exact s_report0 I.ic.1 rfl (fun y => by rw [e] at y; cases y) (fun _ _ => tl_no (k := 2) (by omega) gi_same (G.go (by omega) (I.fz FZ0) (by omega) (by omega))) (fun _ y => by rw [e2] at y; cases y) (fun y => by rw [e2] at y; cases y.2.1)
  · rw [a999 Z B (show 1 < 6 by omega)]
    rw [a999 Z B (show 2 < 6 by omega)]
    exact s_report0 I.ic.1 rfl (fun y => by rw [e] at y; cases y) (fun _ y => by rw [e2] at y; cases y) (fun _ _ _ => tl_no (k := 3) (by omega) gi_same (G.go (by omega) (I.fz (FZ0.trans FZ0)) (by omega) (by omega))) (fun y => by rw [e3] at y; cases y.2.2)
  · rw [a999 (h := sl h2 147 _ _) M.2.1.2.2.2.2 B (show 1 < 6 by omega)]
    rw [a999 (h := sl h2 147 _ _) M.2.1.2.2.2.2 B (show 2 < 6 by omega)]
    exact s_report e e2 e3 (M.fz FZL) (fun h3 J g l => tl_ok g (okG l) (G.go (by omega) J (by omega) (by omega)))
theorem L_2395 (I : Inv z C E h) (B : LB z C E c i n) (G : GO z C E c i) : At m_L_law QL 2395 c (LLs (nI i) o6 o7 o8) [] h := by
  have Z := I.iz
  have hC := B.bC
  have hE := B.bE
  refine u_L_law_2395 ⟨vpS Z B (by omega), vpS Z B (by omega), capL B (by omega), ?_⟩
  rw [a999 Z B (show 1 < 6 by omega)]
  rw [a999 Z B (show 2 < 6 by omega)]
  refine t_L_change hQI ⟨Nat.le_of_ble_eq_true rfl, c_change I (by omega) (by omega) (fun e => u_L_change_15 (ret1 ⟨vpS Z B (by omega), vpS Z B (by omega), ?_⟩)) (fun e e2 => u_L_change_19 (ret1 ⟨vpS Z B (by omega), vpS Z B (by omega), ?_⟩)) (fun e e2 u w h2 M => ⟨vp_in_nI (by omega) (by omega), ret1 ⟨vpS (h := sl h2 147 _ _) M.2.1.2.2.2.2 B (by omega), vpS (h := sl h2 147 _ _) M.2.1.2.2.2.2 B (by omega), ?_⟩⟩)⟩
  · rw [a999 Z B (show 1 < 6 by omega)]
    rw [a999 Z B (show 2 < 6 by omega)]
    exact s_change0 I.ic.1 rfl (fun _ => tl_no (k := 1) (by omega) gi_same (G.go (by omega) (I.fz FZ0) (by omega) (by omega))) (fun y => by rw [e] at y; cases y) (fun y => by rw [e] at y; cases y.1)
  · rw [a999 Z B (show 1 < 6 by omega)]
    rw [a999 Z B (show 2 < 6 by omega)]
    exact s_change0 I.ic.1 rfl (fun y => by rw [e] at y; cases y) (fun _ _ => tl_no (k := 2) (by omega) gi_same (G.go (by omega) (I.fz FZ0) (by omega) (by omega))) (fun y => by rw [e2] at y; cases y.2)
  · rw [a999 (h := sl h2 147 _ _) M.2.1.2.2.2.2 B (show 1 < 6 by omega)]
    rw [a999 (h := sl h2 147 _ _) M.2.1.2.2.2.2 B (show 2 < 6 by omega)]
    exact s_change e e2 (by omega) (M.fz FZL) (fun h3 J g l => tl_ok g (okG l) (G.go (by omega) J (by omega) (by omega)))
theorem L_2463 (I : Inv z C E h) (B : LB z C E c i n) (G : GO z C E c i) : At m_L_law QL 2463 c (LLs (nI i) o6 o7 o8) [] h := by
  have Z := I.iz
  have hC := B.bC
  have hE := B.bE
  refine u_L_law_2463 ⟨vpS Z B (by omega), capL B (by omega), ?_⟩
  rw [a999 Z B (show 1 < 6 by omega)]
  refine t_L_commit hQI ⟨Nat.le_of_ble_eq_true rfl, c_commit I (by omega) (fun e => u_L_commit_13 (ret1 ⟨vpS Z B (by omega), ?_⟩)) (fun e e2 => u_L_commit_16 (ret1 ⟨vpS Z B (by omega), ?_⟩)) (fun e e2 u w h2 M => ⟨vp_in_nI (by omega) (by omega), ret1 ⟨vpS (h := sl h2 147 _ _) M.2.1.2.2.2.2 B (by omega), ?_⟩⟩)⟩
  · rw [a999 Z B (show 1 < 6 by omega)]
    exact s_commit0 I.ic.1 rfl (fun _ => tl_no (k := 1) (by omega) gi_same (G.go (by omega) (I.fz FZ0) (by omega) (by omega))) (fun y => by rw [e] at y; cases y) (fun y => by rw [e] at y; cases y.1)
  · rw [a999 Z B (show 1 < 6 by omega)]
    exact s_commit0 I.ic.1 rfl (fun y => by rw [e] at y; cases y) (fun _ _ => tl_no (k := 2) (by omega) gi_same (G.go (by omega) (I.fz FZ0) (by omega) (by omega))) (fun y => by rw [e2] at y; cases y.2)
  · rw [a999 (h := sl h2 147 _ _) M.2.1.2.2.2.2 B (show 1 < 6 by omega)]
    exact s_commit e e2 (by omega) (M.fz FZL) (fun h3 J g l => tl_ok g (okG l) (G.go (by omega) J (by omega) (by omega)))
theorem L_2532 (I : Inv z C E h) (B : LB z C E c i n) (G : GO z C E c i) : At m_L_law QL 2532 c (LLs (nI i) o6 o7 o8) [] h := by
  have Z := I.iz
  obtain ⟨r, a1, a2, a3, a4, a5, a6⟩ := I.ip
  refine u_L_law_2532 ⟨vpS Z B (by omega), capL B (by omega), ?_⟩
  rw [a999 Z B (show 1 < 6 by omega)]
  refine t_L_reportByte hQI ⟨Nat.le_of_ble_eq_true rfl, c_reportByte a1 a2 (fun e => u_L_reportByte_13 (ret1 ⟨vpS Z B (by omega), ?_⟩)) (fun e => ⟨vp_in_nI (by omega) (by omega), ret1 ⟨vpS Z B (by omega), ?_⟩⟩)⟩
  · rw [a999 Z B (show 1 < 6 by omega)]
    exact s_reportByte a1 a3 a4 a5 (fun _ => tl_no (k := 1) (by omega) gi_same (G.go (by omega) (I.fz FZ0) (by omega) (by omega))) (fun y => by rw [e] at y; cases y)
  · rw [a999s Z B (show 1 < 6 by omega)]
    obtain ⟨j, hj, ej⟩ := inR_t (by omega) e
    have ab : gi h 3 (nn (z 1 (i + 1))) = gi h 146 (nn (z 1 (i + 1))) := a6 _ (by rw [ej, nn_nI (by omega)]; exact hj)
    refine s_reportByte a1 a3 a4 a5 (fun y => by rw [e] at y; cases y) (fun _ => ?_)
    refine tl_ok gi_same (okLs.trans ?_) (G.go (by omega) (I.fz (FZL.trans FZ0)) (by omega) (by omega))
    rw [ab]
    rfl
theorem L_2614 (I : Inv z C E h) (B : LB z C E c i n) (G : GO z C E c i) : At m_L_law QL 2614 c (LLs (nI i) o6 o7 o8) [] h := by
  have hC := B.bC
  have hE := B.bE
  refine u_L_law_2614 ⟨capL B (by omega), ?_⟩
  refine t_L_restore hQI ⟨Nat.le_of_ble_eq_true rfl, c_restore I (fun e => u_L_restore_12 (ret1 (s_restore0 e (tl_no (k := 1) (by omega) gi_same (G.go (by omega) (I.fz FZ0) (by omega) (by omega)))))) (fun e h1 U => ⟨vp_in_nI (by omega) (by omega), ret1 (s_restore I e U.sl (fun h2 J g l => tl_ok g (okG l) (G.go (by omega) J (by omega) (by omega))))⟩)⟩
theorem L_2243 (I : Inv z C E h) (B : LB z C E c i n) (G : GO z C E c i) : At m_L_law QL 2243 c (LLs (nI i) o6 o7 o8) [] h := by
  have Z := I.iz
  have hC := B.bC
  have hE := B.bE
  refine u_L_law_2243 ⟨vpS Z B (by omega), vpS Z B (by omega), ?_⟩
  rw [a999 Z B (show 1 < 6 by omega)]
  rw [a999 Z B (show 2 < 6 by omega)]
  refine ⟨fun d => ⟨capL B (by omega), ?_⟩, fun d => ⟨capL B (by omega), ?_⟩⟩
  · refine t_L_hold hQI ⟨Nat.le_of_ble_eq_true rfl, c_hold (b := false) I (by omega) (fun e => u_L_hold_15 (ret1 ⟨vpS Z B (by omega), vpS Z B (by omega), ?_⟩)) (fun e e2 => u_L_hold_19 (ret1 ⟨vpS Z B (by omega), vpS Z B (by omega), ?_⟩)) (fun e e2 u w h2 M => ⟨vp_in_nI (by omega) (by omega), ret1 ⟨vpS (h := sl h2 147 _ _) M.2.1.2.2.2.2 B (by omega), vpS (h := sl h2 147 _ _) M.2.1.2.2.2.2 B (by omega), ?_⟩⟩)⟩
    · rw [a999 Z B (show 1 < 6 by omega)]
      rw [a999 Z B (show 2 < 6 by omega)]
      exact ⟨fun _ => s_hold0 (b := false) I.ic.1 rfl (fun _ => tl_no (k := 1) (by omega) gi_same (G.go (by omega) (I.fz FZ0) (by omega) (by omega))) (fun y => by rw [e] at y; cases y) (fun y => by rw [e] at y; cases y.1), fun d2 => absurd d d2⟩
    · rw [a999 Z B (show 1 < 6 by omega)]
      rw [a999 Z B (show 2 < 6 by omega)]
      exact ⟨fun _ => s_hold0 (b := false) I.ic.1 rfl (fun y => by rw [e] at y; cases y) (fun _ _ => tl_no (k := 2) (by omega) gi_same (G.go (by omega) (I.fz FZ0) (by omega) (by omega))) (fun y => by rw [e2] at y; cases y.2), fun d2 => absurd d d2⟩
    · rw [a999 (h := sl h2 147 _ _) M.2.1.2.2.2.2 B (show 1 < 6 by omega)]
      rw [a999 (h := sl h2 147 _ _) M.2.1.2.2.2.2 B (show 2 < 6 by omega)]
      exact ⟨fun _ => s_hold (b := false) e e2 (by omega) (M.fz FZL) (fun h3 J g l => tl_ok g (okG l) (G.go (by omega) J (by omega) (by omega))), fun d2 => absurd d d2⟩
  · refine t_L_hold hQI ⟨Nat.le_of_ble_eq_true rfl, c_hold (b := true) I (by omega) (fun e => u_L_hold_15 (ret1 ⟨vpS Z B (by omega), vpS Z B (by omega), ?_⟩)) (fun e e2 => u_L_hold_19 (ret1 ⟨vpS Z B (by omega), vpS Z B (by omega), ?_⟩)) (fun e e2 u w h2 M => ⟨vp_in_nI (by omega) (by omega), ret1 ⟨vpS (h := sl h2 147 _ _) M.2.1.2.2.2.2 B (by omega), vpS (h := sl h2 147 _ _) M.2.1.2.2.2.2 B (by omega), ?_⟩⟩)⟩
    · rw [a999 Z B (show 1 < 6 by omega)]
      rw [a999 Z B (show 2 < 6 by omega)]
      exact ⟨fun d2 => absurd d2 d, fun _ => s_hold0 (b := true) I.ic.1 rfl (fun _ => tl_no (k := 1) (by omega) gi_same (G.go (by omega) (I.fz FZ0) (by omega) (by omega))) (fun y => by rw [e] at y; cases y) (fun y => by rw [e] at y; cases y.1)⟩
    · rw [a999 Z B (show 1 < 6 by omega)]
      rw [a999 Z B (show 2 < 6 by omega)]
      exact ⟨fun d2 => absurd d2 d, fun _ => s_hold0 (b := true) I.ic.1 rfl (fun y => by rw [e] at y; cases y) (fun _ _ => tl_no (k := 2) (by omega) gi_same (G.go (by omega) (I.fz FZ0) (by omega) (by omega))) (fun y => by rw [e2] at y; cases y.2)⟩
    · rw [a999 (h := sl h2 147 _ _) M.2.1.2.2.2.2 B (show 1 < 6 by omega)]
      rw [a999 (h := sl h2 147 _ _) M.2.1.2.2.2.2 B (show 2 < 6 by omega)]
      exact ⟨fun d2 => absurd d2 d, fun _ => s_hold (b := true) e e2 (by omega) (M.fz FZL) (fun h3 J g l => tl_ok g (okG l) (G.go (by omega) J (by omega) (by omega)))⟩
end
