/-! ===== the law: begins ===== -/
section
variable {kk : Int32 → PH → Prop} {h h' h0 h1 h2 : PH} {w k v j c cp i b : Nat} {W : WN} {s s' s0 s2 t : RW} {C E D F : Nat} {Q : Res → PH → Prop} {x y z : Int32} {ps : List RW} {S : List Nat}
theorem q_open (X : CR 60 s h) (R : Rk C E s) (hk : k < nn (s 2)) (K : kk (mk (nn (s 0)) (fun v => decide (whyN s k v = 0))) h) : MetPM m_X11_open [.ref 0, .int (nI k)] h (rI qF kk) := by
  have hm := R.m.2
  refine c_open R X (fun e => by rw [show inM s (nI k) = true from inR_j hk (by omega)] at e; cases e) (fun _ => ?_)
  rw [nn_nI (by omega)]; exact K
theorem q_event (X : CR 60 s h) (hk : 0 < kEv s) (hj : j < 4) (K : kk (evtV s 0 j) h) : MetPM m_X11_event [.ref 0, .int (nI 0), .int (nI j)] h (rI qF kk) := by
  have h30 := (kEv_le (s := s)).1
  refine c_event X (fun e => by rw [show inE s (nI 0) = true from inR_j hk (by omega)] at e; cases e) (fun _ e => by rw [show inR (nI j) 0 3 = true from inR_j (n := 4) hj (by decide)] at e; cases e) (fun _ _ => ?_)
  rw [nn_nI (show 0 < 2 ^ 31 by decide), nn_nI (by omega)]; exact K
theorem q_reason (X : CR 60 s h) (R : Rk C E s) (hk : k < nn (s 2)) (hv : v < nn (s 0)) (K : kk (nI (whyN s k v)) h) : MetPM m_X11_reason [.ref 0, .int (nI k), .int (nI v)] h (rI qF kk) := by
  have hm := R.m.2
  have hv8 := R.v.2
  refine c_reason R X (fun e => by rw [show inM s (nI k) = true from inR_j hk (by omega), show inV s (nI v) = true from inR_j hv (by omega)] at e; cases e) (fun _ => ?_)
  rw [nn_nI (by omega), nn_nI (by omega)]; exact K
theorem c_begin1 (S : StP C E s w h) (hC : C + 999 < 2 ^ 29) (hE : E + 1 + 30 * 999 < 2 ^ 31) (hclk : nn (s 11) + 99 ≤ 20000) (h19 : nn (s 19) ≤ 1200) (hk : k < nn (s 2)) (hv : v < nn (s 0)) (hw : whyN s k v = 0) (hcc : c ≤ 100) {c0 : Nat} (hc0 : c0 = c + 1) (K : ∀ h' s', StP (C + 999) (E + 1 + 30 * 999) s' w h' → eqR s s' → Q (.inl (some (.int (nI 1)))) h') :
    ((0 : Nat) = 0 ∧ ((c0 + 2) ≤ 800 ∧ MetPM m_X11_member [.ref 0, .int (nI k), .int (nI 1)] h (rI (fun _ _ => False) (fun x20 h19 => Hi h h19 → ((0 : Nat) = 0 ∧ (((c0 + 2) + 3) ≤ 800 ∧ MetPM m_X11_change [.ref 0, .int (nI k), .int (nI v)] h19 (rI (fun _ _ => False) (fun x22 h21 => Hi h19 h21 → (qkd h21 w = 2 ∧ ((0 : Nat) = 0 ∧ ((((c0 + 2) + 3) + 1) ≤ 800 ∧ MetPM m_X11_setting [.ref 0, .int (nI 8)] h21 (rI (fun _ _ => False) (fun x24 h23 => Hi h21 h23 → ((¬ x22 = ((gi h21 w 6) + x24) → Bt mq_L_begins Q 132 (((c0 + 2) + 3) + 1) [none, none, none, none, none, none, none] [] h23) ∧ (x22 = ((gi h21 w 6) + x24) → ((0 : Nat) = 0 ∧ (((((c0 + 2) + 3) + 1) + 2) ≤ 800 ∧ MetPM m_X11_member [.ref 0, .int (nI k), .int (nI 1)] h23 (rI (fun _ _ => False) (fun x26 h25 => Hi h23 h25 → ((¬ x26 = x20 → Bt mq_L_begins Q 132 ((((c0 + 2) + 3) + 1) + 2) [none, none, none, none, none, none, none] [] h25) ∧ (x26 = x20 → ((0 : Nat) = 0 ∧ ((((((c0 + 2) + 3) + 1) + 2) + 2) ≤ 800 ∧ MetPM m_X11_member [.ref 0, .int (nI k), .int (nI 2)] h25 (rI (fun _ _ => False) (fun x28 h27 => Hi h25 h27 → ((¬ x28 = nI v → Bt mq_L_begins Q 132 (((((c0 + 2) + 3) + 1) + 2) + 2) [none, none, none, none, none, none, none] [] h27) ∧ (x28 = nI v → ((0 : Nat) = 0 ∧ (((((((c0 + 2) + 3) + 1) + 2) + 2) + 1) ≤ 800 ∧ MetPM m_X11_event [.ref 0, .int (nI 0), .int (nI 1)] h27 (rI (fun _ _ => False) (fun x30 h29 => Hi h27 h29 → ((¬ x30 = 0 → Bt mq_L_begins Q 132 ((((((c0 + 2) + 3) + 1) + 2) + 2) + 1) [none, none, none, none, none, none, none] [] h29) ∧ (x30 = 0 → ((0 : Nat) = 0 ∧ ((((((((c0 + 2) + 3) + 1) + 2) + 2) + 1) + 1) ≤ 800 ∧ MetPM m_X11_event [.ref 0, .int (nI 0), .int (nI 3)] h29 (rI (fun _ _ => False) (fun x32 h31 => Hi h29 h31 → ((¬ x32 = nI v → Bt mq_L_begins Q 132 (((((((c0 + 2) + 3) + 1) + 2) + 2) + 1) + 1) [none, none, none, none, none, none, none] [] h31) ∧ (x32 = nI v → (((((((((c0 + 2) + 3) + 1) + 2) + 2) + 1) + 1) + 500) ≤ 800 ∧ MetQ mq_L_holds [.ref 0, .ref w] h31 (rI (fun _ _ => False) (fun x34 h33 => Md h31 h33 → ((¬ x34 = 0 → ((0 : Nat) = 0 ∧ ((((((((((c0 + 2) + 3) + 1) + 2) + 2) + 1) + 1) + 500) + 1) ≤ 800 ∧ MetPM m_X11_setting [.ref 0, .int (nI 8)] h33 (rI (fun _ _ => False) (fun x36 h35 => Hi h33 h35 → ((0 : Nat) = 0 ∧ (((((((((((c0 + 2) + 3) + 1) + 2) + 2) + 1) + 1) + 500) + 1) + 1) ≤ 800 ∧ MetPM m_X11_pass [.ref 0, .int x36] h35 (rI (fun _ _ => False) (fun x38 h37 => Hi h35 h37 → (qkd h37 w = 2 ∧ ((0 : Nat) = 0 ∧ ((((((((((((c0 + 2) + 3) + 1) + 2) + 2) + 1) + 1) + 500) + 1) + 1) + 1) ≤ 800 ∧ MetPM m_X11_setting [.ref 0, .int (nI 8)] h37 (rI (fun _ _ => False) (fun x40 h39 => Hi h37 h39 → ((¬ x38 = ((gi h37 w 6) + x40) → Bt mq_L_begins Q 180 (((((((((((c0 + 2) + 3) + 1) + 2) + 2) + 1) + 1) + 500) + 1) + 1) + 1) [none, none, none, none, none, none, none] [] h39) ∧ (x38 = ((gi h37 w 6) + x40) → ((0 : Nat) = 0 ∧ (((((((((((((c0 + 2) + 3) + 1) + 2) + 2) + 1) + 1) + 500) + 1) + 1) + 1) + 2) ≤ 800 ∧ MetPM m_X11_member [.ref 0, .int (nI k), .int (nI 1)] h39 (rI (fun _ _ => False) (fun x42 h41 => Hi h39 h41 → ((¬ x42 = nI v → Bt mq_L_begins Q 180 ((((((((((((c0 + 2) + 3) + 1) + 2) + 2) + 1) + 1) + 500) + 1) + 1) + 1) + 2) [none, none, none, none, none, none, none] [] h41) ∧ (x42 = nI v → ((0 : Nat) = 0 ∧ ((((((((((((((c0 + 2) + 3) + 1) + 2) + 2) + 1) + 1) + 500) + 1) + 1) + 1) + 2) + 2) ≤ 800 ∧ MetPM m_X11_member [.ref 0, .int (nI k), .int (nI 4)] h41 (rI (fun _ _ => False) (fun x44 h43 => Hi h41 h43 → ((x44 = 0 → ((0 : Nat) = 0 ∧ MetPM m_X11_undo [.ref 0] h43 (rI (fun _ _ => False) (fun x46 h45 => Hi h43 h45 → ((x46 < 0 → Bt mq_L_begins Q 208 (((((((((((((c0 + 2) + 3) + 1) + 2) + 2) + 1) + 1) + 500) + 1) + 1) + 1) + 2) + 2) [none, none, none, none, none, none, none] [] h45) ∧ (¬ x46 < 0 → ((0 : Nat) = 0 ∧ MetPM m_X11_undo [.ref 0] h45 (rI (fun _ _ => False) (fun x48 h47 => Hi h45 h47 → ((x48 < 0 → Bt mq_L_begins Q 208 (((((((((((((c0 + 2) + 3) + 1) + 2) + 2) + 1) + 1) + 500) + 1) + 1) + 1) + 2) + 2) [none, none, none, none, none, none, none] [] h47) ∧ (¬ x48 < 0 → (((((((((((((((c0 + 2) + 3) + 1) + 2) + 2) + 1) + 1) + 500) + 1) + 1) + 1) + 2) + 2) + 150) ≤ 800 ∧ MetQ mq_L_alike [.ref 0, .ref w] h47 (rI (fun _ _ => False) (fun x50 h49 => Md h47 h49 → ((x50 = 0 → Bt mq_L_begins Q 208 ((((((((((((((c0 + 2) + 3) + 1) + 2) + 2) + 1) + 1) + 500) + 1) + 1) + 1) + 2) + 2) + 150) [none, none, none, none, none, none, none] [] h49) ∧ (¬ x50 = 0 → (isB (nI 1) ∧ Q (.inl (some (.int (nI 1)))) h49))))))))))))))))) ∧ (¬ x44 = 0 → Bt mq_L_begins Q 180 (((((((((((((c0 + 2) + 3) + 1) + 2) + 2) + 1) + 1) + 500) + 1) + 1) + 1) + 2) + 2) [none, none, none, none, none, none, none] [] h43)))))))))))))))))))))))))))) ∧ (x34 = 0 → Bt mq_L_begins Q 132 ((((((((c0 + 2) + 3) + 1) + 2) + 2) + 1) + 1) + 500) [none, none, none, none, none, none, none] [] h33)))))))))))))))))))))))))))))))))))))))))))) := by
  obtain ⟨W, ci, X, hes, G, h5, hm, hc⟩ := id S
  have R := ci.R
  have hm12 := R.m.2
  have hv8 := R.v.2
  have htk := R.tk
  have htk1 := R.tk1
  have hck := R.ck
  have hck2 := hck.2
  refine ⟨rfl, by omega, q_mem ci.X R hk (by decide) (fun _ => ⟨rfl, by omega, cc_change ci (by omega) (by omega) hk hv hw (by decide) (fun h1 s1 e1 c1 hi1 => ?_)⟩)⟩
  have R1 := c1.R
  have X1 := X.hi hi1
  have lo : ∀ i, i < 49 → i ≠ 19 → s1 i = s i := fun i h1 h2 => (e1 i (by omega)).trans (beg_lo h1 h2)
  have em : ∀ i, i < 7 → mf s1 k i = mf (begS s k (nI v)) k i := fun i hi => e1.mf (by omega) hi
  have hk1 : k < nn (s1 2) := by rw [lo 2 (by decide) (by decide)]; exact hk
  have f1 : mf s1 k 1 = mf s k 1 := (em 1 (by decide)).trans (beg_o (by omega) (by decide) (by omega))
  have f2 : mf s1 k 2 = nI v := (em 2 (by decide)).trans (beg_2 (by omega))
  have f3 : mf s1 k 3 = s 11 + s 8 := (em 3 (by decide)).trans (beg_3 (by omega))
  have d1 : isD s1 k = true := isD_n (b := 8) (by rw [f2]; exact isN_nI (by omega) (by decide))
  obtain ⟨ev0, ev1, ev3⟩ := ev_new (s := lyS (lyS s k 2 (nI v)) k 3 (s 11 + s 8)) (a := nI 0) (b := nI k) (c := nI v) (t := s1) (E := E) (by rw [lyS_lo (by decide), lyS_lo (by decide)]; exact R.2.2.2) (by omega) e1
  have G1 : Good s1 := (G.beg R hk hv hw).eqR (R1.eqR e1.symm) e1
  have e8 : s1 8 = s 8 := lo 8 (by decide) (by decide)
  have e11 : s1 11 = s 11 := lo 11 (by decide) (by decide)
  refine ⟨X1.kw, rfl, by omega, q_set c1.X (by decide) (fun _ => ?_)⟩
  rw [show gi h1 w 6 = s 11 from X1.i.2.1.2.2.2.2.2.2.1]
  refine eqd (by rw [e8]) ⟨rfl, by omega, q_mem c1.X R1 hk1 (by decide) (fun _ => eqd (by rw [mbV_f (by decide), mbV_f (by decide)]; exact f1) ⟨rfl, by omega, q_mem c1.X R1 hk1 (by decide) (fun _ => eqd (by rw [mbV_f (by decide)]; exact f2) ⟨rfl, by omega, q_event c1.X ev0 (by decide) (fun _ => eqd ev1 ⟨rfl, by omega, q_event c1.X ev0 (by decide) (fun _ => eqd ev3 ⟨by omega, ?_⟩)⟩)⟩)⟩)⟩
  refine c_holds (by omega) c1 X1 (lo 1 (by decide) (by decide)).symm (lo 2 (by decide) (by decide)).symm G1 (by rw [lo 2 (by decide) (by decide)]; exact hm.2) (by omega) (by rw [lo 5 (by decide) (by decide)]; exact h5) (fun _ => ⟨fun _ => ?_, fun z => absurd z (by decide)⟩)
  refine ⟨rfl, by omega, q_set c1.X (by decide) (fun _ => ⟨rfl, by omega, ?_⟩)⟩
  have h899 := htk.2
  rw [e8, htk.1]
  refine cc_pass c1 (by omega) (by omega) (by omega) (by rw [e11]; omega) (by show 1 ≤ 5; decide) (fun h2 s3 e3 c3 hi3 => ?_)
  have X2 := X1.hi hi3
  have R3 := c3.R
  obtain ⟨n, en⟩ : ∃ n, nn (s 8) = n + 1 := ⟨nn (s 8) - 1, by omega⟩
  have ag := it_ag (s := s1) (nn (s 8))
  have fin := it_end R1 (by omega) (by omega) hk1 d1 (n := n) (by omega) (by rw [f3, e11, hck.1, htk.1, nI_add, en, nn_nI (by omega)]; rfl)
  rw [← en] at fin
  have e38 : s3 8 = s 8 := (e3 8 (by decide)).trans ((ag 8 (by omega)).trans e8)
  have e32 : s3 2 = s 2 := (e3 2 (by decide)).trans (ag.n2.trans (lo 2 (by decide) (by decide)))
  have hk3 : k < nn (s3 2) := by rw [e32]; exact hk
  refine ⟨X2.kw, rfl, by omega, q_set c3.X (by decide) (fun _ => ?_)⟩
  rw [show gi h2 w 6 = s 11 from X2.i.2.1.2.2.2.2.2.2.1]
  refine eqd ?_ ⟨rfl, by omega, q_mem c3.X R3 hk3 (by decide) (fun _ => eqd ?_ ⟨rfl, by omega, q_mem c3.X R3 hk3 (by decide) (fun _ => ⟨fun _ => ?_, fun z => absurd ?_ z⟩)⟩)⟩
  · rw [it_11 R1, e11, e38, hck.1, htk.1, nI_add, nn_nI (by omega), nn_nI (by omega)]
  · rw [mbV_f (by decide), e3.mf (by omega) (by decide), fin.1, f2]
  · refine ⟨rfl, cc_undo c3 (fun h4 s4 n4 e4 c4 hn4 hi4 => ⟨fun z => absurd z (nI_pos (by omega)), fun _ => ⟨rfl, cc_undo c4 (fun g5 s5 n5 e5 c5 hn5 hi5 => ⟨fun z => absurd z (nI_pos (by omega)), fun _ => ⟨by omega, ?_⟩⟩)⟩⟩)⟩
    have X5 := ((X2.hi hi4).hi hi5)
    have hc5 := (((hc.md hi1.md).md hi3.md).md hi4.md).md hi5.md
    have e19 : s5 19 = s 19 := e5 19 (by decide)
    have e2 : s5 2 = s 2 := e5 2 (by decide)
    have e55 : s5 5 = s 5 := e5 5 (by decide)
    refine c_alike c5 (X5.row R.1 (fun i h1 _ => e5 i (by omega))) (by rw [e2]; exact hm.2) (by rw [e19]; exact hes) (by rw [e19]; exact h19) (fun h6 c6 X6 l6 _ => ⟨fun z => absurd z (by decide), fun _ => ⟨Or.inr rfl, ?_⟩⟩)
    refine K h6 s5 ⟨W, c6, X6, by rw [e19]; exact hes, G.eqR R e5, by rw [e55]; exact h5, by rw [e2]; exact hm, hc5.md l6.md⟩ e5
  · rw [mbV_f (by decide), e3.mf (by omega) (by decide)]; exact fin.2
end
