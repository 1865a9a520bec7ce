/-! ===== the class behind the law: its changes ===== -/
section
variable {q : Nat → PH → Prop} {kk : Int32 → PH → Prop} {kv : PH → Prop} {h h' h1 h2 g g2 : PH} {s t s' : RW} {C E D F u w j k v : Nat} {z : FI} {ps : List RW} {x y : Int32}
theorem CI.mono (hC : C ≤ D) (hE : E ≤ F) (c : CI C E s ps h) : CI D F s ps h := by
  obtain ⟨z, g, x, I, e, P⟩ := c
  exact ⟨z, g, x, I.mono hC hE, e, P⟩
theorem CI.ev (c : CI C E s ps h) (e : h' = h) : CI C E s ps h' := by rw [e]; exact c
theorem kp_134 (k : KpC u w g h1) (f : Fr (WS 60) h1 h2) : h2.1 134 = g.1 134 ∧ gi h2 130 21 = gi g 130 21 := by
  have a : ∀ c, 130 ≤ c → h2.1 c = g.1 c := fun c hc => (f.cell fun k => WS_f (by omega)).trans (k.1.cell fun k => WHi_f (by omega) (by omega))
  exact ⟨a 134 (by omega), congrFun (a 130 (by omega)) 21⟩
theorem cc_pass {n : Nat} (c : CI C E s ps h) (hC : C + 999 < 2 ^ 29) (hE : E + 30 * 999 < 2 ^ 31) (hn : n ≤ 999) (h20 : nn (s 11) + n ≤ 20000) (hl : ps.length ≤ 5) (K : ∀ h2 s2, eqR (itS n s) s2 → CI (C + 999) (E + 30 * 999) s2 (s :: ps) h2 → kk (itS n s 11) h2) : MetPM m_X11_pass [.ref 0, .int (nI n)] h (rI q kk) := by
  obtain ⟨z, g, x, I, e, P⟩ := c
  subst e
  have hm : mayP (g.1 132) (nI n) = true := by
    unfold mayP
    rw [I.ic.1.ck.1, nI_add, decide_eq_true (nI_le h20 (by decide)), Bool.and_true]
    exact inR_j (n := 1000) (by omega) (by decide)
  refine MetPM.gh x (t_X11_pass (c_canPass (Or.inl rfl) I.ic.2 (bp (fun e => by rw [hm] at e; cases e) (fun _ => c_keepI I (fun u w h1 b1 k1 X1 => ?_)))))
  refine c_passMinutes (Or.inl rfl) I.ic.1 (by omega) (by omega) X1 (fun h2 f2 X2 => ?_)
  have M := Mid.of I b1 k1 f2 X2 ((I.ic.1.it n (by omega) (by omega)).mono (show C + n ≤ C + 999 by omega) (show E + 30 * n ≤ E + 30 * 999 by omega)) (by omega) (by omega) (it_ag n)
  have fr := kp_134 k1 f2
  obtain ⟨s2, e2, c2⟩ := CI.upd M P fr.1 fr.2 hl
  exact K h2 s2 e2 c2
theorem cc_change (c : CI C E s ps h) (hC : C < 2 ^ 30) (hE : E + 1 < 2 ^ 31) (hk : k < nn (s 2)) (hv : v < nn (s 0)) (hw : whyN s k v = 0) (hl : ps.length ≤ 5) (K : ∀ h2 s2, eqR (begS s k (nI v)) s2 → CI C (E + 1) s2 (s :: ps) h2 → kk (s 11 + s 8) h2) : MetPM m_X11_change [.ref 0, .int (nI k), .int (nI v)] h (rI q kk) := by
  obtain ⟨z, g, x, I, e, P⟩ := c
  subst e
  have hv8 := I.ic.1.v.2
  have hm12 := I.ic.1.m.2
  have em : inM (g.1 132) (nI k) = true := inR_j hk (by omega)
  have ev : inV (g.1 132) (nI v) = true := inR_j hv (by omega)
  have hvv : isN (nI v) 7 ∧ nn (nI v) < nn (g.1 132 0) := ⟨isN_nI (by omega) (by decide), by rw [nn_nI (by omega)]; exact hv⟩
  refine MetPM.gh x (t_X11_change ⟨Nat.le_of_ble_eq_true rfl, c_needMember I.ic.1 I.ic.2.1 (fun e => by rw [em] at e; cases e) (fun _ => ⟨Nat.le_of_ble_eq_true rfl, c_needVersion I.ic.1 I.ic.2.1 (fun e5 => by rw [ev] at e5; cases e5) (fun _ => ?_)⟩)⟩)
  refine c_whyNotBegin (Or.inl rfl) I.ic.1 I.ic.2.1 I.ic.2.2 hk hv ?_
  rw [hw]
  refine ⟨fun _ => ?_, fun z => absurd rfl z⟩
  refine c_keepI I (fun u w h1 b1 k1 X1 => c_beginChange (Or.inl rfl) I.ic.1 (by omega) X1 hk hvv.1 (fun h2 f2 X2 => ?_))
  have M := Mid.of I b1 k1 f2 X2 (I.ic.1.beg hC (by omega) hk hvv) (Nat.le_refl _) (show E ≤ E + 1 by omega) agL_beg
  have fr := kp_134 k1 f2
  obtain ⟨s2, e2, c2⟩ := CI.upd M P fr.1 fr.2 hl
  exact K h2 s2 e2 c2
theorem cc_start (c : CI C E s ps h) (hE : E + 2 < 2 ^ 31) (hv : v < nn (s 0)) (hm : mayS s = true) (K : ∀ h2 s2, eqR (staS s v) s2 → CI C (E + 2) s2 [] h2 → kk (staR s v) h2) : MetPM m_X11_start [.ref 0, .int (nI v)] h (rI q kk) := by
  obtain ⟨z, g, x, I, e, P⟩ := c
  subst e
  have hv8 := I.ic.1.v.2
  have ev : inV (g.1 132) (nI v) = true := inR_j hv (by omega)
  refine MetPM.gh x (c_start I hE (fun e => by rw [ev] at e; cases e) (fun _ e => by rw [hm] at e; cases e) (fun _ _ u w h2 M => ?_))
  rw [show nn (nI v) = v from nn_nI (by omega)] at M ⊢
  obtain ⟨s2, e2, c2⟩ := CI.upd0 M
  exact K h2 s2 e2 c2
theorem cc_stop (c : CI C E s ps h) (hE : E + 1 < 2 ^ 31) (hg : going s = true) (K : ∀ h2 s2, eqR (stopS s) s2 → CI C (E + 1) s2 [] h2 → kk (s 15) h2) : MetPM m_X11_stop [.ref 0] h (rI q kk) := by
  obtain ⟨z, g, x, I, e, P⟩ := c
  subst e
  refine MetPM.gh x (c_stop I hE (fun e => by rw [hg] at e; cases e) (fun _ u w h2 M => ?_))
  obtain ⟨s2, e2, c2⟩ := CI.upd0 M
  exact K h2 s2 e2 c2
theorem cc_go (c : CI C E s ps h) (hE : E + 1 < 2 ^ 31) (hg : s 12 = nI 3) (K : ∀ h2 s2, eqR (gonS s) s2 → CI C (E + 1) s2 [] h2 → kk (s 15) h2) : MetPM m_X11_go [.ref 0] h (rI q kk) := by
  obtain ⟨z, g, x, I, e, P⟩ := c
  subst e
  refine MetPM.gh x (c_go I hE (fun e => absurd hg e) (fun _ u w h2 M => ?_))
  obtain ⟨s2, e2, c2⟩ := CI.upd0 M
  exact K h2 s2 e2 c2
theorem cc_hold {b : Bool} (c : CI C E s ps h) (hE : E + 1 < 2 ^ 31) (hk : k < nn (s 2)) (hb : ¬ decide (mf s k 5 = nI 1) = b) (K : ∀ h2 s2, eqR (hldS s k b) s2 → CI C (E + 1) s2 [] h2 → kk (nI (hldN (hldS s k b))) h2) : MetPM m_X11_hold [.ref 0, .int (nI k), .int (b2i b)] h (rI q kk) := by
  obtain ⟨z, g, x, I, e, P⟩ := c
  subst e
  have hm12 := I.ic.1.m.2
  have em : inM (g.1 132) (nI k) = true := inR_j hk (by omega)
  have en : nn (nI k) = k := nn_nI (by omega)
  have eh : hldB (g.1 132) (nI k) b = true := by
    unfold hldB
    rw [en, decide_eq_false hb]; rfl
  refine MetPM.gh x (c_hold I hE (fun e => by rw [em] at e; cases e) (fun _ e => by rw [eh] at e; cases e) (fun _ _ u w h2 M => ?_))
  rw [en] at M ⊢
  obtain ⟨s2, e2, c2⟩ := CI.upd0 M
  exact K h2 s2 e2 c2
theorem cc_report (c : CI C E s ps h) (hk : k < nn (s 2)) (hd : isD s k = false) (hj : j ≤ 999) (K : ∀ h2 s2, eqR (lyS s k 4 (nI j)) s2 → CI C E s2 [] h2 → kk (mf s k 4) h2) : MetPM m_X11_report [.ref 0, .int (nI k), .int (nI j)] h (rI q kk) := by
  obtain ⟨z, g, x, I, e, P⟩ := c
  subst e
  have hm12 := I.ic.1.m.2
  have em : inM (g.1 132) (nI k) = true := inR_j hk (by omega)
  have en : nn (nI k) = k := nn_nI (by omega)
  have ej : inR (nI j) 0 999 = true := inR_j (n := 1000) (by omega) (by decide)
  refine MetPM.gh x (c_report I (fun e => by rw [em] at e; cases e) (fun _ e => by rw [ej] at e; cases e) (fun _ _ e => by rw [en, hd] at e; cases e) (fun _ _ _ u w h2 M => ?_))
  rw [en] at M ⊢
  obtain ⟨s2, e2, c2⟩ := CI.upd0 M
  exact K h2 s2 e2 c2
theorem cc_commit (c : CI C E s ps h) (hE : E + 1 < 2 ^ 31) (hx : inR x 1 9 = true) (hw : whyF s x = 0) (K : ∀ h2 s2, eqR (fmtS s x) s2 → CI C (E + 1) s2 [] h2 → kk (s 5) h2) : MetPM m_X11_commit [.ref 0, .int x] h (rI q kk) := by
  obtain ⟨z, g, x9, I, e, P⟩ := c
  subst e
  refine MetPM.gh x9 (c_commit I hE (fun e => by rw [hx] at e; cases e) (fun _ e => by unfold comB at e; rw [decide_eq_true hw] at e; cases e) (fun _ _ u w h2 M => ?_))
  obtain ⟨s2, e2, c2⟩ := CI.upd0 M
  exact K h2 s2 e2 c2
theorem cc_undo (c : CI C E s (t :: ps) h) (K : ∀ h2 s2 n, eqR t s2 → CI C E s2 ps h2 → n < 6 → kk (nI n) h2) : MetPM m_X11_undo [.ref 0] h (rI q kk) := by
  obtain ⟨z, h0, x, I, e, P⟩ := c
  subst e
  refine MetPM.gh x (c_undo I (fun u w B => ?_))
  obtain ⟨v, v1, v2, v3, v4⟩ := P
  obtain ⟨b1, b2, b3, b4, b5, b6, b7⟩ := B
  have huv : u = v := (nI_eq (by omega) (by omega)).mp (b5.symm.trans v2)
  subst huv
  rw [List.length_cons] at v3
  refine ⟨fun z => by omega, fun hu h2 U => ?_⟩
  have et : eqR t (pst h0 (u - 1)) := v4 0 (by rw [List.length_cons]; omega)
  refine K h2 (pst h0 (u - 1)) (u - 1) et ?_ (by omega)
  obtain ⟨u1, u2, u3, u4, u5, u6⟩ := U
  generalize hg : si (gset h2 132 (pst h0 (u - 1))) 130 21 (nI (u - 1)) = h1
  have cell : ∀ c, c ≠ 130 → c ≠ 132 → h1.1 c = h2.1 c := fun c x1 x2 => by rw [← hg, si_b x1, gset_o x2]
  have c130 : ∀ k, k ≠ 21 → h1.1 130 k = h2.1 130 k := fun k x2 => by rw [← hg, si_a, ups_n x2, gset_o (by omega)]
  have e21 : h1.1 130 21 = nI (u - 1) := by rw [← hg, si_a, ups_s]
  have e12 : h1.2 = h0.2 := by rw [← hg]; exact u5
  have e132 : h1.1 132 = pst h0 (u - 1) := by rw [← hg, si_b (by omega), gset_a]
  obtain ⟨p1, p2, p3⟩ := b7 (u - 1) (by omega)
  have hx : hix u w (u - 1) = w := by unfold hix; omega
  rw [hx] at p3
  have all : ∀ c, (c < 60 ∨ 66 < c) → c ≠ 13 → c ≠ 130 → c ≠ 132 → h1.1 c = h0.1 c := fun c x1 x2 x3 x4 => (cell c x3 x4).trans (u1 c x1 x2)
  have fz : Fz WX VZ h0 h1 := ⟨fun b k e => by
    by_cases c : b = 130
    · subst c
      unfold WX WZ at e
      show h1.1 130 k = h0.1 130 k
      rw [c130 k (by omega), u1 130 (by omega) (by omega)]
    · unfold WX WZ at e
      show h1.1 b k = h0.1 b k
      rw [all b (by omega) (by omega) c (by omega)], fun b _ => by rw [e12], fun b _ => by rw [e12]⟩
  have X : CR 60 (pst h0 (u - 1)) h1 := by
    refine ⟨p2.heap fun b x1 x2 => all b (by omega) (by omega) (by omega) (by omega), ?_⟩
    exact (p3.cp p1.m.2 u6).heap (g := h1.1) fun b x1 x2 => cell b (by omega) (by omega)
  have cnt3 : ∀ i, i < 3 → h1.1 132 i = h0.1 132 i := fun i hi => by
    have Y := I.ic.2.1
    rw [e132]
    rcases (by omega : i = 0 ∨ i = 1 ∨ i = 2) with rfl | rfl | rfl
    · exact p2.nv.symm.trans Y.nv
    · exact p2.np.symm.trans Y.np
    · exact p2.nm.symm.trans Y.nm
  have M := MidB.fz fz (fun _ _ y => y) cnt3 ⟨I.it, I.inn, I.is, I.ip, I.iz⟩
  refine ⟨z, h1, fun a ha => ?_, ⟨⟨by rw [e132]; exact p1, by rw [e132]; exact X⟩, M.1, M.2.1, M.2.2.1, ⟨u - 1, (w + 5) % 6, by omega, Nat.mod_lt _ (by omega), ?_, ?_, e21, fun j hj => ?_, fun i hi => ?_⟩, M.2.2.2.1, M.2.2.2.2⟩, e132, ⟨u - 1, by omega, e21, by omega, fun i hi => ?_⟩⟩
  · have : h1.2 = h2.2 := by rw [← hg]; rfl
    exact ⟨cell a (by omega) (by omega), by rw [this], by rw [this], by rw [this]⟩
  · show h1.1 13 1 = _
    rw [cell 13 (by omega) (by omega)]; exact u3
  · show h1.1 13 2 = _
    rw [cell 13 (by omega) (by omega)]; exact u4
  · show h1.2.2.1 14 j = _
    rw [e12]; exact b6 j hj
  · obtain ⟨d1, d2, d3⟩ := b7 i (by omega)
    have eh : hix (u - 1) ((w + 5) % 6) i = hix u w i := by unfold hix; omega
    have := hix_lt (u := u) (w := w) (i := i)
    rw [pst_eq (all 134 (by omega) (by omega) (by omega) (by omega)), eh]
    exact ⟨d1, d2.heap fun b x1 x2 => all b (by omega) (by omega) (by omega) (by omega), d3.heap fun b x1 x2 => all b (by omega) (by omega) (by omega) (by omega)⟩
  · have := v4 (i + 1) (by rw [List.length_cons]; omega)
    rw [pst_eq (all 134 (by omega) (by omega) (by omega) (by omega)), show u - 1 - 1 - i = u - 1 - (i + 1) by omega]
    exact this
theorem cc_minutes {n : Nat} (c : CI C E s ps h) (hC : C + 2002 < 2 ^ 29) (hE : E + 30 * 2002 < 2 ^ 31) (hn : n ≤ 2000) (K : ∀ h2, CI C E s ps h2 → kk (pre1 (endF s n)) h2) : MetPM m_X11_minutesToEnd [.ref 0, .int (nI n)] h (rI q kk) := by
  obtain ⟨z, g, x, I, e, P⟩ := c
  subst e
  refine MetPM.gh x (c_minutesToEnd I.ic.1 hC hE I.ic.2 (fun e => by rw [show inR (nI n) 0 2000 = true from inR_j (n := 2001) (by omega) (by decide)] at e; cases e) (fun _ h2 f2 => ?_))
  rw [nn_nI (show n < 2 ^ 31 by omega)]
  have a : ∀ c, (c < 67 ∨ 73 < c) → h2.1 c = g.1 c := fun c hc => f2.cell fun k => WS_f (by omega)
  have fz : Fz WZ VZ g h2 := Fz.fr f2 (fun b k e => by
    have : ¬ (b < 67 ∨ 67 + 6 < b) := fun y => by
      rw [WS_f y] at e
      cases e
    unfold WZ; omega)
  exact K h2 ⟨z, h2, Gh.refl h2, I.fz fz, a 132 (by omega), P.le (a 134 (by omega)) (congrFun (a 130 (by omega)) 21)⟩
end
