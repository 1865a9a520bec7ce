/-! ===== the law: what an act does ===== -/
section
variable {kk : Int32 → PH → Prop} {h h' h0 h1 h2 : PH} {w k v j c cp : Nat} {W : WN} {s s' s0 s2 t : RW} {C E D F : Nat} {Q : Res → PH → Prop} {x y z : Int32} {ps : List RW} {S : List Nat}
/-- behind an act: m minutes, n events at most -/
def AcK (C E : Nat) (s : RW) (w m n : Nat) (Q : Res → PH → Prop) : Prop := ∀ h' s', StP (C + 999) (E + 30 * 999) s' w h' → agL s s' → nn (s' 11) = nn (s 11) + m → nn (s' 19) ≤ nn (s 19) + n → Q (.inl (some (.int (nI 1)))) h'
theorem StP.mono (hC : C ≤ D) (hE : E ≤ F) (S : StP C E s w h) : StP D F s w h := by
  obtain ⟨W, a, b⟩ := S
  exact ⟨W, a.mono hC hE, b⟩
/-- nothing was done -/
theorem AcK.non (K : AcK C E s w 0 2 Q) (S : StP C E s w h) : Q (.inl (some (.int (nI 1)))) h := K h s (S.mono (by omega) (by omega)) (agL.refl s) rfl (by omega)
/-- a change was done -/
theorem AcK.one {n : Nat} (K : AcK C E s w 0 2 Q) (ci : CI C (E + n) s2 [] h) (hn : n ≤ 2) (e : eqR s' s2) (X : WO h w W s') (hes : W.es.length = nn (s' 19)) (G : Good s') (h5 : inR (s' 5) 1 9 = true) (hm : 0 < nn (s' 2) ∧ nn (s' 2) ≤ 6) (hc : Kc h) (ag : agL s s') (e11 : s' 11 = s 11) (h19 : nn (s' 19) ≤ nn (s 19) + 2) : Q (.inl (some (.int (nI 1)))) h :=
  K h s2 ((StP.mk ci e X hes G h5 hm hc).mono (by omega) (by omega)) (ag.trans e.ag) (by rw [e 11 (by decide), e11]; rfl) (by rw [e 19 (by decide)]; exact h19)
theorem sta_lo {i : Nat} (hi : i < 12) : staS s v i = s i := by
  have h0 : staU s (nI v) i = s i := (staU_n (Or.inl hi)).trans (evS_lo (by omega) (by omega))
  unfold staS
  split
  · unfold doneS
    rw [evS_lo (by omega) (by omega), ups_n (by omega)]; exact h0
  · rw [ups_n (by omega), ups_n (by omega), ups_n (by omega)]; exact h0
theorem a_start (S : StP C E s w h) (hE : E + 2 < 2 ^ 31) (hv : v < nn (s 0)) (hcap : nn (s 19) + 2 ≤ 1200) (hcp : c + 312 ≤ cp) (K : AcK C E s w 0 2 Q) :
    Bt (wcap mq_L_acts cp) Q 124 c [some (.ref 0), some (.ref w), none, none, none, none, some (.int (nI v)), none, none, none] [] h := by
  obtain ⟨W, ci, X, hes, G, h5, hm, hc⟩ := id S
  have R := ci.R
  have non : ∀ c' , Bt (wcap mq_L_acts cp) Q 153 c' [none, none, none, none, none, none, none, none, none, none] [] h := fun c' => sq_L_acts_153 ⟨Or.inr rfl, K.non S⟩
  refine sq_L_acts_124 ⟨X.kw, ?_⟩
  rw [show gi h w 17 = s 3 from X.i.2.1.2.2.2.2.2.2.2.2.2.2]
  refine ⟨fun _ => non c, fun z => ⟨X.rc, c_wGoing X (fun _ => ⟨fun _ => non c, fun z2 => ⟨rfl, by omega, ?_⟩⟩)⟩⟩
  have hpos : 0 < nn (s 3) := by
    rcases Nat.eq_zero_or_pos (nn (s 3)) with q | q
    · exfalso; apply z; rw [R.w.1, q]; rfl
    · exact q
  have hms : mayS s = true := by
    unfold mayS
    rw [b2i_0.mp z2, decide_eq_false (fun q => by
      rw [R.w.1] at q
      exact nI_nle hpos (by have := R.w.2; omega) q)]; rfl
  refine cc_start ci hE hv hms (fun h1 s2 e c2 hi => ?_)
  have X1 := X.hi hi
  have hc1 := hc.md hi.md
  refine ⟨X1.rc, by omega, c_wStart X1 R hv (by omega) hes hcap (ms_ne X hm.1) hc1 (fun h2 W2 X2 hes2 hle2 hms2 l2 _ => eqd rfl (sq_L_acts_153 ⟨Or.inr rfl, ?_⟩))⟩
  exact K.one (c2.lw l2) (Nat.le_refl _) e X2 hes2 (G.sta R) (by rw [sta_lo (by decide)]; exact h5) (by rw [sta_lo (by decide)]; exact hm) (hc1.md l2.md) sta_ag (sta_lo (by decide)) hle2
theorem stop_e {i : Nat} (hi : i < 12) : stopS s i = s i := by unfold stopS; rw [evS_lo (by omega) (by omega), ups_n (by omega), ups_n (by omega)]
theorem a_stop (S : StP C E s w h) (hE : E + 2 < 2 ^ 31) (hcap : nn (s 19) + 2 ≤ 1200) (hcp : c + 153 ≤ cp) (K : AcK C E s w 0 2 Q) :
    Bt (wcap mq_L_acts cp) Q 159 c [some (.ref 0), some (.ref w), none, none, none, none, none, none, none, none] [] h := by
  obtain ⟨W, ci, X, hes, G, h5, hm, hc⟩ := id S
  have R := ci.R
  refine sq_L_acts_159 ⟨X.rc, c_wGoing X (fun _ => ⟨fun z => ⟨X.kw, X.rc, by omega, ?_⟩, fun _ => ⟨Or.inr rfl, K.non S⟩⟩)⟩
  have hg : going s = true := by
    cases q : going s
    · exact absurd (b2i_0.mpr q) z
    · rfl
  have p11 : gi h w 11 = s 15 := (X.i.2.2.1 (hasP_going hg)).2.2.1
  rw [p11]
  refine c_wStop X hg hc (by omega) (ms_ne X hm.1) (fun h1 v1 q X1 f1 l1 _ => ⟨rfl, by omega, cc_stop (ci.lw l1) (by omega) hg (fun h2 s2 e c2 hi => eqd rfl ⟨Or.inr rfl, ?_⟩)⟩)
  have RL : RkL (ups (ups s 18 (s 12)) 12 (nI 3)) := RkL.congr ((agL_up (by omega)).trans (agL_up (by omega))) R.1
  have e19 : stopS s 19 = s 19 + nI 1 := by
    unfold stopS
    rw [evS_19, ups_n (by omega), ups_n (by omega)]
  have e19 := isN_19 (t := stopS s) R.2.2.2 (by omega) e19
  refine K.one c2 (by omega) e ((X1.evs RL).hi hi) ?_ (G.stop R) (by rw [stop_e (by decide)]; exact h5) (by rw [stop_e (by decide)]; exact hm) ((hc.md l1.md).md hi.md) stop_ag (stop_e (by decide)) (by rw [e19.2]; omega)
  rw [e19.2]
  show (W.es ++ [q]).length = _
  rw [List.length_append, hes]; rfl
theorem a_go (S : StP C E s w h) (hE : E + 2 < 2 ^ 31) (hcap : nn (s 19) + 2 ≤ 1200) (hcp : c + 153 ≤ cp) (K : AcK C E s w 0 2 Q) :
    Bt (wcap mq_L_acts cp) Q 193 c [some (.ref 0), some (.ref w), none, none, none, none, none, none, none, none] [] h := by
  obtain ⟨W, ci, X, hes, G, h5, hm, hc⟩ := id S
  have R := ci.R
  refine sq_L_acts_193 ⟨X.kw, ?_⟩
  rw [show gi h w 8 = s 12 from X.i.2.1.2.2.2.2.2.2.2.1]
  refine ⟨fun _ => sq_L_acts_212 ⟨Or.inr rfl, K.non S⟩, fun z => ⟨rfl, by omega, cc_go ci (by omega) z (fun h1 s2 e c2 hi => ?_)⟩⟩
  have X1 := X.hi hi
  have hc1 := hc.md hi.md
  refine ⟨X1.rc, by omega, c_wGo X1 z (R.2.2.1.wa z) hc1 (by omega) (ms_ne X hm.1) (fun h2 v2 q X2 f2 l2 _ => eqd rfl (sq_L_acts_212 ⟨Or.inr rfl, ?_⟩))⟩
  have RL : RkL (ups s 12 (s 18)) := RkL.congr (agL_up (by omega)) R.1
  have lo : ∀ i, i < 12 → gonS s i = s i := fun i hi => by unfold gonS; rw [evS_lo (by omega) (by omega), ups_n (by omega)]
  have e19 : gonS s 19 = s 19 + nI 1 := by
    unfold gonS
    rw [evS_19, ups_n (by omega)]
  have e19 := isN_19 (t := gonS s) R.2.2.2 (by omega) e19
  refine K.one (c2.lw l2) (by omega) e (X2.evs RL) ?_ (G.gon R) (by rw [lo _ (by decide)]; exact h5) (by rw [lo _ (by decide)]; exact hm) (hc1.md l2.md) gon_ag (lo _ (by decide)) (by rw [e19.2]; omega)
  rw [e19.2]
  show (W.es ++ [q]).length = _
  rw [List.length_append, hes]; rfl
theorem a_hold1 {b : Bool} (S : StP C E s w h) (hE : E + 2 < 2 ^ 31) (hk : k < nn (s 2)) (hb : mf s k 5 = b2i (!b)) (hcap : nn (s 19) + 2 ≤ 1200) (hcp : c + 155 ≤ cp) (K : AcK C E s w 0 2 Q) :
    (0 : Nat) = 0 ∧ ((c + 2) ≤ cp ∧ MetPM m_X11_hold [.ref 0, .int (nI k), .int (b2i b)] h (rI (fun _ _ => False) (fun x16 h15 => Hi h h15 → (rcvQ h15 w 2 ∧ (((c + 2) + 153) ≤ cp ∧ MetQ mq_X13_hold [.ref w, .int (nI k), .int (b2i b)] h15 (rI (fun _ _ => False) (fun x18 h17 => Lw h15 h17 → ((¬ x16 = x18 → (isB (nI 0) ∧ Q (.inl (some (.int (nI 0)))) h17)) ∧ (x16 = x18 → (isB (nI 1) ∧ Q (.inl (some (.int (nI 1)))) h17)))))))))) := by
  obtain ⟨W, ci, X, hes, G, h5, hm, hc⟩ := id S
  have R := ci.R
  have hk2 : k < W.ms.length := by rw [X.m.2.1]; exact hk
  have hm12 := R.m.2
  have hne : ¬ decide (mf s k 5 = nI 1) = b := by rw [hb]; cases b <;> decide
  refine ⟨rfl, by omega, cc_hold ci (by omega) hk hne (fun h1 s2 e c2 hi => ?_)⟩
  have X1 := X.hi hi
  have hc1 := hc.md hi.md
  refine ⟨X1.rc, by omega, c_wHold X1 R.v.2 R.p.2 hk2 (isB_b2i b) hc1 (by omega) (fun h2 v2 q X2 f2 l2 _ => eqd ?_ ⟨Or.inr rfl, ?_⟩)⟩
  · have RL5 : Rk C E (lyS s k 5 (b2i b)) := R.ly hk (Or.inr ⟨rfl, by cases b <;> first | exact Or.inl rfl | exact Or.inr rfl⟩)
    have e2 : lyS s k 5 (b2i b) 2 = s 2 := lyS_lo (by decide)
    show nI (hldN (hldS s k b)) = nI (cnt (nn (s 2)) (heldM (lyS s k 5 (b2i b))))
    unfold hldN
    rw [hld_ag.n2]
    refine congrArg nI (cnt_eq fun i hi => ?_)
    unfold heldM hldS
    rw [mf_ev (by omega) (by decide), he_b RL5 (by rw [e2]; exact hi), Bool.not_not]
  · have RL : RkL (lyS s k 5 (b2i b)) := RkL.congr (agL_ly (by omega) (by omega)) R.1
    have lo : ∀ i, i < 12 → hldS s k b i = s i := fun i hi => by unfold hldS; rw [evS_lo (by omega) (by omega), lyS_lo (by omega)]
    have e19 : hldS s k b 19 = s 19 + nI 1 := by
      unfold hldS
      rw [evS_19, lyS_lo (by omega)]
    have e19 := isN_19 (t := hldS s k b) R.2.2.2 (by omega) e19
    refine K.one (c2.lw l2) (by omega) e (WO.evs (s := lyS s k 5 (b2i b)) X2 RL) ?_ (G.hld R hk) (by rw [lo _ (by decide)]; exact h5) (by rw [lo _ (by decide)]; exact hm) (hc1.md l2.md) hld_ag (lo _ (by decide)) (by rw [e19.2]; omega)
    rw [e19.2]
    show (W.es ++ [q]).length = _
    rw [List.length_append, hes]; rfl
end
