/-! ===== the law: what an act does, 2 ===== -/
section
variable {kk : Int32 → PH → Prop} {h h' h0 h1 h2 : PH} {w k v j c cp q7 : Nat} {W : WN} {s s' s0 s2 t : RW} {C E D F : Nat} {Q : Res → PH → Prop} {x y z : Int32} {ps : List RW} {S : List Nat}
theorem a_hold (S : StP C E s w h) (hE : E + 2 < 2 ^ 31) (hk : k < nn (s 2)) (hq : ∃ W, WO h w W s ∧ q7 = W.ms.getD k 0) (hcap : nn (s 19) + 2 ≤ 1200) (hcp : c + 155 ≤ cp) (K : AcK C E s w 0 2 Q) :
    Bt (wcap mq_L_acts cp) Q 218 c [some (.ref 0), some (.ref w), none, none, none, some (.int (nI k)), none, some (.ref q7), none, none] [] h := by
  obtain ⟨W, X, rfl⟩ := hq
  have R : Rk C E s := by
    obtain ⟨W, ci, -⟩ := S
    exact ci.R
  have hk2 : k < W.ms.length := by rw [X.m.2.1]; exact hk
  refine sq_L_acts_218 ⟨X.km hk2, ?_⟩
  rw [X.f hk2 (show 5 < 6 by decide)]
  refine ⟨fun z => ?_, fun z => ?_⟩
  · exact a_hold1 (b := false) S hE hk ((R.he k hk).resolve_left z) hcap hcp K
  · exact a_hold1 (b := true) S hE hk z hcap hcp K
theorem a_report (S : StP C E s w h) (hk : k < nn (s 2)) (hv : v < 4000) (hq : ∃ W, W.es.length = nn (s 19) ∧ WO h w W s ∧ q7 = W.ms.getD k 0) (hcp : c + 3 ≤ cp) (K : AcK C E s w 0 2 Q) :
    Bt (wcap mq_L_acts cp) Q 258 c [some (.ref 0), none, none, none, some (.int (nI v)), some (.int (nI k)), none, some (.ref q7), none, none] [] h := by
  obtain ⟨W, hes, X, rfl⟩ := hq
  obtain ⟨W0, ci, X0, hes0, G, h5, hm, hc⟩ := id S
  have R := ci.R
  have hk2 : k < W.ms.length := by rw [X.m.2.1]; exact hk
  have hm2 := (X.m.2.2.2 k hk2).1
  have km := X.km hk2
  refine sq_L_acts_258 ⟨Or.inl km, c_mUp km (fun z2 _ => ⟨fun _ => ?_, fun y => absurd y (by decide)⟩) (fun z2 _ => ⟨fun y => absurd rfl y, fun _ => ⟨Or.inr rfl, K.non S⟩⟩)⟩
  rw [X.f hk2 (show 2 < 6 by decide)] at z2
  have hd := (up_c R hk).1 z2
  rw [pk_rem (show v < 2 ^ 31 by omega) (by decide) (by decide), X.f hk2 (show 4 < 6 by decide)]
  have X1 := X.mb (x := nI (v % 100)) R.v.2 R.p.2 hk2 (j := 4) (by decide)
  have l1 : Lw h (si h (W.ms.getD k 0) 4 (nI (v % 100))) := (Oth.si h _ 4 _).lw hm2
  refine ⟨km, by decide, km, by decide, rfl, by omega, cc_report (ci.lw l1) hk hd (by omega) (fun h2 s2 e c2 hi => eqd rfl ⟨Or.inr rfl, ?_⟩)⟩
  have lo : ∀ i, i < 49 → lyS s k 4 (nI (v % 100)) i = s i := fun i hi => lyS_lo hi
  exact K.one (n := 0) c2 (by omega) e (X1.hi hi) (by
    show W.es.length = nn (lyS s k 4 (nI (v % 100)) 19)
    rw [lo 19 (by decide)]; exact hes) (G.rep R hk) (by
    show inR (lyS s k 4 (nI (v % 100)) 5) 1 9 = true
    rw [lo 5 (by decide)]; exact h5) (by
    show 0 < nn (lyS s k 4 (nI (v % 100)) 2) ∧ nn (lyS s k 4 (nI (v % 100)) 2) ≤ 6
    rw [lo 2 (by decide)]; exact hm) ((hc.md l1.md).md hi.md) (agL_ly (by omega) (by omega)) (lo 11 (by decide)) (by
    show nn (lyS s k 4 (nI (v % 100)) 19) ≤ _
    rw [lo 19 (by decide)]; omega)
theorem a_change (S : StP C E s w h) (hC : C < 2 ^ 30) (hE : E + 2 < 2 ^ 31) (hk : k < nn (s 2)) (hv : v < nn (s 0)) (hq : ∃ W, W.es.length = nn (s 19) ∧ WO h w W s ∧ q7 = W.ms.getD k 0) (hcap : nn (s 19) + 2 ≤ 1200) (hcp : c + 158 ≤ cp) (K : AcK C E s w 0 2 Q) :
    Bt (wcap mq_L_acts cp) Q 307 c [some (.ref 0), some (.ref w), none, none, none, some (.int (nI k)), some (.int (nI v)), some (.ref q7), none, none] [] h := by
  obtain ⟨W, hes, X, rfl⟩ := hq
  obtain ⟨W0, ci, X0, hes0, G, h5, hm, hc⟩ := id S
  have R := ci.R
  have hv8 := R.v.2
  have hm12 := R.m.2
  have hk2 : k < W.ms.length := by rw [X.m.2.1]; exact hk
  have hw7 : whyN s k v ≤ 7 := whyN_le
  refine sq_L_acts_307 ⟨X.rc, by omega, c_wWhy X R hk2 hv (fun h1 f1 l1 _ => ⟨rfl, by omega, ?_⟩)⟩
  have c1 := ci.lw l1
  have X1 := X.f0 f1 l1.md
  have hc1 := hc.md l1.md
  have em : (inM s (nI k) && inV s (nI v)) = true := by
    rw [show inM s (nI k) = true from inR_j hk (by omega), show inV s (nI v) = true from inR_j hv (by omega)]; rfl
  refine c_reason R c1.X (fun e => by rw [em] at e; cases e) (fun _ _ => eqc (by rw [nn_nI (by omega), nn_nI (by omega)]) ⟨fun z => ?_, fun _ => ⟨Or.inr rfl, ?_⟩⟩)
  · have hw0 : whyN s k v = 0 := by
      rcases Nat.eq_zero_or_pos (whyN s k v) with q | q
      · exact q
      · exact absurd z (nI_nle q (by omega))
    refine ⟨X1.rc, by omega, c_wBegin X1 R.v.2 R.p.2 hk2 hc1 (by omega) (fun h2 v9 q X2 f2 l2 _ => ⟨rfl, by omega, cc_change (c1.lw l2) hC (by omega) hk hv hw0 (by decide) (fun h3 s2 e c2 hi => ?_)⟩)⟩
    have X3 := X2.hi hi
    refine ⟨X3.km (k := k) hk2, ?_⟩
    rw [show gi h3 (W.ms.getD k 0) 3 = s 11 + s 8 from (X3.f (k := k) hk2 (show 3 < 6 by decide)).trans ups_s]
    refine eqd rfl ⟨Or.inr rfl, ?_⟩
    have RL : RkL (ups (ups s (49 + 7 * k + 2) (nI v)) (49 + 7 * k + 3) (s 11 + s 8)) := RkL.congr ((agL_ly (m := k) (w := 2) (by omega) (by omega)).trans (agL_ly (m := k) (w := 3) (by omega) (by omega))) R.1
    have e19 := isN_19 (t := begS s k (nI v)) R.2.2.2 (by omega) beg_19
    have lo : ∀ i, i < 49 → i ≠ 19 → begS s k (nI v) i = s i := fun i h1 h2 => beg_lo h1 h2
    refine K.one c2.nil (by omega) e (WO.evs (a := nI 0) (b := nI k) (c := nI v) X3 RL) ?_ (G.beg R hk hv hw0) ?_ ?_ ((hc1.md l2.md).md hi.md) agL_beg (lo 11 (by decide) (by decide)) ?_
    · show (W.es ++ [q]).length = nn (begS s k (nI v) 19)
      rw [e19.2, List.length_append, hes]; rfl
    · show inR (begS s k (nI v) 5) 1 9 = true
      rw [lo 5 (by decide) (by decide)]; exact h5
    · show 0 < nn (begS s k (nI v) 2) ∧ nn (begS s k (nI v) 2) ≤ 6
      rw [lo 2 (by decide) (by decide)]; exact hm
    · show nn (begS s k (nI v) 19) ≤ _
      rw [e19.2]; omega
  · exact K.non ⟨W, c1, X1, hes, G, h5, hm, hc1⟩
theorem a_commit (S : StP C E s w h) (hE : E + 2 < 2 ^ 31) (hv : v < 4000) (hcap : nn (s 19) + 2 ≤ 1200) (hcp : c + 156 ≤ cp) (K : AcK C E s w 0 2 Q) :
    Bt (wcap mq_L_acts cp) Q 369 c [some (.ref 0), some (.ref w), none, none, some (.int (nI v)), none, none, none, none, none] [] h := by
  obtain ⟨W, ci, X, hes, G, h5, hm, hc⟩ := id S
  have R := ci.R
  have hv8 := R.v.2
  have ex : nI 1 + (nI v - nI v / nI 5 * nI 5) = nI (1 + v % 5) := by rw [pk_rem (by omega) (by decide) (by decide), nI_add]
  have hx : inR (nI (1 + v % 5)) 1 9 = true := by
    simp only [inR, Bool.and_eq_true, decide_eq_true_eq]
    rw [nI_toInt (by omega)]
    omega
  generalize hy : nI (1 + v % 5) = y at ex hx
  have hw2 : whyF s y ≤ 2 := whyF_le
  refine sq_L_acts_369 ⟨by decide, X.rc, by omega, ?_⟩
  rw [ex]
  refine c_wWhyC X R (fun h1 f1 l1 _ => ⟨rfl, by omega, ?_⟩)
  have c1 := ci.lw l1
  have X1 := X.f0 f1 l1.md
  have hc1 := hc.md l1.md
  refine c_whyNotCommit R c1.X (fun e => by rw [hx] at e; cases e) (fun _ _ => eqd rfl ⟨fun z => sq_L_acts_416 ⟨Or.inr rfl, K.non ⟨W, c1, X1, hes, G, h5, hm, hc1⟩⟩, fun z => ?_⟩)
  have hw0 : whyF s y = 0 := by
    rcases Nat.eq_zero_or_pos (whyF s y) with q | q
    · exact q
    · exact absurd (nI_lt q (by omega)) z
  refine ⟨rfl, by omega, cc_commit c1 (by omega) hx hw0 (fun h2 s2 e c2 hi => ?_)⟩
  have X2 := X1.hi hi
  have hc2 := hc1.md hi.md
  refine ⟨X2.rc, by omega, c_wCommit X2 hc2 (by omega) (ms_ne X hm.1) (fun h3 v3 q X3 f3 l3 _ => eqd rfl (sq_L_acts_416 ⟨Or.inr rfl, ?_⟩))⟩
  have RL : RkL (ups s 5 y) := RkL.congr (agL_up (by omega)) R.1
  have lo : ∀ i, i < 49 → i ≠ 19 → i ≠ 5 → fmtS s y i = s i := fun i h1 h2 h3 => by unfold fmtS; rw [evS_lo (by omega) h2, ups_n h3]
  have e5 : fmtS s y 5 = y := by unfold fmtS; rw [evS_lo (by decide) (by decide), ups_s]
  have e19 : fmtS s y 19 = s 19 + nI 1 := by
    unfold fmtS
    rw [evS_19, ups_n (by omega)]
  have e19 := isN_19 (t := fmtS s y) R.2.2.2 (by omega) e19
  refine K.one (c2.lw l3) (by omega) e (X3.evs RL) ?_ (G.fmt R hw0) ?_ ?_ (hc2.md l3.md) fmt_ag (lo 11 (by decide) (by decide) (by decide)) ?_
  · show (W.es ++ [q]).length = nn (fmtS s y 19)
    rw [e19.2, List.length_append, hes]; rfl
  · show inR (fmtS s y 5) 1 9 = true
    rw [e5]; exact hx
  · show 0 < nn (fmtS s y 2) ∧ nn (fmtS s y 2) ≤ 6
    rw [lo 2 (by decide) (by decide) (by decide)]; exact hm
  · show nn (fmtS s y 19) ≤ _
    rw [e19.2]; omega
theorem l_minutes {n : Nat} (X : WO h w W s) (R : Rk C E s) (hC : C + n < 2 ^ 29) (hE : E + 30 * n < 2 ^ 31) (h6 : nn (s 2) ≤ 6) (hpos : 0 < nn (s 2)) (hcap : nn (s 19) + 15 * n ≤ 1200) (hc : Kc h) (hcp : c + 2400 * n + 1 ≤ cp) (hn : n < 1000)
    (T : ∀ c' h' W', c' ≤ c + 2400 * n → WO h' w W' (itS n s) → W'.es.length = nn (itS n s 19) → nn (itS n s 19) ≤ nn (s 19) + 15 * n → Lw h h' → Bt (wcap mq_L_acts cp) Q 447 c' [some (.ref 0), some (.ref w), none, none, none, none, none, none, some (.int (nI n)), some (.int (nI n))] [] h') :
    ∀ k j c1 h1 W1, j + k = n → c1 ≤ c + 2400 * j → WO h1 w W1 (itS j s) → W1.es.length = nn (itS j s 19) → nn (itS j s 19) ≤ nn (s 19) + 15 * j → Lw h h1 → Bt (wcap mq_L_acts cp) Q 447 c1 [some (.ref 0), some (.ref w), none, none, none, none, none, none, some (.int (nI n)), some (.int (nI j))] [] h1 := by
  intro k
  induction k with
  | zero =>
    intro j c1 h1 W1 hj hc1 X1 hes hle l1
    have e : j = n := by omega
    subst e
    exact T c1 h1 W1 hc1 X1 hes hle l1
  | succ k ih =>
    intro j c1 h1 W1 hj hc1 X1 hes hle l1
    have Rj := R.it j (by omega) (by omega)
    have e2 : itS j s 2 = s 2 := (it_ag j).n2
    refine sq_L_acts_447 ⟨fun z => absurd z (nI_ge (by omega) (by omega)), fun _ => ⟨X1.rc, by omega, c_wMinute X1 Rj (by omega) (by rw [e2]; exact h6) hes (by omega) (ms_ne X1 (by rw [e2]; exact hpos)) (hc.md l1.md) (fun h2 W2 X2 hes2 hle2 hms2 l2 _ => ?_)⟩⟩
    rw [nI_add]
    exact ih (j + 1) (c1 + 2400) h2 W2 (by omega) (by omega) X2 hes2 (by
      show nn (minS (itS j s) 19) ≤ _
      omega) (l1.trans l2)
theorem a_pass {n : Nat} (S : StP C E s w h) (hC : C + 999 < 2 ^ 29) (hE : E + 30 * 999 < 2 ^ 31) (hn : n < 60) (h20 : nn (s 11) + n ≤ 20000) (hcap : nn (s 19) + 15 * n ≤ 1200) (hcp : c + 2400 * n + 1 ≤ cp) (K : AcK C E s w n (15 * n) Q) :
    Bt (wcap mq_L_acts cp) Q 447 c [some (.ref 0), some (.ref w), none, none, none, none, none, none, some (.int (nI n)), some (.int (nI 0))] [] h := by
  obtain ⟨W, ci, X, hes, G, h5, hm, hc⟩ := id S
  have R := ci.R
  refine l_minutes X R (by omega) (by omega) hm.2 hm.1 hcap hc hcp (by omega) (fun c1 h1 W1 hc1 X1 hes1 hle1 l1 => ?_) n 0 c h W (by omega) (by omega) X hes (by
    show nn (s 19) ≤ _
    omega) (Lw.refl h)
  refine sq_L_acts_447 ⟨fun _ => ⟨rfl, by omega, cc_pass (ci.lw l1) hC hE (by omega) h20 (by decide) (fun h2 s2 e c2 hi => ?_)⟩, fun z => absurd (nI_le (Nat.le_refl n) (by omega)) z⟩
  have X2 := X1.hi hi
  refine ⟨X2.kw, ?_⟩
  rw [show gi h2 w 6 = itS n s 11 from X2.i.2.1.2.2.2.2.2.2.1]
  refine eqd rfl ⟨Or.inr rfl, ?_⟩
  have ag := it_ag (s := s) n
  have Sn : StP (C + 999) (E + 30 * 999) s2 w h2 := StP.mk c2.nil e X2 hes1 (G.itS R n (by omega) (by omega)) (by rw [it_5]; exact h5) (by rw [ag.n2]; exact hm) ((hc.md l1.md).md hi.md)
  refine K h2 s2 Sn (ag.trans e.ag) ?_ ?_
  · rw [e 11 (by decide), it_11 R, nn_nI (by omega)]
  · rw [e 19 (by decide)]; exact hle1
end
