/-! ===== the law: alike ===== -/
section
variable {kk : Int32 → PH → Prop} {h h' h0 h1 : PH} {w k v j c : Nat} {W : WN} {s s' t : RW} {C E : Nat} {Q : Res → PH → Prop} {x y z : Int32} {ps : List RW}
abbrev qF : Nat → PH → Prop := fun _ _ => False
theorem q_set (X : CR 60 s h) (hj : j < 12) (K : kk (s j) h) : MetPM m_X11_setting [.ref 0, .int (nI j)] h (rI qF kk) :=
  c_setting X (fun e => by rw [show inR (nI j) 0 11 = true from inR_j (n := 12) hj (by decide)] at e; cases e) (fun _ => by rw [nn_nI (by omega)]; exact K)
theorem q_plan (X : CR 60 s h) (hj : j < 5) (K : kk (plnV s j) h) : MetPM m_X11_plan [.ref 0, .int (nI j)] h (rI qF kk) :=
  c_plan X (fun e => by rw [show inR (nI j) 0 4 = true from inR_j (n := 5) hj (by decide)] at e; cases e) (fun _ => by rw [nn_nI (by omega)]; exact K)
theorem q_mem (X : CR 60 s h) (R : Rk C E s) (hk : k < nn (s 2)) (hj : j < 7) (K : kk (mbV s k j) h) : MetPM m_X11_member [.ref 0, .int (nI k), .int (nI j)] h (rI qF kk) := by
  have hm := R.m.2
  have e1 : inM s (nI k) = true := inR_j hk (by omega)
  have e2 : inR (nI j) 0 6 = true := inR_j (n := 7) hj (by decide)
  refine c_member R X (fun e => by rw [e1] at e; cases e) (fun _ e => by rw [e2] at e; cases e) (fun _ _ => ?_)
  rw [nn_nI (by omega), nn_nI (by omega)]; exact K
theorem mbV_f (hj : j < 6) : mbV s k j = mf s k j := if_neg (by omega)
theorem mbV_6 : mbV s k 6 = wvOf s k := if_pos rfl
theorem Hi.refl (h : PH) : Hi h h := fun _ _ => ⟨rfl, rfl, rfl, rfl⟩
theorem l_alike7 {q : Nat} (hk : k < nn (s 2)) (kq : qkd h1 q = 16) (lq : qln h1 q = 7) (vq : ∀ i, i < 7 → gi h1 q i = mbV s k i) (ci : CI C E s ps h1) {c0 : Nat} (hcc : c0 + 14 ≤ 150)
    (T : Bt mq_L_alike Q 152 (c0 + 14) [some (.ref 0), some (.ref w), some (.int (nI (k + 1))), none, none, none] [] h1) :
    ∀ n i, i + n = 7 → Bt mq_L_alike Q 247 (c0 + 2 * i) [some (.ref 0), some (.ref w), some (.int (nI k)), none, some (.ref q), some (.int (nI i))] [] h1 := by
  intro n
  induction n with
  | zero =>
    intro i hi
    have e : i = 7 := by omega
    rw [e]
    refine sq_L_alike_247 ⟨fun _ => ?_, fun z => absurd (by decide) z⟩
    rw [nI_add]
    exact T
  | succ n ih =>
    intro i hi
    have en : (nI i).toNatClampNeg = i := nI_clamp (by omega)
    refine sq_L_alike_247 ⟨fun z => absurd z (nI_ge (by omega) (by decide)), fun _ => ⟨rfl, by omega, q_mem ci.X ci.R hk (by omega) (fun _ => ⟨Or.inl kq, by rw [lq]; exact vp_in_nI (by omega) (by decide), fun _ => ?_, fun z => absurd ?_ z⟩)⟩⟩
    · rw [nI_add]
      have := ih (i + 1) (by omega)
      rw [show c0 + 2 * (i + 1) = c0 + 2 * i + 2 by omega] at this
      exact this
    · rw [en]; exact (vq i (by omega)).symm
theorem l_alike (h6 : nn (s 2) ≤ 6) (hes : W.es.length = nn (s 19)) (h19 : nn (s 19) ≤ 1200) (K : ∀ h', CI C E s ps h' → WO h' w W s → Lw h0 h' → Q (.inl (some (.int (nI 1)))) h') :
    ∀ n cur h1, cur + n = nn (s 2) → CI C E s ps h1 → WO h1 w W s → Lw h0 h1 → Bt mq_L_alike Q 152 (7 + 15 * cur) [some (.ref 0), some (.ref w), some (.int (nI cur)), none, none, none] [] h1 := by
  intro n
  induction n with
  | zero =>
    intro cur h1 hc ci X hlw
    have hl := X.m.2.1
    have e : cur = nn (s 2) := by omega
    refine sq_L_alike_152 ⟨X.kw, g3 X.r.2.2.2.2.2.1 ⟨X.al.rc, c_lsize X.al (fun _ => ⟨fun _ => ⟨rfl, c_events ci.X (fun _ => ⟨X.kw, g3 X.r.2.2.2.2.2.2 ⟨X.e.1.rc, c_lsize X.e.1 (fun _ => ⟨fun z => absurd ?_ z, fun _ => ⟨Or.inr rfl, K h1 ci X hlw⟩⟩)⟩⟩)⟩, fun z => ?_⟩)⟩⟩
    · rw [hes]
      unfold kEv
      by_cases q : nn (s 19) < 30
      · rw [if_pos q, if_pos (nI_lt q (by decide))]
      · rw [if_neg q, if_neg (nI_nlt (by omega) (by omega))]
    · exact absurd (nI_le (a := W.ms.length) (b := cur) (by omega) (by omega)) z
  | succ n ih =>
    intro cur h1 hc ci X hlw
    have hl := X.m.2.1
    have hk : cur < W.ms.length := by omega
    have hk2 : cur < nn (s 2) := by omega
    have n7 : (nI 7).toNatClampNeg = 7 := nI_clamp (by decide)
    refine sq_L_alike_152 ⟨X.kw, g3 X.r.2.2.2.2.2.1 ⟨X.al.rc, c_lsize X.al (fun _ => ⟨fun z => absurd z (nI_ge hk (by omega)), fun _ => ⟨X.kw, g3 X.r.2.2.2.2.2.1 ⟨X.al.rc, c_get X.al hk (fun _ => ⟨X.km hk, ⟨by decide, by rw [n7]; decide⟩, by rw [n7]; omega, fun q hq0 hq => ?_⟩)⟩⟩⟩)⟩⟩
    rw [n7, show (nI 0).toNatClampNeg = 0 from nI_clamp (by decide), show (nI 1).toNatClampNeg = 1 from nI_clamp (by decide), show (nI 2).toNatClampNeg = 2 from nI_clamp (by decide), show (nI 3).toNatClampNeg = 3 from nI_clamp (by decide), show (nI 4).toNatClampNeg = 4 from nI_clamp (by decide), show (nI 5).toNatClampNeg = 5 from nI_clamp (by decide), show (nI 6).toNatClampNeg = 6 from nI_clamp (by decide)]
    have km := X.km hk
    have hmq : W.ms.getD cur 0 ≠ q := ne_of_kd (by rw [km]; decide) hq
    have fm : ∀ j, j < 6 → gi h1 (W.ms.getD cur 0) j = mf s cur j := fun j hj => X.f hk hj
    have sn : ∀ {g g' : PH}, FmQ [] h1 g → FmQ [q] g g' → FmQ [] h1 g' := fun a b => a.trans b (fun n hn hz => absurd (List.mem_singleton.mp hn) (ne_of_kd hz hq))
    have kmn : qkd (nw h1 q 16 7) (W.ms.getD cur 0) = 1 := (qnw_ka hmq).trans km
    have kqn : qkd (nw h1 q 16 7) q = 16 := qkd_nw (by omega)
    have vi : ∀ i, i < 7 → vp_in (nI i) (qln (nw h1 q 16 7) q) := fun i hi => by rw [qln_nw]; exact vp_in_nI hi (by decide)
    have fmn : ∀ j, j < 6 → gi (nw h1 q 16 7) (W.ms.getD cur 0) j = mf s cur j := fun j hj => (qnw_ia hmq).trans (fm j hj)
    have f0 : FmQ [] h1 (nw h1 q 16 7) := FmQ.nw hq
    have l0 : Lw h1 (nw h1 q 16 7) := (Oth.nw h1 q 16 7).lw hq0
    have lqn : qln (nw h1 q 16 7) q = 7 := qln_nw
    generalize nw h1 q 16 7 = g at kmn kqn vi fmn f0 l0 lqn ⊢
    have a0 : ∀ (g' : PH) (i : Nat) (x : Int32) (j : Nat), gi (si g' q i x) (W.ms.getD cur 0) j = gi g' (W.ms.getD cur 0) j := fun g' i x j => qsi_a hmq
    refine ⟨kmn, kqn, vi 0 (by decide), ?_⟩
    rw [fmn 0 (by decide)]
    intro h23
    have e23 : ∀ j, j < 6 → gi h23 (W.ms.getD cur 0) j = mf s cur j := fun j hj => (a0 _ _ _ _).trans (fmn j hj)
    have f23 : FmQ [] h1 h23 := sn f0 FmQ.si
    have l23 : Lw h1 h23 := l0.trans ((Oth.si _ q _ _).lw hq0)
    have v23 : gi h23 q 0 = mf s cur 0 := qsi_s
    have km23 : qkd h23 (W.ms.getD cur 0) = 1 := kmn
    have kq23 : qkd h23 q = 16 := kqn
    have vi23 : ∀ i, i < 7 → vp_in (nI i) (qln h23 q) := vi
    have lq23 : qln h23 q = 7 := lqn
    clear_value h23
    refine ⟨km23, kq23, vi23 1 (by decide), km23, kq23, vi23 2 (by decide), ?_⟩
    rw [a0 h23 1 _ 2, e23 1 (by decide), e23 2 (by decide)]
    intro h24
    have e24 : ∀ j, j < 6 → gi h24 (W.ms.getD cur 0) j = mf s cur j := fun j hj => (a0 _ _ _ _).trans ((a0 _ _ _ _).trans (e23 j hj))
    have f24 : FmQ [] h1 h24 := sn (sn f23 FmQ.si) FmQ.si
    have l24 : Lw h1 h24 := (l23.trans ((Oth.si _ q _ _).lw hq0)).trans ((Oth.si _ q _ _).lw hq0)
    have v24 : gi h24 q 0 = mf s cur 0 ∧ gi h24 q 1 = mf s cur 1 ∧ gi h24 q 2 = mf s cur 2 := ⟨(qsi_k (by decide)).trans ((qsi_k (by decide)).trans v23), (qsi_k (by decide)).trans qsi_s, qsi_s⟩
    have km24 : qkd h24 (W.ms.getD cur 0) = 1 := km23
    have kq24 : qkd h24 q = 16 := kq23
    have vi24 : ∀ i, i < 7 → vp_in (nI i) (qln h24 q) := vi23
    have lq24 : qln h24 q = 7 := lq23
    clear_value h24
    refine ⟨km24, kq24, vi24 3 (by decide), km24, kq24, vi24 4 (by decide), ?_⟩
    rw [a0 h24 3 _ 4, e24 3 (by decide), e24 4 (by decide)]
    intro h25
    have e25 : ∀ j, j < 6 → gi h25 (W.ms.getD cur 0) j = mf s cur j := fun j hj => (a0 _ _ _ _).trans ((a0 _ _ _ _).trans (e24 j hj))
    rw [e25 5 (by decide)]
    have f25 : FmQ [] h1 h25 := sn (sn f24 FmQ.si) FmQ.si
    have l25 : Lw h1 h25 := (l24.trans ((Oth.si _ q _ _).lw hq0)).trans ((Oth.si _ q _ _).lw hq0)
    have g25 : gi h25 q 0 = mf s cur 0 ∧ gi h25 q 1 = mf s cur 1 ∧ gi h25 q 2 = mf s cur 2 ∧ gi h25 q 3 = mf s cur 3 ∧ gi h25 q 4 = mf s cur 4 := by
      obtain ⟨a, b, c⟩ := v24
      exact ⟨(qsi_k (by decide)).trans ((qsi_k (by decide)).trans a), (qsi_k (by decide)).trans ((qsi_k (by decide)).trans b), (qsi_k (by decide)).trans ((qsi_k (by decide)).trans c), (qsi_k (by decide)).trans qsi_s, qsi_s⟩
    have km25 : qkd h25 (W.ms.getD cur 0) = 1 := km24
    have kq25 : qkd h25 q = 16 := kq24
    have lq25 : qln h25 q = 7 := lq24
    have vi25 : ∀ i, i < 7 → vp_in (nI i) (qln h25 q) := vi24
    clear_value h25
    obtain ⟨g0', g1', g2', g3', g4'⟩ := g25
    have fin : ∀ y, mf s cur 5 = y → qkd h25 q = 16 ∧ vp_in (nI 5) (qln h25 q) ∧ (rcvQ (si h25 q 5 y) w 2 ∧ MetQ mq_X13_waveAt [.ref w, .int (nI cur)] (si h25 q 5 y) (rI (fun _ _ => False) (fun x29 h28 => Lw (si h25 q 5 y) h28 → (qkd h28 q = 16 ∧ vp_in (nI 6) (qln h28 q) ∧ Bt mq_L_alike Q 247 (7 + 15 * cur + (1 + 7 / 12)) [some (.ref 0), some (.ref w), some (.int (nI cur)), none, some (.ref q), some (.int (nI 0))] [] (si h28 q 6 x29))))) := by
      intro y hy
      have f26 : FmQ [] h1 (si h25 q 5 y) := sn f25 FmQ.si
      have l26 : Lw h1 (si h25 q 5 y) := l25.trans ((Oth.si _ q _ _).lw hq0)
      have X26 := X.f0 f26 l26.md
      refine ⟨kq25, vi25 5 (by decide), X26.rc, c_wWave X26 ci.R.1 hk (fun _ => ⟨kq25, vi25 6 (by decide), ?_⟩)⟩
      have f27 : FmQ [] h1 (si (si h25 q 5 y) q 6 (wvOf s cur)) := sn f26 FmQ.si
      have l27 : Lw h1 (si (si h25 q 5 y) q 6 (wvOf s cur)) := l26.trans ((Oth.si _ q _ _).lw hq0)
      have ci27 := ci.lw l27
      have T := ih (cur + 1) _ (by omega) ci27 (X.f0 f27 l27.md) (hlw.trans l27)
      refine l_alike7 (h1 := si (si h25 q 5 y) q 6 (wvOf s cur)) (k := cur) (c0 := 7 + 15 * cur + (1 + 7 / 12)) hk2 kq25 lq25 (fun i hi => ?_) ci27 (by omega) (by rw [show 7 + 15 * cur + (1 + 7 / 12) + 14 = 7 + 15 * (cur + 1) by omega]; exact T) 7 0 (by omega)
      rcases (by omega : i = 0 ∨ i = 1 ∨ i = 2 ∨ i = 3 ∨ i = 4 ∨ i = 5 ∨ i = 6) with rfl | rfl | rfl | rfl | rfl | rfl | rfl
      · rw [qsi_k (by decide), qsi_k (by decide), g0']; rfl
      · rw [qsi_k (by decide), qsi_k (by decide), g1']; rfl
      · rw [qsi_k (by decide), qsi_k (by decide), g2']; rfl
      · rw [qsi_k (by decide), qsi_k (by decide), g3']; rfl
      · rw [qsi_k (by decide), qsi_k (by decide), g4']; rfl
      · rw [qsi_k (by decide), qsi_s, ← hy]; rfl
      · rw [qsi_s]; rfl
    refine ⟨km25, fun z => fin _ z, fun z => fin _ ?_⟩
    exact (ci.R.he cur hk2).resolve_left z
end
