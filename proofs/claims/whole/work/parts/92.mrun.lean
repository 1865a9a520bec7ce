/-! ===== a script runs, the reference ===== -/
section
variable {q : Nat → PH → Prop} {kk : Int32 → PH → Prop} {kv : PH → Prop} {h h' h0 : PH} {s t g : RW} {C E : Nat} {a b n m p v w i j k o x y d e N : Nat} {B L : Nat → Nat} {v4 : Int32} {o5 : Option Value}
def RlM (d : Nat) (B L : Nat → Nat) (h : PH) : Prop := ∀ o, o < d → gi h 144 o = nI (B o) ∧ gi h 145 o = nI (L o)
def WMr (b k : Nat) : Prop := WDo b k ∨ b = 144 ∨ b = 145
theorem FMd (x : Fz WDo (fun _ => False) h h') : Fz WMr (fun _ => False) h h' := x.mono (fun b k y => Or.inl y) (fun _ y => y)
theorem PGm.eq (e3 : ∀ i, i = 33 ∨ i = 34 ∨ i = 35 → gi h' 130 i = gi h 130 i) (ea : ∀ b i, 141 ≤ b → b ≤ 143 → gi h' b i = gi h b i) (G : PGm g h) : PGm g h' := by
  refine ⟨(e3 33 (by omega)).trans G.1, (e3 34 (by omega)).trans G.2.1, (e3 35 (by omega)).trans G.2.2.1, fun k hk => ?_⟩
  rw [ea 141 k (by omega) (by omega), ea 142 k (by omega) (by omega), ea 143 k (by omega) (by omega)]
  exact G.2.2.2 k hk
theorem l_mrun (W : WFg g) (D : pD g = 0) (hC : C + 39960 < 2 ^ 29) (hE : E + 1198800 < 2 ^ 31) : ∀ N k d B L e s h o5, 400000 * (40 - e) + mu g k d B L < N → e ≤ 40 → RI g k d B L → PGm g h → RlM d B L h → AVg s g → Rk (C + 999 * e) (E + 29970 * e) s → h.1 132 = s → Fz WMr (fun _ => False) h0 h →
    (∀ h', Fz WMr (fun _ => False) h0 h' → h'.1 132 = (aRun g N k d B L e s).2 → kk (nI (aRun g N k d B L e s).1) h') → At m_X12_runs (rI q kk) 9 0 [some (.ref 130), some (.int (nI e)), some (.int (nI d)), some (.int (nI k)), some (.int (nI 1)), o5] [] h := by
  intro N
  induction N with
  | zero =>
    intro k d B L e s h o5 hN
    omega
  | succ N ih =>
    intro k d B L e s h o5 hN he I G R A Rr hs F K
    have w2 := W.1.2.1
    have w1 := W.1.1
    have i1 := I.1
    refine u_X12_runs_9 ⟨fun y => absurd y (by decide), fun _ => ?_⟩
    rw [G.1]
    refine pk_le (pM g) k (fun y => u_X12_runs_187 ?_) (fun hk => pk_le 40 e (fun y => u_X12_runs_187 ?_) (fun he2 => ?_))
    · rw [run_0 (Or.inl y)] at K
      exact K h F hs
    · rw [run_0 (Or.inr y)] at K
      exact K h F hs
    have v : vp_in (nI k) 60 := vp_in_nI (by omega) (by omega)
    obtain ⟨g4, g5, g6⟩ := G.2.2.2 k hk
    obtain ⟨j, hj, ek⟩ := W.2.2.2.1 k hk
    rw [cl (by omega), g4, ek]
    refine ⟨v, fun n9 => ⟨v, fun n10 => ⟨v, v, v, ?_⟩, fun y => ?_⟩, fun y => ?_⟩
    · have hj9 : j < 9 := by
        apply Classical.byContradiction
        intro c
        rcases (by omega : j = 9 ∨ j = 10) with rfl | rfl
        · exact n9 rfl
        · exact n10 rfl
      obtain ⟨x, y', hx, hy, ex, ey, av⟩ := A.1 k hk j (by omega) ek
      rw [run_c hk he2 hj9 ek, ex, ey, nn_nI (by omega), nn_nI (by omega)] at K
      refine s_does Rr hs (by omega) (by omega) hj9 hx hy av (fun z1 z2 => (g5 j (by omega) z1 z2 ek).trans ex) (fun z => (g6 j z ek).trans ey) (fun em => s_truth0 ?_) (fun em h1 f1 r1 => s_truth1 ?_)
      · rw [if_neg (by rw [em]; decide)] at K
        rw [nI_add, nI_add, Nat.add_zero]
        exact u_X12_runs_9 ⟨fun _ => u_X12_runs_187 (K h F hs), fun z => absurd rfl z⟩
      · rw [if_pos em] at K
        rw [nI_add, nI_add]
        have ag : agL s (aDo s j x y') := do_ag
        have mc := mu_cmd (g := g) (k := k) (d := d) (B := B) (L := L)
        refine ih (k + 1) d B L (e + 1) (aDo s j x y') h1 _ (by omega) (by omega) (I.cmd hk hj9 ek) (G.eq (fun i hi => f1.1 130 i (by unfold WDo; omega)) (fun b i x1 x2 => f1.1 b i (by unfold WDo; omega))) (fun o ho => ?_) (A.ag ag.n0 ag.n2) ((Rr.dos (by omega) (by omega) hy hx av hj9 em).mono (by omega) (by omega)) r1 (F.trans (FMd f1)) K
        rw [f1.1 144 o (by unfold WDo; omega), f1.1 145 o (by unfold WDo; omega)]
        exact R o ho
    · have e10 : pK g k = nI 10 := ek.trans y
      obtain ⟨d1, ekk⟩ := I.at A hk e10
      have d2 := I.2.2.1
      obtain ⟨a1, a2, a3, a4, a5, a6, a7⟩ := I.2.2.2 (d - 1) (by omega)
      have q3 := R (d - 1) (by omega)
      have vd : vp_in (nI (d - 1)) 2 := vp_in_nI (by omega) (by omega)
      rw [pk_sub (by omega), cl (by omega), q3.2, pk_sub (by omega)]
      have F1 : Fz WMr (fun _ => False) h (si h 145 (d - 1) (nI (L (d - 1) - 1))) := Fz.si h _ (Or.inr (Or.inr rfl))
      have b45 : gi (si h 145 (d - 1) (nI (L (d - 1) - 1))) 145 (d - 1) = nI (L (d - 1) - 1) := gi_same
      have b44 : gi (si h 145 (d - 1) (nI (L (d - 1) - 1))) 144 (d - 1) = nI (B (d - 1)) := (gi_ob (by omega)).trans q3.1
      have r1 : (si h 145 (d - 1) (nI (L (d - 1) - 1))).1 132 = s := (si_b (by omega)).trans hs
      have G1 : PGm g (si h 145 (d - 1) (nI (L (d - 1) - 1))) := G.eq (fun i hi => gi_ob (by omega)) (fun b i x1 x2 => gi_ob (by omega))
      have R1 : RlM d B (updN L (d - 1) (L (d - 1) - 1)) (si h 145 (d - 1) (nI (L (d - 1) - 1))) := fun o ho => by
        rw [gi_ob (by omega)]
        refine ⟨(R o ho).1, ?_⟩
        by_cases c : o = d - 1
        · rw [c, gi_same, updN_s]
        · rw [gi_ok c, updN_n c]; exact (R o ho).2
      rw [b45, b44]
      generalize si h 145 (d - 1) (nI (L (d - 1) - 1)) = h1 at F1 r1 G1 R1 b45 b44
      refine ⟨vd, vd, vd, ?_⟩
      intro y5
      have e5 : y5 = nI (L (d - 1) - 1) := rfl
      clear_value y5
      subst e5
      refine pk_le (L (d - 1) - 1) 0 (fun z => ⟨fun _ => ⟨fun c => absurd rfl c, fun _ => s_truth1 ?_⟩, fun c => absurd rfl c⟩) (fun z => ⟨fun c => absurd c (by decide), fun _ => ⟨vd, ?_⟩⟩)
      · rw [run_o hk he2 e10 (by omega)] at K
        rw [pk_sub (by omega), nI_add]
        have ml := mu_out W A hk e10 I
        exact ih (k + 1) (d - 1) B _ e s h1 _ (by omega) he (I.out A hk e10) G1 (fun o ho => R1 o (by omega)) A Rr r1 (F.trans F1) K
      · intro y19
        have e19 : y19 = nI (B (d - 1)) := rfl
        clear_value y19
        subst e19
        refine ⟨fun _ => s_truth0 ?_, fun c => absurd c (by decide)⟩
        rw [run_a hk he2 e10 (by omega)] at K
        rw [pk_sub (by omega), nI_add, Nat.sub_zero]
        have ml := mu_again W A hk e10 I (by omega)
        exact ih (B (d - 1) + 1) d B _ e s h1 _ (by omega) he (I.again A hk e10 (by omega)) G1 R1 A Rr r1 (F.trans F1) K
    · have e9 : pK g k = nI 9 := ek.trans y
      obtain ⟨x, y', hx, hy, ex, ey, av⟩ := A.1 k hk 9 (by omega) e9
      have ax := av.2.2.2.2.2 rfl
      obtain ⟨hd, I2⟩ := I.rep W D hk e9 ax.1 ax.2
      have ml := mu_rep W hk e9 I hd ax.1 ax.2
      rw [run_9 hk he2 e9, ex, nn_nI (by omega)] at K
      have vd : vp_in (nI d) 2 := vp_in_nI (by omega) (by omega)
      have b42 : gi (si h 144 d (nI k)) 142 k = nI x := (gi_ob (by omega)).trans ((g5 9 (by omega) (by omega) (by omega) e9).trans ex)
      rw [cl (by omega), b42]
      refine ⟨vd, v, vd, ?_⟩
      intro h24
      have F1 : Fz WMr (fun _ => False) h h24 := (Fz.si h _ (Or.inr (Or.inl rfl))).trans (Fz.si _ _ (Or.inr (Or.inr rfl)))
      have r1 : h24.1 132 = s := by
        show (si (si h 144 d (nI k)) 145 d (nI x)).1 132 = s
        rw [si_b (by omega), si_b (by omega)]; exact hs
      have G1 : PGm g h24 := G.eq (fun i hi => by
        show gi (si (si h 144 d (nI k)) 145 d (nI x)) 130 i = _
        rw [gi_ob (by omega), gi_ob (by omega)]) (fun b i x1 x2 => by
        show gi (si (si h 144 d (nI k)) 145 d (nI x)) b i = _
        rw [gi_ob (by omega), gi_ob (by omega)])
      have R1 : RlM (d + 1) (updN B d k) (updN L d x) h24 := fun o ho => by
        show gi (si (si h 144 d (nI k)) 145 d (nI x)) 144 o = _ ∧ gi (si (si h 144 d (nI k)) 145 d (nI x)) 145 o = _
        rw [gi_ob (by omega)]
        by_cases c : o = d
        · rw [c, gi_same, gi_same, updN_s, updN_s]
          exact ⟨rfl, rfl⟩
        · rw [gi_ok c, gi_ok c, gi_ob (by omega), updN_n c, updN_n c]
          exact R o (by omega)
      clear_value h24
      rw [nI_add, nI_add]
      exact ih (k + 1) (d + 1) _ _ e s h24 _ (by omega) he I2 G1 R1 A Rr r1 (F.trans F1) K
end
