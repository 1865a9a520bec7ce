/-! ===== the law: ends ===== -/
section
variable {kk : Int32 → PH → Prop} {h h' h0 h1 h2 : PH} {w k v j c cp i b : Nat} {W : WN} {s s' s0 s2 t u : RW} {C E D F : Nat} {Q : Res → PH → Prop} {x y z : Int32} {ps : List RW} {S : List Nat}
theorem nextU_lo {i : Nat} (hi : i ≠ 12 ∧ i ≠ 15) : nextU s i = s i := by unfold nextU; rw [ups_n hi.1, ups_n hi.2]
theorem next_13 : nextS s 13 = s 13 := by
  unfold nextS
  split
  · exact nextU_lo (by decide)
  · split
    · unfold doneS
      rw [evS_lo (by decide) (by decide), ups_n (by decide), ups_n (by decide), nextU_lo (by decide)]
    · rw [ups_n (by decide), ups_n (by decide), nextU_lo (by decide)]
theorem min1_lo {i : Nat} (hi : i < 49) (h : i ≠ 19 ∧ i ≠ 11) : min1 s i = s i := (endA_lo _ i hi h.1).trans (ups_n h.2)
theorem min_13 : minS s 13 = s 13 := by
  have h1 : min1 s 13 = s 13 := min1_lo (by decide) (by decide)
  have h2 : min2 s 13 = s 13 := by
    unfold min2
    split
    · unfold stopS
      rw [evS_lo (by decide) (by decide), ups_n (by decide), ups_n (by decide)]; exact h1
    · exact h1
  have h3 : min3 s 13 = s 13 := by
    unfold min3
    split
    · rw [next_13]; exact h2
    · exact h2
  unfold minS
  split
  · unfold rolS
    split
    · unfold soakS
      rw [evS_lo (by decide) (by decide), ups_n (by decide), ups_n (by decide), rolA_lo _ 13 (by decide) (by decide)]; exact h3
    · rw [rolA_lo _ 13 (by decide) (by decide)]; exact h3
  · exact h3
theorem it_13 : ∀ n, itS n s 13 = s 13
  | 0 => rfl
  | n + 1 => (min_13 (s := itS n s)).trans (it_13 n)
theorem n14 : ¬ nI 1 = nI 4 := by decide
/-- the minute at which a plan is done tells so at its end -/
theorem min_done (R : Rk C E u) (hC : C < 2 ^ 29) (hE : E + 30 < 2 ^ 31) (h0 : ¬ u 12 = nI 4) (h1 : minS u 12 = nI 4) (ht : eqR (minS u) t) : 0 < kEv t ∧ evtV t 0 1 = nI 6 ∧ evtV t 0 3 = u 13 := by
  have R1 := R.min1 hC (by omega)
  have e1 : min1 u 12 = u 12 := min1_lo (by decide) (by decide)
  have em : minS u = min3 u := by
    unfold minS at h1 ⊢
    split
    · rename_i q
      exfalso
      rw [if_pos q] at h1
      unfold rolS at h1
      split at h1
      · unfold soakS at h1
        rw [evS_lo (by decide) (by decide), ups_n (by decide), ups_s] at h1
        exact absurd h1 (by decide)
      · rw [rolA_lo _ 12 (by decide) (by decide), q] at h1
        exact n14 h1
    · rfl
  rw [em] at h1 ht
  have e2 : ¬ min2 u 12 = nI 4 := by
    unfold min2
    split
    · unfold stopS
      rw [evS_lo (by decide) (by decide), ups_s]; decide
    · rw [e1]; exact h0
  have q2 : min2 u 12 = nI 2 := by
    unfold min3 at h1
    split at h1
    · rename_i q; exact q.1
    · exact absurd h1 e2
  have q1 : min2 u = min1 u := by
    unfold min2 at q2 ⊢
    split
    · rename_i q
      exfalso
      rw [if_pos q] at q2
      unfold stopS at q2
      rw [evS_lo (by decide) (by decide), ups_s] at q2
      exact absurd q2 (by decide)
    · rfl
  have e13 : min2 u 13 = u 13 := by rw [q1]; exact min1_lo (by decide) (by decide)
  have en : min3 u = doneS (ups (nextU (min2 u)) 15 (nI 0)) := by
    unfold min3 at h1 ⊢
    split
    · rename_i q
      rw [if_pos q] at h1
      unfold nextS at h1 ⊢
      split
      · rename_i q4
        exfalso
        rw [if_pos q4] at h1
        unfold nextU at h1
        rw [ups_s] at h1
        exact n14 h1
      · rename_i q4
        rw [if_neg q4] at h1
        split
        · rfl
        · rename_i q5
          exfalso
          rw [if_neg q5, ups_n (by decide), ups_n (by decide)] at h1
          unfold nextU at h1
          rw [ups_s] at h1
          exact n14 h1
    · rename_i q
      exfalso
      rw [if_neg q] at h1
      exact e2 h1
  rw [en] at ht
  unfold doneS at ht
  have e19 : (ups (ups (nextU (min2 u)) 15 (nI 0)) 12 (nI 4)) 19 = min1 u 19 := by
    rw [ups_n (by decide), ups_n (by decide), nextU_lo (by decide), q1]
  have := ev_new (s := ups (ups (nextU (min2 u)) 15 (nI 0)) 12 (nI 4)) (E := E + 12) (by rw [e19]; exact R1.2.2.2) (by omega) ht
  rw [ups_n (by decide), nextU_lo (by decide), e13] at this
  exact this
theorem l_ends (ci : CI C E s0 (s :: ps) h) (e2 : s0 2 = s 2) (X : WO h w W s) (hes : W.es.length = nn (s 19)) (h19 : nn (s 19) ≤ 1200) (hm : nn (s 2) ≤ 6) (x : Int32) (K : ∀ h', Q (.inl (some (.int (nI 1)))) h') :
    ∀ n k f c, k + n = nn (s 2) → f ≤ k → c ≤ 7 + 4 * k → Bt mq_L_ends Q 85 c [some (.ref 0), some (.ref w), none, some (.int x), some (.int (nI f)), some (.int (nI k))] [] h := by
  have R := ci.R
  have hl := X.m.2.1
  intro n
  induction n with
  | zero =>
    intro k f c hk hf hc
    refine sq_L_ends_85 ⟨X.kw, g3 X.r.2.2.2.2.2.1 ⟨X.al.rc, c_lsize X.al (fun _ => ⟨fun _ => ⟨fun _ => ⟨Or.inr rfl, K h⟩, fun _ => ⟨rfl, cc_undo ci (fun h4 s4 n4 e4 c4 hn4 hi4 => ⟨fun z => absurd z (nI_pos (by omega)), fun _ => ⟨by omega, ?_⟩⟩)⟩⟩, fun z => ?_⟩)⟩⟩
    · have R4 := c4.R
      have R0 := R4.eqR e4.symm
      have e419 : s4 19 = s 19 := e4 19 (by decide)
      have e42 : s4 2 = s 2 := e4 2 (by decide)
      refine c_alike c4 ((X.hi hi4).row R0.1 (fun i h1 _ => e4 i (by omega))) (by rw [e42]; exact hm) (by rw [e419]; exact hes) (by rw [e419]; exact h19) (fun h6 c6 X6 l6 _ => ⟨fun z => absurd z (by decide), fun _ => ⟨X6.kw, g3 X6.r.2.2.2.2.2.1 ⟨X6.al.rc, c_lsize X6.al (fun _ => ⟨fun z => ?_, fun _ => ⟨Or.inr rfl, K h6⟩⟩)⟩⟩⟩)
      exact absurd z (nI_nlt (by omega) (by omega))
    · exact absurd (nI_le (a := W.ms.length) (b := k) (by omega) (by omega)) z
  | succ n ih =>
    intro k f c hk hf hc
    have hk0 : k < nn (s0 2) := by rw [e2]; omega
    refine sq_L_ends_85 ⟨X.kw, g3 X.r.2.2.2.2.2.1 ⟨X.al.rc, c_lsize X.al (fun _ => ⟨fun z => absurd z (nI_ge (by omega) (by omega)), fun _ => ⟨rfl, by omega, q_mem ci.X R hk0 (by decide) (fun _ => ⟨fun _ => ?_, fun _ => ⟨rfl, by omega, q_mem ci.X R hk0 (by decide) (fun _ => ⟨fun _ => ?_, fun _ => ?_⟩)⟩⟩)⟩⟩)⟩⟩
    · rw [nI_add]; exact ih (k + 1) f _ (by omega) (by omega) (by omega)
    · rw [nI_add, nI_add]; exact ih (k + 1) (f + 1) _ (by omega) (by omega) (by omega)
    · rw [nI_add]; exact ih (k + 1) f _ (by omega) (by omega) (by omega)
theorem c_ends (S : StP C E s w h) (hC : C + 2002 < 2 ^ 29) (hE : E + 30 * 2002 < 2 ^ 31) (hclk : nn (s 11) + 900 ≤ 20000) (h19 : nn (s 19) ≤ 1200) (K : ∀ h', Q (.inl (some (.int (nI 1)))) h') : MetQ mq_L_ends [.ref 0, .ref w] h Q := by
  obtain ⟨W, ci, X, hes, G, h5, hm, hc⟩ := id S
  have R := ci.R
  have m1 : (-1 : Int32) = -(nI 1) := by decide
  refine tq_L_ends ⟨rfl, by decide, q_plan ci.X (by decide) (fun _ => ⟨rfl, by decide, cc_minutes ci hC hE (by decide) (fun h1 c1 hi1 => ⟨fun _ => ⟨Or.inr rfl, K h1⟩, fun z => ⟨fun z2 => ?_, fun _ => ⟨Or.inr rfl, K h1⟩⟩⟩)⟩)⟩
  have hp : hasP s = true := by
    cases q : hasP s
    · exfalso
      have : plnV s 1 = -(nI 1) := by unfold plnV; rw [q]; rfl
      rw [this] at z2
      exact absurd z2 (by decide)
    · rfl
  have e13 : plnV s 1 = s 13 := by unfold plnV; rw [hp]; rfl
  obtain ⟨m, em⟩ : ∃ m, endF s 900 = m + 1 := by
    cases q : endF s 900 with
    | zero =>
      rw [q] at z
      exact absurd (show (-1 : Int32) < 0 by decide) z
    | succ m => exact ⟨m, rfl⟩
  obtain ⟨a1, a2, a3⟩ := endF_at em
  rw [em, pre1_s]
  have hm0 : m ≠ 0 := fun q => by
    rw [q] at a2
    have a2 : s 12 = nI 4 := a2
    unfold hasP at hp
    rw [a2] at hp
    exact absurd hp (by decide)
  obtain ⟨l, el⟩ : ∃ l, m = l + 1 := ⟨m - 1, by omega⟩
  have X1 := X.hi hi1
  refine ⟨rfl, by decide, cc_pass c1 (by omega) (by omega) (by omega) (by omega) (by decide) (fun h2 s3 e3 c3 hi3 => ?_)⟩
  have X2 := X1.hi hi3
  have R3 := c3.R
  have e12 : s3 12 = nI 4 := (e3 12 (by decide)).trans a2
  have hp3 : hasP s3 = false := by unfold hasP; rw [e12]; decide
  have e32 : s3 2 = s 2 := (e3 2 (by decide)).trans (it_ag m).n2
  have nw := min_done (u := itS l s) (t := s3) (R.it l (by omega) (by omega)) (by omega) (by omega) (a3 l (by omega)) (by rw [el] at a2; exact a2) (by rw [el] at e3; exact e3)
  rw [it_13] at nw
  refine ⟨X2.kw, ?_⟩
  rw [show gi h2 w 6 = s 11 from X2.i.2.1.2.2.2.2.2.2.1]
  refine eqd ?_ ⟨rfl, by decide, q_plan c3.X (by decide) (fun _ => eqd ?_ ⟨rfl, by decide, q_plan c3.X (by decide) (fun _ => eqd ?_ ⟨rfl, by decide, q_event c3.X nw.1 (by decide) (fun _ => eqd nw.2.1 ⟨rfl, by decide, q_event c3.X nw.1 (by decide) (fun _ => eqc ?_ ?_)⟩)⟩)⟩)⟩
  · rw [it_11 R, R.ck.1, nI_add, nn_nI (by have := R.ck.2; omega)]
  · exact e12
  · show plnV s3 1 = _
    unfold plnV
    rw [hp3]; rfl
  · rw [e13]; exact nw.2.2
  · exact l_ends c3 e32 X2 hes h19 hm.2 _ K (nn (s 2)) 0 0 7 (by omega) (Nat.le_refl _) (by omega)
end
