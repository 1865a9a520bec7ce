/-! ===== the law: begins, ends ===== -/
section
variable {kk : Int32 → PH → Prop} {h h' h0 h1 h2 : PH} {w k v j c cp i b : Nat} {W : WN} {s s' s0 s2 t : RW} {C E D F : Nat} {Q : Res → PH → Prop} {x y z : Int32} {ps : List RW} {S : List Nat}
theorem l_begins (S : StP C E s w h) (hC : C + 999 < 2 ^ 29) (hE : E + 1 + 30 * 999 < 2 ^ 31) (hclk : nn (s 11) + 99 ≤ 20000) (h19 : nn (s 19) ≤ 1200) (hk : k < nn (s 2)) (hv0 : 0 < nn (s 0)) (K : ∀ h' s', StP (C + 999) (E + 1 + 30 * 999) s' w h' → eqR s s' → Q (.inl (some (.int (nI 1)))) h') :
    ∀ n v, v + n = nn (s 0) → (∀ i, i < v → whyN s k i ≠ 0) → Bt mq_L_begins Q 23 v [some (.ref 0), some (.ref w), none, none, some (.int (nI k)), some (.int (nI v)), none] [] h := by
  obtain ⟨W, ci, X, hes, G, h5, hm, hc⟩ := id S
  have R := ci.R
  have hv8 := R.v
  have hv82 := hv8.2
  have j15 : gi h w 15 = nI (nn (s 0)) := X.i.2.1.2.2.2.2.2.2.2.2.1.trans hv8.1
  intro n
  induction n with
  | zero =>
    intro v hv hall
    have ev : v = nn (s 0) := by omega
    have hz : mk (nn (s 0)) (fun v => decide (whyN s k v = 0)) = 0 := mk_0 (fun i hi => decide_eq_false (hall i (by omega)))
    have fin : ∀ c, Bt mq_L_begins Q 246 c [none, none, none, none, none, none, none] [] h := fun c => sq_L_begins_246 ⟨Or.inr rfl, K h s (S.mono (by omega) (by omega)) (eqR.refl s)⟩
    refine sq_L_begins_23 ⟨X.kw, ?_⟩
    rw [j15]
    refine ⟨fun _ => ⟨rfl, by omega, q_open ci.X R hk (fun _ => eqd hz ⟨rfl, by omega, q_mem ci.X R hk (by decide) (fun _ => ⟨fun _ => fin _, fun z => ⟨rfl, by omega, q_reason (v := 0) ci.X R hk hv0 (fun _ => eqd ?_ (fin _))⟩⟩)⟩)⟩, fun z => absurd (nI_le (a := nn (s 0)) (b := v) (by omega) (by omega)) z⟩
    have e5 : mf s k 5 = nI 1 := by
      refine (R.he k hk).resolve_left (fun q => z ?_)
      rw [mbV_f (by decide)]; exact q
    unfold whyN
    rw [if_pos e5]
  | succ n ih =>
    intro v hv hall
    refine sq_L_begins_23 ⟨X.kw, ?_⟩
    rw [j15]
    refine ⟨fun z => absurd z (nI_ge (by omega) (by omega)), fun _ => ⟨rfl, by omega, q_open ci.X R hk (fun _ => ?_)⟩⟩
    rw [bit_b2i (by omega), bt_mk_in (by omega) (show v < nn (s 0) by omega)]
    refine ⟨fun z => ?_, fun z => ?_⟩
    · have hw : whyN s k v = 0 := by
        cases q : decide (whyN s k v = 0)
        · rw [q] at z; exact absurd rfl z
        · exact of_decide_eq_true q
      exact c_begin1 (c := v) S hC hE hclk h19 hk (by omega) hw (by omega) rfl K
    · rw [nI_add]
      refine ih (v + 1) (by omega) (fun i hi => ?_)
      rcases Nat.lt_or_eq_of_le (Nat.le_of_lt_succ hi) with q | q
      · exact hall i q
      · rw [q]
        exact of_decide_eq_false (b2i_0.mp z)
theorem c_begins (S : StP C E s w h) (hi : i < 18) (hb : qkd h b = 48) (hl : qln h b ≤ 260) (hC : C + 999 < 2 ^ 29) (hE : E + 1 + 30 * 999 < 2 ^ 31) (hclk : nn (s 11) + 99 ≤ 20000) (h19 : nn (s 19) ≤ 1200) (hv0 : 0 < nn (s 0)) (K : ∀ h' s', StP (C + 999) (E + 1 + 30 * 999) s' w h' → eqR s s' → Q (.inl (some (.int (nI 1)))) h') : MetQ mq_L_begins [.ref 0, .ref w, .ref b, .int (nI i)] h Q := by
  obtain ⟨W, ci, X, hes, G, h5, hm, hc⟩ := id S
  refine tq_L_begins ⟨X.kw, g3 X.r.2.2.2.2.2.1 ⟨X.al.rc, c_lsize X.al (fun _ => ?_)⟩⟩
  rw [nI_add, X.m.2.1]
  exact c_pick hb hl (by omega) hm.1 (by omega) (fun k hk _ _ => l_begins S hC hE hclk h19 hk hv0 K (nn (s 0)) 0 (by omega) (fun i hi => absurd hi (Nat.not_lt_zero i)))
/-! the end of a plan -/
theorem endF_at {n m : Nat} (e : endF s n = m + 1) : m ≤ n ∧ itS m s 12 = nI 4 ∧ ∀ j, j < m → ¬ itS j s 12 = nI 4 := by
  have h1 := fst1_in e
  refine ⟨by omega, of_decide_eq_true h1.2, fun j hj q => ?_⟩
  have : ∀ (p : Nat → Bool) (N k j : Nat), fst1 N p = k + 1 → j < k → p j = false := by
    intro p N
    induction N with
    | zero => intro k j e _; cases e
    | succ N ih =>
      intro k j e hj
      unfold fst1 at e
      split at e
      · rename_i z
        split at e
        · rename_i z2
          have ek : N = k := by omega
          cases q : p j
          · rfl
          · exfalso
            have : ∀ M, j < M → fst1 M p ≠ 0 := by
              intro M
              induction M with
              | zero => intro h; omega
              | succ M ihM =>
                intro h z3
                unfold fst1 at z3
                split at z3
                · rename_i z4
                  split at z3
                  · cases z3
                  · rename_i z5
                    by_cases hjm : j = M
                    · subst hjm; rw [q] at z5; exact z5 rfl
                    · exact ihM (by omega) z4
                · rename_i z4; exact z4 z3
            exact this N (by omega) z
        · cases e
      · exact ih k j e hj
  have := this _ _ _ j e hj
  rw [decide_eq_true q] at this
  cases this
end
