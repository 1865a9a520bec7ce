/-! ===== the law: its loop ===== -/
section
variable {h h' h0 h1 h2 : PH} {w k v j t a d n i m c q b C E : Nat} {bs : List Nat} {s s' : RW} {W : WN} {Q : Res → PH → Prop}
def smm : Nat → Nat
  | 0 => 0
  | i + 1 => smm i + mA i
def smn : Nat → Nat
  | 0 => 0
  | i + 1 => smn i + nA i
def smc : Nat → Nat
  | 0 => 0
  | i + 1 => smc i + (costA i + 1450)
theorem sm_ok : ∀ i, i < 19 → smm i ≤ 100 ∧ smn i ≤ 1200 ∧ smc i ≤ 500000 := by decide +kernel
theorem c_lempty (A : AlQ h t v bs k) (hne : bs ≠ []) (K : Q (.inl (some (.int (nI 0)))) h) : MetQ mq_Jx4a65c_isEmpty_aae02 [.ref t] h Q := by
  refine tq_Jx4a65c_isEmpty_aae02 ⟨A.kl, ?_⟩
  rw [A.sz]
  have hp : 0 < bs.length := List.length_pos_iff.mpr hne
  have hl : bs.length ≤ 1200 := A.le
  exact ⟨fun _ => ⟨Or.inl rfl, K⟩, fun z => absurd (Int32.le_of_eq z) (nI_nle hp (by omega))⟩
theorem l_106 (S : StP C E s w h) (hC : C + 2002 < 2 ^ 29) (hE : E + 30 * 2002 < 2 ^ 31) (hclk : nn (s 11) + 900 ≤ 20000) (h19 : nn (s 19) ≤ 1200) (hc : c ≤ 599000) (K1 : ∀ h, Q (.inl (some (.int (nI 1)))) h) : Bt mq_L_law Q 106 c [none, some (.ref w), some (.ref 0), none] [] h := by
  obtain ⟨W, ci, X, hes, G, h5, hm, hcc⟩ := id S
  refine sq_L_law_106 ⟨X.kw, g3 X.r.2.2.2.2.2.1 ⟨X.al.rc, c_lempty X.al (ms_ne X hm.1) (fun _ => ⟨fun z => absurd rfl z, fun _ => ⟨by omega, ?_⟩⟩)⟩⟩
  exact c_ends S hC hE hclk h19 (fun h' _ => ⟨fun z => absurd z (by decide), fun _ => ⟨Or.inr rfl, K1 h'⟩⟩)
theorem l_law (b1 : 1000 ≤ b) (b2 : b < 2000) (K1 : ∀ h, Q (.inl (some (.int (nI 1)))) h) : ∀ n i c h s, i + n = 18 → c ≤ 60000 + smc i → StP (2000 * i) (60000 * i) s w h → 0 < nn (s 0) → nn (s 11) = smm i → nn (s 19) ≤ smn i → qkd h b = 48 → qln h b ≤ 260 → Bt mq_L_law Q 44 c [some (.ref b), some (.ref w), some (.ref 0), some (.int (nI i))] [] h := by
  intro n
  induction n with
  | zero =>
    intro i c h s hi hc S v0 e11 e19 hb hl
    have o := sm_ok i (by omega)
    refine sq_L_law_44 ⟨fun _ => l_106 S (by omega) (by omega) (by omega) (by omega) (by omega) K1, fun z => absurd (nI_le (a := 18) (b := i) (by omega) (by omega)) z⟩
  | succ n ih =>
    intro i c h s hi hc S v0 e11 e19 hb hl
    have o := sm_ok i (by omega)
    have o1 := sm_ok (i + 1) (by omega)
    have em : smm (i + 1) = smm i + mA i := rfl
    have en : smn (i + 1) = smn i + nA i := rfl
    have ec : smc (i + 1) = smc i + (costA i + 1450) := rfl
    obtain ⟨W, ci, X, hes, G, h5, hm, hcc⟩ := id S
    refine sq_L_law_44 ⟨fun z => absurd z (nI_ge (by omega) (by decide)), fun _ => ⟨X.kw, g3 X.r.2.2.2.2.2.1 ⟨X.al.rc, c_lempty X.al (ms_ne X hm.1) (fun _ => ⟨fun z => absurd rfl z, fun _ => ⟨by omega, ?_⟩⟩)⟩⟩⟩
    refine c_holds (s0 := s) (by omega) ci X rfl rfl G hm.2 hm.1 h5 (fun _ => ⟨fun z => absurd z (by decide), fun _ => ⟨costA i, by omega, ?_⟩⟩)
    refine c_act S (by omega) hb hl v0 (by omega) (by omega) (by omega) (by omega) (Nat.le_refl _) (fun h1 s1 S1 a1 f11 f19 md1 => ⟨fun z => absurd z (by decide), fun _ => ⟨by omega, ?_⟩⟩)
    have v1 : 0 < nn (s1 0) := by rw [a1 0 (by omega)]; exact v0
    have hb1 : qkd h1 b = 48 := (md1.kd b2).trans hb
    have hl1 : qln h1 b ≤ 260 := by rw [md1.ln b1 b2]; exact hl
    refine c_begins S1 (by omega) hb1 hl1 (by omega) (by omega) (by omega) (by omega) v1 (fun h2 s2 S2 a2 md2 => ⟨fun z => absurd z (by decide), fun _ => ⟨by omega, ?_⟩⟩)
    obtain ⟨W2, ci2, X2, hes2, G2, h52, hm2, hcc2⟩ := id S2
    have e2 : ∀ j, j < 253 → s2 j = s1 j := fun j hj => a2 j hj
    refine c_alike ci2 X2 hm2.2 hes2 (by rw [e2 19 (by decide)]; omega) (fun h3 ci3 X3 l3 md3 => ⟨fun _ => ?_, fun z => absurd z (by decide)⟩)
    rw [nI_add]
    have S3 : StP (2000 * (i + 1)) (60000 * (i + 1)) s2 w h3 := StP.mono (by omega) (by omega) ⟨W2, ci3, X3, hes2, G2, h52, hm2, hcc2.md l3.md⟩
    exact ih (i + 1) _ h3 s2 (by omega) (by omega) S3 (by rw [e2 0 (by decide)]; exact v1) (by rw [e2 11 (by decide), f11, e11]; rfl) (by rw [e2 19 (by decide)]; omega) (by rw [md3.kd b2, md2.kd b2]; exact hb1) (by rw [md3.ln b1 b2, md2.ln b1 b2]; exact hl1)
end
