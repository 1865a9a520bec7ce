/-! ===== the law's World: why a format may not be taken ===== -/
section
variable {h h' h0 : PH} {w k v g l j t c : Nat} {W : WN} {s s' : RW} {C E : Nat} {Q : Res → PH → Prop} {x y z : Int32} {es : List Nat}
theorem c_wWhyC (X : WO h w W s) (R : Rk C E s) (K : ∀ h', FmQ [] h h' → Lw h h' → Q (.inl (some (.int (nI (whyF s x))))) h') : MetQ mq_X13_whyCommit [.ref w, .int x] h Q := by
  obtain ⟨-, -, -, -, -, r6, -⟩ := X.r
  have hl := X.m.2.1
  have hle := X.al.le
  have h8 : nn (s 0) ≤ 8 := R.1.v.2
  have e0 : gi h w 0 = s 5 := X.i.2.1.1
  unfold whyF at K
  refine tq_X13_whyCommit ⟨X.kw, ?_⟩
  rw [e0]
  refine ⟨fun z => ⟨X.kw, g3 r6 ⟨X.al.rc, Nat.le_refl _, c_iter X.al (fun t h0 ht0 htz I0 f0 hlw0 _ => ?_)⟩⟩, fun z => ?_⟩
  · rw [if_pos z] at K
    have key : ∀ n cur (h1 : PH), cur + n = W.ms.length → (∀ i, i < cur → rds s (cN s i) x = true) → ItQ h1 t (W.u 0) cur → FmQ [] h h1 → Lw h h1 → Bt mq_X13_whyCommit Q 20 1 [some (.ref w), some (.int x), some (.ref t), none] [] h1 := by
      intro n
      induction n with
      | zero =>
        intro cur h1 hc hall I f hlw
        have X1 := X.f0 f hlw.md
        refine sq_X13_whyCommit_20 ⟨Or.inl I.kt, c_hasNext I X1.al (by omega) (fun z => by omega) (fun _ _ => ⟨fun _ => ?_, fun z => absurd rfl z⟩)⟩
        have ha : allR s x = true := allN_iff.mpr (fun i hi => hall i (by omega))
        have := K h1 f hlw
        rw [if_pos ha] at this
        exact this
      | succ n ih =>
        intro cur h1 hc hall I f hlw
        have X1 := X.f0 f hlw.md
        have hcur : cur < W.ms.length := by omega
        have hk : cur < nn (s 2) := by omega
        refine sq_X13_whyCommit_20 ⟨Or.inl I.kt, c_hasNext I X1.al (by omega) (fun _ _ => ⟨fun z => absurd z (by decide), fun _ => ⟨Or.inl I.kt, c_inext I X1.al hcur (by decide) (fun h2 I2 f2 hlw2 _ => ?_) ht0⟩⟩) (fun z => by omega)⟩
        have f3 : FmQ [] h h2 := f.trans f2 (fun n hn hz => absurd (List.mem_singleton.mp hn) (ne_of_kd hz htz))
        have hlw3 : Lw h h2 := hlw.trans hlw2
        have X2 := X.f0 f3 hlw3.md
        have km := X2.km hcur
        refine ⟨km, Or.inl km, c_wCom X2 R hcur (fun _ => ⟨X2.rc, c_wReads X2 (com_c R hk).2 h8 (fun _ => ⟨fun z => ?_, fun z => ?_⟩)⟩)⟩
        · refine ih (cur + 1) h2 (by omega) (fun i hi => ?_) I2 f3 hlw3
          rcases Nat.lt_or_eq_of_le (Nat.le_of_lt_succ hi) with y | y
          · exact hall i y
          · rw [y]
            cases q : rds s (cN s cur) x
            · exact absurd (b2i_0.mpr q) z
            · rfl
        · have ha : ¬ allR s x = true := fun q => by
            have := allN_iff.mp q cur hk
            rw [b2i_0.mp z] at this
            cases this
          have := K h2 f3 hlw3
          rw [if_neg ha] at this
          exact this
    exact key W.ms.length 0 h0 (by omega) (fun i hi => by omega) I0 f0 hlw0
  · have := K h (FmQ.refl h) (Lw.refl h)
    rw [if_neg z] at this
    exact this
end
