/-! ===== the law's World: who is down ===== -/
section
variable {h h' h1 : PH} {w k q9 a b v t c : Nat} {W : WN} {s : RW} {C E : Nat} {Q : Res → PH → Prop} {x : Int32}
theorem up_c (R : Rk C E s) (hk : k < nn (s 2)) : (mf s k 2 < 0 → isD s k = false) ∧ (0 ≤ mf s k 2 → isD s k = true) := by
  have M := R.2.1.2 k hk
  refine ⟨fun z => ?_, fun z => ?_⟩
  · cases hd : isD s k
    · rfl
    · exfalso
      obtain ⟨e, l⟩ := (M.nx hd).1
      rw [e] at z
      exact nI_pos (by omega) z
  · unfold isD
    rw [decide_eq_false]
    · rfl
    · intro e
      rw [e] at z
      exact absurd z (by decide)
/-- a heap that only has new cells beside -/
theorem c_wDown (X : WO h w W s) (R : Rk C E s) (K : ∀ h', FmQ [] h h' → Lw h h' → Q (.inl (some (.int (nI (cnt (nn (s 2)) (dnIn s x)))))) h') : MetQ mq_X13_downIn [.ref w, .int x] h Q := by
  obtain ⟨-, -, -, -, -, r6, -⟩ := X.r
  have hl := X.m.2.1
  have hle := X.al.le
  refine tq_X13_downIn ⟨X.kw, g3 r6 ⟨X.al.rc, Nat.le_refl _, c_iter X.al (fun t h0 ht0 htz I0 f0 hlw0 _ => ?_)⟩⟩
  have key : ∀ n cur (h1 : PH), cur + n = W.ms.length → ItQ h1 t (W.u 0) cur → FmQ [] h h1 → Lw h h1 → Bt mq_X13_downIn Q 12 1 [none, some (.int x), some (.int (nI (cnt cur (dnIn s x)))), some (.ref t), none] [] h1 := by
    intro n
    induction n with
    | zero =>
      intro cur h1 hc I f hlw
      have X1 := X.f0 f hlw.md
      refine sq_X13_downIn_12 ⟨Or.inl I.kt, c_hasNext I X1.al (by omega) (fun z => by omega) (fun _ _ => ⟨fun _ => ?_, fun z => absurd rfl z⟩)⟩
      have : cur = nn (s 2) := by omega
      rw [this]
      exact K h1 f hlw
    | succ n ih =>
      intro cur h1 hc I f hlw
      have X1 := X.f0 f hlw.md
      have hcur : cur < W.ms.length := by omega
      have hk : cur < nn (s 2) := by omega
      refine sq_X13_downIn_12 ⟨Or.inl I.kt, c_hasNext I X1.al (by omega) (fun _ _ => ⟨fun z => absurd z (by decide), fun _ => ⟨Or.inl I.kt, c_inext I X1.al hcur (by decide) (fun h2 I2 f2 hlw2 _ => ?_) ht0⟩⟩) (fun z => by omega)⟩
      have f3 : FmQ [] h h2 := f.trans f2 (fun n hn hz => absurd (List.mem_singleton.mp hn) (ne_of_kd hz htz))
      have hlw3 : Lw h h2 := hlw.trans hlw2
      have X2 := X.f0 f3 hlw3.md
      have km := X2.km hcur
      have e0 : gi h2 (W.ms.getD cur 0) 0 = mf s cur 0 := X2.f hcur (by decide)
      have e2 : gi h2 (W.ms.getD cur 0) 2 = mf s cur 2 := X2.f hcur (by decide)
      have go := ih (cur + 1) h2 (by omega) I2 f3 hlw3
      have ec : nI (cnt (cur + 1) (dnIn s x)) = nI (cnt cur (dnIn s x)) + b2i (dnIn s x cur) := by
        rw [nI_b2i]
        rfl
      rw [ec] at go
      refine ⟨km, km, ?_⟩
      rw [e0]
      refine ⟨fun z => ?_, fun z => ⟨Or.inl km, c_mUp km (fun z2 _ => ⟨fun _ => ?_, fun y => absurd y (by decide)⟩) (fun z2 _ => ⟨fun y => absurd rfl y, fun _ => ?_⟩)⟩⟩
      · have : dnIn s x cur = false := by unfold dnIn; rw [decide_eq_false z]; rfl
        rw [this] at go
        exact go
      · rw [e2] at z2
        have : dnIn s x cur = false := by unfold dnIn; rw [(up_c R hk).1 z2, Bool.and_false]
        rw [this] at go
        exact go
      · rw [e2] at z2
        have : dnIn s x cur = true := by unfold dnIn; rw [(up_c R hk).2 z2, decide_eq_true z]; rfl
        rw [this] at go
        exact go
  exact key W.ms.length 0 h0 (by omega) I0 f0 hlw0
end
