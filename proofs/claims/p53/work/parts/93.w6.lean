/-! ===== the law's World: the plan's questions ===== -/
section
variable {h h' : PH} {w k v : Nat} {W : WN} {s : RW} {C E : Nat} {Q : Res → PH → Prop} {x y z : Int32}
theorem c_wHasP (X : WO h w W s) (R : Rk C E s) (K : Q (.inl (some (.int (b2i (hasP s))))) h) : MetQ mq_X13_hasPlan [.ref w] h Q := by
  have e : gi h w 8 = s 12 := X.i.2.1.2.2.2.2.2.2.2.1
  have hst := R.2.2.1.st
  have hc : s 12 = nI 0 ∨ s 12 = nI 1 ∨ s 12 = nI 2 ∨ s 12 = nI 3 ∨ s 12 = nI 4 := by
    have h2 := hst.2
    rcases (by omega : nn (s 12) = 0 ∨ nn (s 12) = 1 ∨ nn (s 12) = 2 ∨ nn (s 12) = 3 ∨ nn (s 12) = 4) with q | q | q | q | q
    · exact Or.inl (hst.1.trans (congrArg nI q))
    · exact Or.inr (Or.inl (hst.1.trans (congrArg nI q)))
    · exact Or.inr (Or.inr (Or.inl (hst.1.trans (congrArg nI q))))
    · exact Or.inr (Or.inr (Or.inr (Or.inl (hst.1.trans (congrArg nI q)))))
    · exact Or.inr (Or.inr (Or.inr (Or.inr (hst.1.trans (congrArg nI q)))))
  refine tq_X13_hasPlan ⟨X.kw, ?_⟩
  rw [e]
  unfold hasP at K
  rcases hc with q | q | q | q | q
  · rw [q] at K ⊢
    exact ⟨fun _ => ⟨Or.inl rfl, K⟩, fun z => absurd (by decide) z⟩
  · rw [q] at K ⊢
    exact ⟨fun z => absurd z (by decide), fun _ => ⟨X.kw, fun z => absurd z (by decide), fun _ => ⟨Or.inr rfl, K⟩⟩⟩
  · rw [q] at K ⊢
    exact ⟨fun z => absurd z (by decide), fun _ => ⟨X.kw, fun z => absurd z (by decide), fun _ => ⟨Or.inr rfl, K⟩⟩⟩
  · rw [q] at K ⊢
    exact ⟨fun z => absurd z (by decide), fun _ => ⟨X.kw, fun z => absurd z (by decide), fun _ => ⟨Or.inr rfl, K⟩⟩⟩
  · rw [q] at K ⊢
    exact ⟨fun z => absurd z (by decide), fun _ => ⟨X.kw, fun _ => ⟨Or.inl rfl, K⟩, fun z => absurd (by decide) z⟩⟩
theorem c_wReady (X : WO h w W s) (R : Rk C E s) (hp : hasP s = true) (hk : k < W.ms.length) (K : Q (.inl (some (.int (b2i (rdy s k))))) h) : MetQ mq_X13_isReady [.ref w, .int (nI k)] h Q := by
  obtain ⟨-, -, -, -, -, r6, -⟩ := X.r
  have hl := X.m.2.1
  have hk2 : k < nn (s 2) := by omega
  have M := R.2.1.2 k hk2
  have e1 : gi h (W.ms.getD k 0) 1 = mf s k 1 := X.f hk (by decide)
  have e2 : gi h (W.ms.getD k 0) 2 = mf s k 2 := X.f hk (by decide)
  obtain ⟨-, p10, -, p14⟩ := X.i.2.2.1 hp
  have hse := (R.2.2.1.se hp).1
  have hdr := R.2.2.1.dr hp
  have hve := M.ve.1
  have km := X.km hk
  unfold rdy at K
  have a1 : mf s k 1 = nI (vN s k) := hve.1
  have a2 : vN s k ≤ 7 := hve.2
  refine tq_X13_isReady ⟨X.kw, g3 r6 ⟨X.al.rc, c_get X.al hk (fun _ => ⟨km, Or.inl km, c_mUp km (fun z2 _ => ⟨fun y => absurd y (by decide), fun _ => ⟨X.kw, ?_⟩⟩) (fun z2 _ => ⟨fun _ => ⟨Or.inl rfl, ?_⟩, fun y => absurd rfl y⟩)⟩)⟩⟩
  · rw [e2] at z2
    rw [(up_c R hk2).1 z2] at K
    rw [p14, p10, e1, a1, hse.1]
    have l14 := hse.2
    rcases hdr with ⟨d, -⟩ | ⟨d, -⟩
    · rw [if_pos d] at K
      refine ⟨fun q => absurd (d.symm.trans q) (by decide), fun _ => ⟨km, X.kw, fun q => ⟨Or.inl rfl, ?_⟩, fun q => ⟨Or.inr rfl, ?_⟩⟩⟩
      · have q := (nI_ltI (by omega) (by omega)).mp q
        rw [decide_eq_false (by omega)] at K; exact K
      · have q : ¬ vN s k < nn (s 14) := fun y => q (nI_lt y (by omega))
        rw [decide_eq_true (by omega)] at K; exact K
    · rw [if_neg (by rw [d]; decide)] at K
      refine ⟨fun _ => ⟨km, X.kw, fun q => ⟨Or.inl rfl, ?_⟩, fun q => ⟨Or.inr rfl, ?_⟩⟩, fun q => absurd d q⟩
      · have q := (nI_ltI (by omega) (by omega)).mp q
        rw [decide_eq_false (by omega)] at K; exact K
      · have q : ¬ nn (s 14) < vN s k := fun y => q (nI_lt y (by omega))
        rw [decide_eq_true (by omega)] at K; exact K
  · rw [e2] at z2
    rw [(up_c R hk2).2 z2] at K
    exact K
end
