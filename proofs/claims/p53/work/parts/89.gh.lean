/-! ===== the class's methods do not see the numbers from 130 to 999 ===== -/
theorem wd_eq {ad : Nat → Nat} {cA : Nat → ClassId} {h g : PH} (e : ∀ a, a < NK → h.1 a = g.1 a ∧ h.2.1 a = g.2.1 a ∧ h.2.2.1 a = g.2.2.1 a ∧ h.2.2.2 a = g.2.2.2 a) : wd ad cA h = wd ad cA g := by
  unfold wd
  refine List.map_congr_left fun a ha => ?_
  obtain ⟨e1, e2, e3, e4⟩ := e a (List.mem_range.mp ha)
  rw [cellE_eq e1 e2 e3 e4]
theorem wd_lw {ad : Nat → Nat} {cA : Nat → ClassId} {x y : PH} (a : Lw x y) : wd ad cA y = wd ad cA x := wd_eq fun n hn => a n (Nat.lt_of_lt_of_le hn (by decide))
/-- the same where worlds and constants are read -/
def Gh (h g : PH) : Prop := ∀ a, a < 130 ∨ 1000 ≤ a → g.1 a = h.1 a ∧ g.2.1 a = h.2.1 a ∧ g.2.2.1 a = h.2.2.1 a ∧ g.2.2.2 a = h.2.2.2 a
theorem Gh.hi {h g : PH} (x : Gh h g) : Hi h g := fun a ha => x a (Or.inr ha)
theorem MetPM.gh {M : MI} {as : List Value} {h g : PH} {Q : Res → PH → Prop} (x : Gh h g) (k : MetPM M as g Q) : MetPM M as h Q := by
  intro l ad cA D xs L sz hst
  have e1 : wd ad cA h = wd ad cA g := wd_eq fun a ha => by
    obtain ⟨a1, a2, a3, a4⟩ := x a (Or.inl ha)
    exact ⟨a1.symm, a2.symm, a3.symm, a4.symm⟩
  have e2 : scr xs L h = scr xs L g := propext ⟨fun z a ha => by
    obtain ⟨a1, a2, a3, a4⟩ := x a (Or.inr ha)
    obtain ⟨b1, b2, b3, b4⟩ := z a ha
    exact ⟨a1.trans b1, a2.trans b2, a3.trans b3, a4.trans b4⟩, fun z a ha => by
    obtain ⟨a1, a2, a3, a4⟩ := x a (Or.inr ha)
    obtain ⟨b1, b2, b3, b4⟩ := z a ha
    exact ⟨a1.symm.trans b1, a2.symm.trans b2, a3.symm.trans b3, a4.symm.trans b4⟩⟩
  have e : PcM ad cA D xs L sz h = PcM ad cA D xs L sz g := by
    funext U
    unfold PcM
    rw [e1, e2]
  rw [e]
  exact k l ad cA D xs L sz hst
