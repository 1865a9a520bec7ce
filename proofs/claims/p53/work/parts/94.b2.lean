/-! ===== the law: alike, its head ===== -/
section
variable {kk : Int32 → PH → Prop} {h h' h0 h1 : PH} {w k v j c : Nat} {W : WN} {s s' t : RW} {C E : Nat} {Q : Res → PH → Prop} {x y z : Int32} {ps : List RW}
theorem bT {A B : Prop} (k : B) : (b2i true = 0 → A) ∧ (¬ b2i true = 0 → B) := ⟨fun z => absurd z (by decide), fun _ => k⟩
theorem bFf {A B : Prop} (k : A) : (b2i false = 0 → A) ∧ (¬ b2i false = 0 → B) := ⟨fun _ => k, fun z => absurd rfl z⟩
theorem eqc {α : Type} {a b : α} {A B : Prop} (e : a = b) (k : A) : (a = b → A) ∧ (¬ a = b → B) := ⟨fun _ => k, fun z => absurd e z⟩
theorem eqd {α : Type} {a b : α} {A B : Prop} (e : a = b) (k : A) : (¬ a = b → B) ∧ (a = b → A) := ⟨fun z => absurd e z, fun _ => k⟩
theorem c_alike (ci : CI C E s ps h) (X : WO h w W s) (h6 : nn (s 2) ≤ 6) (hes : W.es.length = nn (s 19)) (h19 : nn (s 19) ≤ 1200) (K : ∀ h', CI C E s ps h' → WO h' w W s → Lw h h' → Q (.inl (some (.int (nI 1)))) h') : MetQ mq_L_alike [.ref 0, .ref w] h Q := by
  have R := ci.R
  have Y := ci.X
  have T := l_alike (Q := Q) (h0 := h) h6 hes h19 K (nn (s 2)) 0 h (by omega) ci X (Lw.refl h)
  obtain ⟨⟨i1, i2⟩, ⟨j0, j1, j2, j3, j4, j5, j6, j8, j15, j16, j17⟩, ip, iw, ie⟩ := X.i
  have m1 : (-1 : Int32) = -(nI 1) := by decide
  have p4 : ∀ x30, x30 = soakE s → (qkd h w = 2 ∧ (((gi h w 8) = (nI 2) → (qkd h w = 2 ∧ ((x30 = (gi h w 12) → Bt mq_L_alike Q 152 7 [some (.ref 0), some (.ref w), some (.int (nI 0)), none, none, none] [] h) ∧ (¬ x30 = (gi h w 12) → (isB (nI 0) ∧ Q (.inl (some (.int (nI 0)))) h))))) ∧ (¬ (gi h w 8) = (nI 2) → (qkd h w = 2 ∧ ((¬ (gi h w 8) = (nI 3) → ((x30 = (-(nI 1)) → Bt mq_L_alike Q 152 7 [some (.ref 0), some (.ref w), some (.int (nI 0)), none, none, none] [] h) ∧ (¬ x30 = (-(nI 1)) → (isB (nI 0) ∧ Q (.inl (some (.int (nI 0)))) h)))) ∧ ((gi h w 8) = (nI 3) → (qkd h w = 2 ∧ ((¬ (gi h w 13) = (nI 2) → ((x30 = (-(nI 1)) → Bt mq_L_alike Q 152 7 [some (.ref 0), some (.ref w), some (.int (nI 0)), none, none, none] [] h) ∧ (¬ x30 = (-(nI 1)) → (isB (nI 0) ∧ Q (.inl (some (.int (nI 0)))) h)))) ∧ ((gi h w 13) = (nI 2) → (qkd h w = 2 ∧ ((x30 = (gi h w 12) → Bt mq_L_alike Q 152 7 [some (.ref 0), some (.ref w), some (.int (nI 0)), none, none, none] [] h) ∧ (¬ x30 = (gi h w 12) → (isB (nI 0) ∧ Q (.inl (some (.int (nI 0)))) h))))))))))))) := by
    intro x30 e30
    rw [j8]
    refine ⟨X.kw, fun z => ⟨X.kw, eqc ?_ T⟩, fun z => ⟨X.kw, fun z2 => eqc ?_ T, fun z2 => ⟨X.kw, ?_⟩⟩⟩
    · rw [e30, ie (Or.inl z)]; exact if_pos (Or.inl z)
    · rw [e30, ← m1]; exact if_neg (fun y => y.elim z (fun y => z2 y.1))
    · rw [iw z2]
      refine ⟨fun z3 => eqc ?_ T, fun z3 => ⟨X.kw, eqc ?_ T⟩⟩
      · rw [e30, ← m1]; exact if_neg (fun y => y.elim z (fun y => z3 y.2))
      · rw [e30, ie (Or.inr ⟨z2, z3⟩)]; exact if_pos (Or.inr ⟨z2, z3⟩)
  have v0 : plnV s 0 = s 12 := if_pos rfl
  have v4 : plnV s 4 = soakE s := rfl
  refine tq_L_alike ⟨rfl, by decide, q_set Y (by decide) (fun _ => ⟨X.kw, eqd j6.symm ⟨rfl, by decide, q_set Y (by decide) (fun _ => ⟨X.kw, eqd j0.symm ⟨rfl, by decide, q_plan Y (by decide) (fun _ => ⟨X.kw, eqd (v0.trans j8.symm) ⟨rfl, by decide, q_plan Y (by decide) (fun _ => ⟨X.rc, c_wHasP X R (fun _ => ?_)⟩)⟩⟩)⟩⟩)⟩⟩)⟩
  cases hp : hasP s with
  | false =>
    have e1 : plnV s 1 = -(nI 1) := by unfold plnV; rw [hp]; rfl
    have e2 : plnV s 2 = -(nI 1) := by unfold plnV; rw [hp]; rfl
    have e3 : plnV s 3 = -(nI 1) := by unfold plnV; rw [hp]; rfl
    refine bFf (eqd e1 ⟨rfl, by decide, q_plan Y (by decide) (fun _ => ⟨X.rc, c_wHasP X R (fun _ => ?_)⟩)⟩)
    rw [hp]
    refine bFf (eqd e2 ⟨rfl, by decide, q_plan Y (by decide) (fun _ => ⟨X.rc, c_wHasP X R (fun _ => ?_)⟩)⟩)
    rw [hp]
    exact bFf (eqc e3 ⟨rfl, by decide, q_plan Y (by decide) (fun _ => p4 _ v4)⟩)
  | true =>
    obtain ⟨p1, p2, p3, -⟩ := ip hp
    have e1 : plnV s 1 = gi h w 9 := by rw [p1]; unfold plnV; rw [hp]; rfl
    have e2 : plnV s 2 = gi h w 10 := by rw [p2]; unfold plnV; rw [hp]; rfl
    have e3 : plnV s 3 = gi h w 11 := by rw [p3]; unfold plnV; rw [hp]; rfl
    refine bT ⟨X.kw, eqd e1 ⟨rfl, by decide, q_plan Y (by decide) (fun _ => ⟨X.rc, c_wHasP X R (fun _ => ?_)⟩)⟩⟩
    rw [hp]
    refine bT ⟨X.kw, eqd e2 ⟨rfl, by decide, q_plan Y (by decide) (fun _ => ⟨X.rc, c_wHasP X R (fun _ => ?_)⟩)⟩⟩
    rw [hp]
    exact bT ⟨X.kw, eqc e3 ⟨rfl, by decide, q_plan Y (by decide) (fun _ => p4 _ v4)⟩⟩
end
