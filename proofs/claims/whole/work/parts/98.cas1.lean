/-! ===== the law, case by case: questions ===== -/
section
variable {h : PH} {z : FI} {C E c i n : Nat} {o6 o7 o8 : Option Value}
theorem L_508 (I : Inv z C E h) (B : LB z C E c i n) (G : GO z C E c i) : At m_L_law QL 508 c (LLs (nI i) o6 o7 o8) [] h := by
  obtain ⟨n0, a1, a2, a3, a4, a5, a6⟩ := I.it
  exact u_L_law_508 (c_errorCode (s_errorCode ⟨fun _ => G.go (by omega) (I.fz FZ0) (by omega) (by omega), fun y => absurd a5 y⟩))
theorem L_521 (I : Inv z C E h) (B : LB z C E c i n) (G : GO z C E c i) : At m_L_law QL 521 c (LLs (nI i) o6 o7 o8) [] h := by
  obtain ⟨n0, a1, a2, a3, a4, a5, a6⟩ := I.it
  exact u_L_law_521 (c_errorPosition (s_errorPosition ⟨fun _ => G.go (by omega) (I.fz FZ0) (by omega) (by omega), fun y => absurd a6 y⟩))
theorem L_1149 (I : Inv z C E h) (B : LB z C E c i n) (G : GO z C E c i) : At m_L_law QL 1149 c (LLs (nI i) o6 o7 o8) [] h := by
  exact u_L_law_1149 (c_skewNow I.ic.1 I.ic.2 (s_skewNow I.ic.1 (h := h) rfl ⟨fun _ => G.go (by omega) (I.fz FZ0) (by omega) (by omega), fun y => absurd rfl y⟩))
theorem L_1354 (I : Inv z C E h) (B : LB z C E c i n) (G : GO z C E c i) : At m_L_law QL 1354 c (LLs (nI i) o6 o7 o8) [] h := by
  exact u_L_law_1354 (c_mixed I.ic.1 I.ic.2 (s_mixed I.ic.1 (h := h) rfl ⟨fun _ => G.go (by omega) (I.fz FZ0) (by omega) (by omega), fun y => absurd rfl y⟩))
theorem L_1423 (I : Inv z C E h) (B : LB z C E c i n) (G : GO z C E c i) : At m_L_law QL 1423 c (LLs (nI i) o6 o7 o8) [] h := by
  exact u_L_law_1423 (c_lagging I.ic.1 I.ic.2 (s_lagging I.ic.1 (h := h) rfl ⟨fun _ => G.go (by omega) (I.fz FZ0) (by omega) (by omega), fun y => absurd rfl y⟩))
theorem L_1436 (I : Inv z C E h) (B : LB z C E c i n) (G : GO z C E c i) : At m_L_law QL 1436 c (LLs (nI i) o6 o7 o8) [] h := by
  exact u_L_law_1436 (c_blocked I.ic.1 I.ic.2 (s_blocked I.ic.1 (h := h) rfl ⟨fun _ => G.go (by omega) (I.fz FZ0) (by omega) (by omega), fun y => absurd rfl y⟩))
theorem L_1680 (I : Inv z C E h) (B : LB z C E c i n) (G : GO z C E c i) : At m_L_law QL 1680 c (LLs (nI i) o6 o7 o8) [] h := by
  exact u_L_law_1680 (c_highestFormat I.ic.1 I.ic.2 (s_highestFormat I.ic.1 (h := h) rfl ⟨fun _ => G.go (by omega) (I.fz FZ0) (by omega) (by omega), fun y => absurd rfl y⟩))
theorem L_1693 (I : Inv z C E h) (B : LB z C E c i n) (G : GO z C E c i) : At m_L_law QL 1693 c (LLs (nI i) o6 o7 o8) [] h := by
  exact u_L_law_1693 (c_wayBack I.ic.1 I.ic.2 (s_wayBack I.ic.1 (h := h) rfl ⟨fun _ => G.go (by omega) (I.fz FZ0) (by omega) (by omega), fun y => absurd rfl y⟩))
theorem L_1962 (I : Inv z C E h) (B : LB z C E c i n) (G : GO z C E c i) : At m_L_law QL 1962 c (LLs (nI i) o6 o7 o8) [] h := by
  exact u_L_law_1962 (c_events I.ic.2 (s_events I.ic.1 (by have := B.bE; omega) rfl ⟨fun _ => G.go (by omega) (I.fz FZ0) (by omega) (by omega), fun y => absurd rfl y⟩))
theorem L_1818 (I : Inv z C E h) (B : LB z C E c i n) (G : GO z C E c i) : At m_L_law QL 1818 c (LLs (nI i) o6 o7 o8) [] h := by
  have hC := B.bC
  have hE := B.bE
  exact u_L_law_1818 (c_bestToFree I.ic.1 (by omega) (by omega) I.ic.2 (fun h1 f1 => s_bestToFree I.ic.1 (by omega) (by omega) ((FZw f1).cell (fun k => by unfold WZ; omega)) (fun h2 U => ⟨fun _ => G.go (by omega) (I.fz ((FZw f1).trans (FZq ((FZw f1).cell (fun k => by unfold WZ; omega)) U))) (by omega) (by omega), fun y => absurd rfl y⟩)))
theorem L_1583 (I : Inv z C E h) (B : LB z C E c i n) (G : GO z C E c i) : At m_L_law QL 1583 c (LLs (nI i) o6 o7 o8) [] h := by
  refine u_L_law_1583 (c_meanMeasure I.ic.1 I.ic.2 (s_meanMeasure2 I.ic.1 (h := h) rfl (fun h1 f1 r1 => ?_)))
  have g : ∀ o6 o7 o8, At m_L_law QL 2658 c (LLs (nI i) o6 o7 o8) [] h1 := fun o6 o7 o8 => G.go (by omega) (I.fz (FZ0.trans (FZm rfl f1 (r1.trans (si_b (by omega)).symm)))) (by omega) (by omega)
  exact ⟨fun _ => g _ _ _, fun y => ⟨fun y2 => absurd y2 y, fun _ => ⟨fun _ => g _ _ _, fun y2 => absurd y2 y⟩⟩⟩
theorem L_2519 (I : Inv z C E h) (B : LB z C E c i n) (G : GO z C E c i) : At m_L_law QL 2519 c (LLs (nI i) o6 o7 o8) [] h := by
  exact u_L_law_2519 (c_writeReport I (fun NV NM h1 U => s_writeReport I U (fun h2 J => ⟨fun _ => G.go (by omega) J (by omega) (by omega), fun y => absurd rfl y⟩)))
theorem L_2588 (I : Inv z C E h) (B : LB z C E c i n) (G : GO z C E c i) : At m_L_law QL 2588 c (LLs (nI i) o6 o7 o8) [] h := by
  refine u_L_law_2588 (c_undo I (fun u w b => ⟨fun hu => ?_, fun hu h1 U => s_undo I b hu U (fun h2 J _ => ⟨fun _ => G.go (by omega) J (by omega) (by omega), fun y => absurd rfl y⟩)⟩))
  exact s_undo0 (by rw [b.2.2.2.2.1, hu]) ⟨fun _ => G.go (by omega) (I.fz FZ0) (by omega) (by omega), fun y => absurd rfl y⟩
theorem L_2601 (I : Inv z C E h) (B : LB z C E c i n) (G : GO z C E c i) : At m_L_law QL 2601 c (LLs (nI i) o6 o7 o8) [] h := by
  exact u_L_law_2601 (c_save I (fun h1 U => s_save I U (fun h2 J _ => ⟨fun _ => G.go (by omega) J (by omega) (by omega), fun y => absurd rfl y⟩)))
end
