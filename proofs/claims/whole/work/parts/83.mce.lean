/-! ===== the model's command when an error is told ===== -/
section
variable {q : Nat → PH → Prop} {kk kj : Int32 → PH → Prop} {kv : PH → Prop} {h h' : PH} {b k e pl i : Nat} {x v1 : Int32}
theorem ME.arr (M : ME e pl h) (hb : 141 ≤ b ∧ b ≤ 143) : ME e pl (si h b k x) := ⟨M.1, M.2.1, (gi_ob (by omega)).trans M.2.2.1, (gi_ob (by omega)).trans M.2.2.2.1, by rw [si_b (by omega)]; exact M.2.2.2.2⟩
def EK (e pl : Nat) (kv : PH → Prop) (h : PH) : Prop := ∀ h', Fz WSc VSc h h' → ME e pl h' → kv h'
theorem EK.arr (K : EK e pl kv h) (hb : 141 ≤ b ∧ b ≤ 143) : EK e pl kv (si h b k x) := fun h2 y M => K h2 ((FSa hb).trans y) M
theorem e_c210 (M : ME e pl h) (K : EK e pl kv h) : At m_X12_command (rV q kv) 210 0 [some (.ref 130), some (.int v1), some (.int (nI i))] [] h :=
  u_X12_command_210 (e_good M ⟨fun y => absurd rfl y, fun _ => K h (Fz.refl _ _ _) M⟩)
theorem e_c198 (M : ME e pl h) (K : EK e pl kv h) : At m_X12_command (rV q kv) 198 0 [some (.ref 130), some (.int v1), some (.int (nI i))] [] h :=
  u_X12_command_198 ⟨fun _ => e_c210 M K, fun _ => e_mustSign M (e_c210 M K)⟩
theorem e_c179 (hi : i < 60) (M : ME e pl h) (K : EK e pl kv h) : At m_X12_command (rV q kv) 179 0 [some (.ref 130), some (.int v1), some (.int (nI i))] [] h :=
  u_X12_command_179 ⟨fun _ => e_c198 M K, fun _ => e_number M (fun z => ⟨vp_in_nI (by omega) (by omega), e_c198 (M.arr (by omega)) (K.arr (by omega))⟩)⟩
theorem e_ver {q' : Nat → PH → Prop} (M : ME e pl h) (K : ∀ z, kk z h) : MetPM m_X12_toldVersion [.ref 130] h (rI q' kk) := by
  refine t_X12_toldVersion ⟨rv (by omega), ?_⟩
  rw [show gi h 132 (nI 0).toNatClampNeg = nI (nn (h.1 132 0)) from M.2.2.2.2.1.1]
  exact e_told M (by have := M.2.2.2.2.1.2; omega) K
theorem e_mem {q' : Nat → PH → Prop} (M : ME e pl h) (K : ∀ z, kk z h) : MetPM m_X12_toldMember [.ref 130] h (rI q' kk) := by
  refine t_X12_toldMember ⟨rv (by omega), ?_⟩
  rw [show gi h 132 (nI 2).toNatClampNeg = nI (nn (h.1 132 2)) from M.2.2.2.2.2.2.1.1]
  exact e_told M (by have := M.2.2.2.2.2.2.1.2; omega) K
theorem e_c163 (hi : i < 60) (M : ME e pl h) (K : EK e pl kv h) : At m_X12_command (rV q kv) 163 0 [some (.ref 130), some (.int v1), some (.int (nI i))] [] h :=
  u_X12_command_163 ⟨fun _ => e_c179 hi M K, fun _ => e_ver M (fun z => ⟨vp_in_nI (by omega) (by omega), e_c179 hi (M.arr (by omega)) (K.arr (by omega))⟩)⟩
theorem e_c143 (hi : i < 60) (M : ME e pl h) (K : EK e pl kv h) : At m_X12_command (rV q kv) 143 0 [some (.ref 130), some (.int v1), some (.int (nI i))] [] h :=
  u_X12_command_143 ⟨fun _ => e_c163 hi M K, fun _ => e_number M (fun z => ⟨vp_in_nI (by omega) (by omega), e_c163 hi (M.arr (by omega)) (K.arr (by omega))⟩)⟩
theorem e_c122 (hi : i < 60) (M : ME e pl h) (K : EK e pl kv h) : At m_X12_command (rV q kv) 122 0 [some (.ref 130), some (.int v1), some (.int (nI i))] [] h :=
  u_X12_command_122 ⟨fun _ => e_c143 hi M K, fun _ => ⟨fun _ => e_c143 hi M K, fun _ => e_mem M (fun z => ⟨vp_in_nI (by omega) (by omega), e_c143 hi (M.arr (by omega)) (K.arr (by omega))⟩)⟩⟩
theorem e_c107 (hi : i < 60) (M : ME e pl h) (K : EK e pl kv h) : At m_X12_command (rV q kv) 107 0 [some (.ref 130), some (.int v1), some (.int (nI i))] [] h :=
  u_X12_command_107 ⟨fun _ => e_c122 hi M K, fun _ => e_ver M (fun z => ⟨vp_in_nI (by omega) (by omega), e_c122 hi (M.arr (by omega)) (K.arr (by omega))⟩)⟩
theorem e_c49 (M : ME e pl h) (K : EK e pl kv h) : At m_X12_command (rV q kv) 49 0 [some (.ref 130), some (.int v1), none] [] h :=
  u_X12_command_49 (e_good M ⟨fun y => absurd rfl y, fun _ => K h (Fz.refl _ _ _) M⟩)
theorem e_c34 (M : ME e pl h) (K : EK e pl kv h) : At m_X12_command (rV q kv) 34 0 [some (.ref 130), some (.int v1), none] [] h :=
  u_X12_command_34 ⟨fun _ => e_c49 M K, fun _ => e_wrong M (e_c49 M K)⟩
theorem e_c15 (M : ME e pl h) (K : EK e pl kv h) : At m_X12_command (rV q kv) 15 0 [some (.ref 130), some (.int v1), none] [] h :=
  u_X12_command_15 ⟨fun _ => e_c34 M K, fun _ => ⟨fun _ => e_c34 M K, fun _ => e_wrong M (e_c34 M K)⟩⟩
end
