/-! ===== the law: acts ===== -/
section
variable {kk : Int32 → PH → Prop} {h h' h0 h1 h2 : PH} {w k v j c cp i b : Nat} {W : WN} {s s' s0 s2 t : RW} {C E D F : Nat} {Q : Res → PH → Prop} {x y z : Int32} {ps : List RW} {S : List Nat}
def kdA (i : Nat) : Nat := pkF (300 + i) 12
def vA (i : Nat) : Nat := pkF (340 + i) 4000
def mA (i : Nat) : Nat := if kdA i < 8 then 0 else if vA i % 3 = 0 then vA i % 60 else vA i % 9
def nA (i : Nat) : Nat := if kdA i < 8 then 2 else 15 * mA i
def costA (i : Nat) : Nat := if kdA i < 8 then 400 else 2400 * mA i + 1
theorem c_act (S : StP C E s w h) (hi : i < 18) (hb : qkd h b = 48) (hl : qln h b ≤ 260) (hv0 : 0 < nn (s 0)) (hC : C + 999 < 2 ^ 29) (hE : E + 30 * 999 < 2 ^ 31) (h20 : nn (s 11) + mA i ≤ 20000) (hcap : nn (s 19) + nA i ≤ 1200) (hcp : costA i ≤ cp) (K : AcK C E s w (mA i) (nA i) Q) : MetQ (wcap mq_L_acts cp) [.ref 0, .ref w, .ref b, .int (nI i)] h Q := by
  obtain ⟨W, ci, X, hes, G, h5, hm, hc⟩ := id S
  have R := ci.R
  have hv8 := R.v
  have hv82 := hv8.2
  have hlen := X.m.2.1
  refine tq_L_acts ?_
  rw [nI_add]
  refine c_pick hb hl (by omega) (by decide) (by decide) (fun v hv ev _ => ⟨X.kw, g3 X.r.2.2.2.2.2.1 ⟨X.al.rc, c_lsize X.al (fun _ => ?_)⟩⟩)
  rw [nI_add, hlen]
  refine c_pick hb hl (by omega) hm.1 (by omega) (fun k hk ek _ => ⟨X.kw, ?_⟩)
  rw [nI_add, show gi h w 15 = nI (nn (s 0)) from X.i.2.1.2.2.2.2.2.2.2.2.1.trans hv8.1]
  have hk2 : k < W.ms.length := by omega
  refine c_pick hb hl (by omega) hv0 (by omega) (fun to hto eto _ => ⟨X.kw, g3 X.r.2.2.2.2.2.1 ⟨X.al.rc, c_get X.al hk2 (fun _ => ⟨X.km hk2, ?_⟩)⟩⟩)
  rw [nI_add]
  refine c_pick hb hl (by omega) (by decide) (by decide) (fun r hr er _ => ?_)
  have ev : v = vA i := ev (by omega)
  have er : r = kdA i := er (by omega)
  have lowK : kdA i < 8 → AcK C E s w 0 2 Q ∧ 400 ≤ cp ∧ nn (s 19) + 2 ≤ 1200 := fun q => by
    have e1 : mA i = 0 := if_pos q
    have e2 : nA i = 2 := if_pos q
    have e3 : costA i = 400 := if_pos q
    rw [e1, e2] at K
    rw [e2] at hcap
    rw [e3] at hcp
    exact ⟨K, hcp, hcap⟩
  have rj : ∀ j, j < 8 → nI r = nI j → kdA i < 8 := fun j hj z => by
    have := (nI_eq (a := r) (b := j) (by omega) (by omega)).mp z
    omega
  have hq : ∃ W', WO h w W' s ∧ W.ms.getD k 0 = W'.ms.getD k 0 := ⟨W, X, rfl⟩
  have hq2 : ∃ W', W'.es.length = nn (s 19) ∧ WO h w W' s ∧ W.ms.getD k 0 = W'.ms.getD k 0 := ⟨W, hes, X, rfl⟩
  refine sq_L_acts_76 ⟨fun z => ?_, fun z => ?_, fun z => ?_, fun z => ?_, fun z => ?_, fun z => ?_, fun z => ?_, fun z => ?_, fun z => ?_, trivial⟩
  · have hge : ¬ kdA i < 8 := fun q => z r (by omega) (by omega) rfl
    have e2 : nA i = 15 * mA i := if_neg hge
    have e3 : costA i = 2400 * mA i + 1 := if_neg hge
    have e1 : mA i = if v % 3 = 0 then v % 60 else v % 9 := by rw [ev]; exact if_neg hge
    rw [e2] at K hcap
    rw [e3] at hcp
    refine sq_L_acts_422 ⟨by decide, ?_⟩
    rw [pk_rem (show v < 2 ^ 31 by omega) (by decide) (by decide), pk_rem (show v < 2 ^ 31 by omega) (by decide) (by decide), pk_rem (show v < 2 ^ 31 by omega) (by decide) (by decide), ← nI_0, nI_eq (by omega) (by decide)]
    refine ⟨fun q => ⟨by decide, ?_⟩, fun q => ⟨by decide, ?_⟩⟩
    · have em : mA i = v % 9 := by rw [e1, if_neg q]
      rw [em] at K hcap hcp h20
      exact a_pass S hC hE (by omega) h20 hcap (by omega) K
    · have em : mA i = v % 60 := by rw [e1, if_pos q]
      rw [em] at K hcap hcp h20
      exact a_pass S hC hE (by omega) h20 hcap (by omega) K
  · obtain ⟨K0, h400, hcap2⟩ := lowK (rj 0 (by decide) z)
    exact a_start S (by omega) hto hcap2 (by omega) K0
  · obtain ⟨K0, h400, hcap2⟩ := lowK (rj 1 (by decide) z)
    exact a_start S (by omega) hto hcap2 (by omega) K0
  · obtain ⟨K0, h400, hcap2⟩ := lowK (rj 2 (by decide) z)
    exact a_stop S (by omega) hcap2 (by omega) K0
  · obtain ⟨K0, h400, hcap2⟩ := lowK (rj 3 (by decide) z)
    exact a_go S (by omega) hcap2 (by omega) K0
  · obtain ⟨K0, h400, hcap2⟩ := lowK (rj 4 (by decide) z)
    exact a_hold S (by omega) hk hq hcap2 (by omega) K0
  · obtain ⟨K0, h400, hcap2⟩ := lowK (rj 5 (by decide) z)
    exact a_report S hk hv hq2 (by omega) K0
  · obtain ⟨K0, h400, hcap2⟩ := lowK (rj 6 (by decide) z)
    exact a_change S (by omega) (by omega) hk hto hq2 hcap2 (by omega) K0
  · obtain ⟨K0, h400, hcap2⟩ := lowK (rj 7 (by decide) z)
    exact a_commit S (by omega) hv hcap2 (by omega) K0
end
