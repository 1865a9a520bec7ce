/-! ===== the law: from the class's making on ===== -/
section
variable {h h' h0 h1 h2 : PH} {w k v j t a d n i m c q b C E : Nat} {bs : List Nat} {s s' : RW} {z : FI} {W : WN} {Q : Res → PH → Prop}
theorem c_lempty0 (A : AlQ h t v [] k) (K : Q (.inl (some (.int (nI 1)))) h) : MetQ mq_Jx4a65c_isEmpty_aae02 [.ref t] h Q := by
  refine tq_Jx4a65c_isEmpty_aae02 ⟨A.kl, ?_⟩
  rw [A.sz]
  exact ⟨fun z => absurd rfl z, fun _ => ⟨Or.inr rfl, K⟩⟩
theorem l_empty (X : WO h w W s) (hm : nn (s 2) = 0) (hc : c ≤ 599000) (K1 : ∀ h, Q (.inl (some (.int (nI 1)))) h) : Bt mq_L_law Q 44 c [some (.ref b), some (.ref w), some (.ref 0), some (.int (nI 0))] [] h := by
  have e0 : W.ms = [] := List.eq_nil_of_length_eq_zero (X.m.2.1.trans hm)
  have A := X.al
  rw [e0] at A
  refine sq_L_law_44 ⟨fun z => absurd z (by decide), fun _ => ⟨X.kw, g3 X.r.2.2.2.2.2.1 ⟨A.rc, c_lempty0 A (fun _ => ⟨fun _ => ?_, fun z => absurd z (by decide)⟩)⟩⟩⟩
  exact sq_L_law_106 ⟨X.kw, g3 X.r.2.2.2.2.2.1 ⟨A.rc, c_lempty0 A (fun _ => ⟨fun _ => ⟨Or.inr rfl, K1 h⟩, fun z => absurd z (by decide)⟩)⟩⟩
theorem l_13 (I : Inv z 0 0 h) (e11 : gi h 1 1 = nI 0) (G : GrF (clrS (h.1 132)) (fun i => gl h 137 i) w h s) (v0 : 0 < nn (s 0)) (m6 : nn (s 2) ≤ 6) (f5 : 1 ≤ nn (s 5)) (b1 : 1000 ≤ b) (b2 : b < 2000) (hb : qkd h b = 48) (hl : qln h b ≤ 260) (hc : c ≤ 59900) (K1 : ∀ h, Q (.inl (some (.int (nI 1)))) h) : Bt mq_L_law Q 13 c [some (.ref b), some (.ref w), some (.ref 0), none] [] h := by
  obtain ⟨W, nm, bs, m, td, s9, w9, X, hes, r25, XS, hlen, hcc, R, P, Gd, N⟩ := G
  refine sq_L_law_13 ⟨X.kw, g3 r25 ⟨by omega, c_feeds XS hlen e11 (fun h1 F1 e1 eb md1 => ⟨fun z => absurd z (by decide), fun _ => ?_⟩)⟩⟩
  refine sq_L_law_24 ⟨rfl, by omega, c_rdT I F1 hlen XS.tx e1 eb R P N (fun h2 ci hi2 => ?_)⟩
  have md2 : Md h h2 := F1.2.1.trans hi2.md
  have f2 : FmQ [] h h2 := F1.1.trans (FmQ.hi hi2) (fun n hn _ => absurd hn List.not_mem_nil)
  have X2 : WO h2 w W s := X.f0 f2 md2
  have e2 : s 2 = nI W.ms.length := by rw [X.m.2.1]; exact P.x.2.1.1
  refine ⟨X2.kw, g3 X2.r.2.2.2.2.2.1 ⟨X2.al.rc, c_lsize X2.al (fun _ => ⟨fun _ => ?_, fun z => absurd e2 z⟩)⟩⟩
  have e19 : nn (s 19) = 0 := by rw [P.c.2.2.2]; exact nn_0
  have e11' : nn (s 11) = 0 := by rw [P.c.2.1]; exact nn_0
  rcases Nat.eq_zero_or_pos (nn (s 2)) with q | q
  · exact l_empty X2 q (by omega) K1
  · have i5 : inR (s 5) 1 9 = true := by
      rw [P.c.1.1]
      exact (by decide : ∀ k, k < 10 → 1 ≤ k → inR (nI k) 1 9 = true) _ (by have := P.c.1.2; omega) f5
    exact l_law b1 b2 K1 18 0 _ h2 s (by omega) (by show c + 60 + 1 ≤ 60000 + 0; omega) ⟨W, ci, X2, by rw [hes, e19]; rfl, Gd, i5, ⟨q, m6⟩, hcc.md md2⟩ v0 e11' (by omega) (by rw [md2.kd b2]; exact hb) (by rw [md2.ln b1 b2]; exact hl)
end
