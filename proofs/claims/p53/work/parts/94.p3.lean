/-! ===== the text of a cluster that grew, as the class reads it: versions, members ===== -/
section
variable {c : Nat → Nat} {n p q r a e i k b d m o v x lo hi : Nat} {s s' : RW} {nm nm' nm0 : Nat → Int64} {td td' : Nat → Bool} {st rest bs : List Nat}
theorem l_pver {r : Nat} (hN : NmI nm s) (h8 : nn (s 0) < 8) (hlo : 1 ≤ lo ∧ lo ≤ 9) (hhi : lo ≤ hi ∧ hi ≤ 9) (c0 : c r = 32) (c1 : c (r + 1) = 118) (c2 : c (r + 2) = 97 + nn (s 0)) (c3 : c (r + 3) = 32) (c4 : c (r + 4) = 48 + lo) (c5 : c (r + 5) = 32) (c6 : c (r + 6) = 48 + hi) (c7 : diC (c (r + 7)) = false) (hn : r + 7 < n) : aRst c n s nm td 0 r = .inr (verS s (nI lo) (nI hi), upn nm (nn (s 0)) (lN (nvN 118 (nn (s 0)))), td, r + 7) := by
  show aVer c n s nm td r = _
  unfold aVer
  have f1 := fun K : Nat → Rs => aNew_ok (c := c) (n := n) (r := r) (nm := nm) (o := 0) (m := nn (s 0)) (K := K) (b := 118) (by decide) (by omega) hN.1 c0 c1 c2 (by rw [c3]; exact no32) (by omega)
  rw [(f1 _).1, aNum1_ok (r := r + 3) (d := lo) c3 c4 (by omega) (by rw [show c (r + 3 + 2) = 32 from c5]; exact nd32) (by omega) hlo.1 hlo.2, aNum1_ok (r := r + 3 + 2) (d := hi) c5 c6 (by omega) c7 (by omega) hhi.1 hhi.2, (f1 (fun _ => .inl (0, 0))).2]
theorem e_ver (h8 : nn (s 0) < 8) : eFst s td 0 = 0 := by unfold eFst; rw [if_pos rfl, if_pos h8]
theorem p_ver (hN : NmI nm s) (h8 : nn (s 0) < 8) (hlo : 1 ≤ lo ∧ lo ≤ 9) (hhi : lo ≤ hi ∧ hi ≤ 9) : Stm q (kwL 0 ++ [32, 118, 97 + nn (s 0), 32, 48 + lo, 32, 48 + hi, 59]) s nm td (verS s (nI lo) (nI hi)) (upn nm (nn (s 0)) (lN (nvN 118 (nn (s 0))))) td := by
  intro c n p hn hst hS
  obtain ⟨t1, t2, t3, hr⟩ := p_kw (L := 8) (i := 0) rfl (by decide) hst hS (by decide) rfl hn
  have hl : (kwL 0 ++ [32, 118, 97 + nn (s 0), 32, 48 + lo, 32, 48 + hi, 59]).length = kln 0 + 8 := by rw [List.length_append, kwL_len]; rfl
  rw [hl] at hn ⊢
  refine ⟨t1, q + kln 0 + 8, by omega, rfl, ?_⟩
  rw [aStm_ok t3 (e_ver h8) t2, l_pver (c := c) (n := n) (td := td) (r := q + kln 0) hN h8 hlo hhi (hr 0 (by decide)) (hr 1 (by decide)) (hr 2 (by decide)) (hr 3 (by decide)) (hr 4 (by decide)) (hr 5 (by decide)) (hr 6 (by decide)) (by rw [show c (q + kln 0 + 7) = 59 from hr 7 (by decide)]; exact nd59) (by omega)]
  exact aSgn_ok (semi_tok (hr 7 (by decide)) (by omega))
theorem p_ver2 (hN : NmI nm s) (h8 : nn (s 0) < 8) (hlo : 1 ≤ lo ∧ lo ≤ 9) (hhi : lo ≤ hi ∧ hi ≤ 9) : Stm q (kwL 0 ++ [32, 118, 97 + nn (s 0), 32, 48 + lo, 32, 48 + hi, 32, 59, 10]) s nm td (verS s (nI lo) (nI hi)) (upn nm (nn (s 0)) (lN (nvN 118 (nn (s 0))))) td := by
  intro c n p hn hst hS
  obtain ⟨t1, t2, t3, hr⟩ := p_kw (L := 10) (i := 0) rfl (by decide) hst hS (by decide) rfl hn
  have hl : (kwL 0 ++ [32, 118, 97 + nn (s 0), 32, 48 + lo, 32, 48 + hi, 32, 59, 10]).length = kln 0 + 10 := by rw [List.length_append, kwL_len]; rfl
  rw [hl] at hn ⊢
  refine ⟨t1, q + kln 0 + 9, by omega, ?_, ?_⟩
  · show tS c n (q + kln 0 + 9) = tS c n (q + kln 0 + 9 + 1)
    exact rE_go (by omega) (by rw [show c (q + kln 0 + 9) = 10 from hr 9 (by decide)]; rfl)
  · rw [aStm_ok t3 (e_ver h8) t2, l_pver (c := c) (n := n) (td := td) (r := q + kln 0) hN h8 hlo hhi (hr 0 (by decide)) (hr 1 (by decide)) (hr 2 (by decide)) (hr 3 (by decide)) (hr 4 (by decide)) (hr 5 (by decide)) (hr 6 (by decide)) (by rw [show c (q + kln 0 + 7) = 32 from hr 7 (by decide)]; exact nd32) (by omega)]
    exact aSgn_ok (semi1_tok (hr 7 (by decide)) (hr 8 (by decide)) (by omega))
theorem l_pmem {r : Nat} (hN : NmI nm s) (h8 : nn (s 0) ≤ 8) (h5 : nn (s 1) ≤ 5) (h12 : nn (s 2) < 12) (ha : a < nn (s 1)) (hv : v < nn (s 0)) (hj : joN s a v = true) (c0 : c r = 32) (c1 : c (r + 1) = 109) (c2 : c (r + 2) = 97 + nn (s 2)) (c3 : c (r + 3) = 32) (c4 : c (r + 4) = 112) (c5 : c (r + 5) = 97 + a) (c6 : c (r + 6) = 32) (c7 : c (r + 7) = 118) (c8 : c (r + 8) = 97 + v) (c9 : leC (c (r + 9)) = false) (hn : r + 9 < n) :
    aRst c n s nm td 3 r = if kwB c n (r + 9) 22 = true then .inr (memS s a v true, upn nm (13 + nn (s 2)) (lN (nvN 109 (nn (s 2)))), td, tE c n (r + 9)) else .inr (memS s a v false, upn nm (13 + nn (s 2)) (lN (nvN 109 (nn (s 2)))), td, r + 9) := by
  show aMem c n s nm td r = _
  unfold aMem
  have f1 := fun K : Nat → Rs => aNew_ok (c := c) (n := n) (r := r) (nm := nm) (o := 13) (m := nn (s 2)) (K := K) (b := 109) (by decide) (by omega) hN.2.2 c0 c1 c2 (by rw [c3]; exact no32) (by omega)
  have f2 := fun K : Nat → Rs => aFnd_ok (c := c) (n := n) (r := r + 3) (nm := nm) (o := 8) (m := nn (s 1)) (K := K) (b := 112) (by decide) (by omega) hN.2.1 ha c3 c4 c5 (by rw [show c (r + 3 + 3) = 32 from c6]; exact no32) (by omega)
  have f3 := fun K : Nat → Rs => aFnd_ok (c := c) (n := n) (r := r + 3 + 3) (nm := nm) (o := 0) (m := nn (s 0)) (K := K) (b := 118) (by decide) (by omega) hN.1 hv c6 c7 c8 c9 (by omega)
  rw [(f1 _).1, (f2 _).1, (f2 (fun _ => .inl (0, 0))).2, (f3 _).1, (f3 (fun _ => .inl (0, 0))).2, hj, if_pos rfl, (f1 (fun _ => .inl (0, 0))).2]
theorem e_mem (h12 : nn (s 2) < 12) : eFst s td 3 = 0 := by unfold eFst; rw [if_neg (by decide), if_neg (by decide), if_neg (by decide), if_pos rfl, if_pos h12]
theorem p_mem (hN : NmI nm s) (h8 : nn (s 0) ≤ 8) (h5 : nn (s 1) ≤ 5) (h12 : nn (s 2) < 12) (ha : a < nn (s 1)) (hv : v < nn (s 0)) (hj : joN s a v = true) : Stm q (kwL 3 ++ [32, 109, 97 + nn (s 2), 32, 112, 97 + a, 32, 118, 97 + v, 59]) s nm td (memS s a v false) (upn nm (13 + nn (s 2)) (lN (nvN 109 (nn (s 2))))) td := by
  intro c n p hn hst hS
  obtain ⟨t1, t2, t3, hr⟩ := p_kw (L := 10) (i := 3) rfl (by decide) hst hS (by decide) rfl hn
  have hl : (kwL 3 ++ [32, 109, 97 + nn (s 2), 32, 112, 97 + a, 32, 118, 97 + v, 59]).length = kln 3 + 10 := by rw [List.length_append, kwL_len]; rfl
  rw [hl] at hn ⊢
  have c9 : c (q + kln 3 + 9) = 59 := hr 9 (by decide)
  have sk := semi_tok (c := c) (n := n) (r := q + kln 3 + 9) c9 (by omega)
  have hk : kwB c n (q + kln 3 + 9) 22 = false := by
    unfold kwB
    rw [sk.1]; rfl
  refine ⟨t1, q + kln 3 + 10, by omega, rfl, ?_⟩
  rw [aStm_ok t3 (e_mem h12) t2, l_pmem (c := c) (n := n) (td := td) (r := q + kln 3) hN h8 h5 h12 ha hv hj (hr 0 (by decide)) (hr 1 (by decide)) (hr 2 (by decide)) (hr 3 (by decide)) (hr 4 (by decide)) (hr 5 (by decide)) (hr 6 (by decide)) (hr 7 (by decide)) (hr 8 (by decide)) (by rw [c9]; exact no59) (by omega), hk, if_neg (by decide)]
  exact aSgn_ok sk
theorem p_memh (hN : NmI nm s) (h8 : nn (s 0) ≤ 8) (h5 : nn (s 1) ≤ 5) (h12 : nn (s 2) < 12) (ha : a < nn (s 1)) (hv : v < nn (s 0)) (hj : joN s a v = true) : Stm q (kwL 3 ++ [32, 109, 97 + nn (s 2), 32, 112, 97 + a, 32, 118, 97 + v, 32, 104, 101, 108, 100, 59]) s nm td (memS s a v true) (upn nm (13 + nn (s 2)) (lN (nvN 109 (nn (s 2))))) td := by
  intro c n p hn hst hS
  obtain ⟨t1, t2, t3, hr⟩ := p_kw (L := 15) (i := 3) rfl (by decide) hst hS (by decide) rfl hn
  have hl : (kwL 3 ++ [32, 109, 97 + nn (s 2), 32, 112, 97 + a, 32, 118, 97 + v, 32, 104, 101, 108, 100, 59]).length = kln 3 + 15 := by rw [List.length_append, kwL_len]; rfl
  rw [hl] at hn ⊢
  have c9 : c (q + kln 3 + 9) = 32 := hr 9 (by decide)
  have hk := held_tok (c := c) (n := n) (r := q + kln 3 + 9) c9 (hr 10 (by decide)) (hr 11 (by decide)) (hr 12 (by decide)) (hr 13 (by decide)) (hr 14 (by decide)) (by omega)
  refine ⟨t1, q + kln 3 + 15, by omega, rfl, ?_⟩
  rw [aStm_ok t3 (e_mem h12) t2, l_pmem (c := c) (n := n) (td := td) (r := q + kln 3) hN h8 h5 h12 ha hv hj (hr 0 (by decide)) (hr 1 (by decide)) (hr 2 (by decide)) (hr 3 (by decide)) (hr 4 (by decide)) (hr 5 (by decide)) (hr 6 (by decide)) (hr 7 (by decide)) (hr 8 (by decide)) (by rw [c9]; exact no32) (by omega), hk.1, if_pos rfl, hk.2]
  exact aSgn_ok (semi_tok (hr 14 (by decide)) (by omega))
/-! the names, behind each -/
theorem NmI.same (N : NmI nm s) (e0 : s' 0 = s 0) (e1 : s' 1 = s 1) (e2 : s' 2 = s 2) : NmI nm s' := by unfold NmI; rw [e0, e1, e2]; exact N
theorem NmI.ver (N : NmI nm s) (h8 : nn (s 0) < 8) (e0 : nn (s' 0) = nn (s 0) + 1) (e1 : s' 1 = s 1) (e2 : s' 2 = s 2) : NmI (upn nm (nn (s 0)) (lN (nvN 118 (nn (s 0))))) s' := by
  unfold NmI
  rw [e0, e1, e2]
  refine ⟨fun i hi => ?_, fun i hi => ?_, fun i hi => ?_⟩
  · rw [Nat.zero_add]
    by_cases q : i = nn (s 0)
    · subst q; exact upn_s
    · rw [upn_n q]
      have := N.1 i (by omega)
      rw [Nat.zero_add] at this
      exact this
  · rw [upn_n (by omega)]; exact N.2.1 i hi
  · rw [upn_n (by omega)]; exact N.2.2 i hi
theorem NmI.pla (N : NmI nm s) (h8 : nn (s 0) ≤ 8) (h5 : nn (s 1) < 5) (e0 : s' 0 = s 0) (e1 : nn (s' 1) = nn (s 1) + 1) (e2 : s' 2 = s 2) : NmI (upn nm (8 + nn (s 1)) (lN (nvN 112 (nn (s 1))))) s' := by
  unfold NmI
  rw [e0, e1, e2]
  refine ⟨fun i hi => ?_, fun i hi => ?_, fun i hi => ?_⟩
  · rw [upn_n (by omega)]; exact N.1 i hi
  · by_cases q : i = nn (s 1)
    · subst q; exact upn_s
    · rw [upn_n (by omega)]; exact N.2.1 i (by omega)
  · rw [upn_n (by omega)]; exact N.2.2 i hi
theorem NmI.mem (N : NmI nm s) (h8 : nn (s 0) ≤ 8) (h5 : nn (s 1) ≤ 5) (e0 : s' 0 = s 0) (e1 : s' 1 = s 1) (e2 : nn (s' 2) = nn (s 2) + 1) : NmI (upn nm (13 + nn (s 2)) (lN (nvN 109 (nn (s 2))))) s' := by
  unfold NmI
  rw [e0, e1, e2]
  refine ⟨fun i hi => ?_, fun i hi => ?_, fun i hi => ?_⟩
  · rw [upn_n (by omega)]; exact N.1 i hi
  · rw [upn_n (by omega)]; exact N.2.1 i hi
  · by_cases q : i = nn (s 2)
    · subst q; exact upn_s
    · rw [upn_n (by omega)]; exact N.2.2 i (by omega)
end
