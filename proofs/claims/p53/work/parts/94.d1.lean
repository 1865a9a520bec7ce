/-! ===== the law between two acts: the World and the class show one row ===== -/
section
variable {kk : Int32 → PH → Prop} {h h' h0 h1 h2 : PH} {w k v j c : Nat} {W : WN} {s s' s0 s2 t : RW} {C E D F : Nat} {Q : Res → PH → Prop} {x y z : Int32} {ps : List RW} {S : List Nat}
theorem FmQ.hi (l : Hi h h') : FmQ S h h' := fun n hn => by
  have h1000 : 1000 ≤ n := by
    rcases Nat.lt_or_ge n 1000 with q | q
    · exfalso
      apply hn
      unfold qkd
      rw [Nat.blt_eq.mpr q]
    · exact q
  have e := l n h1000
  exact ⟨⟨l.kd n, congrFun e.2.2.2 1⟩, fun _ => e⟩
theorem WO.hi (X : WO h w W s) (l : Hi h h') : WO h' w W s := X.f0 (FmQ.hi l) l.md
theorem lo_of {n m : Nat} (h : n < m) (hm : m < 2 ^ 31) : ¬ nI m ≤ nI n := nI_ge h hm
theorem c_cell {b n : Nat} (hb : qkd h b = 48) (hl : qln h b ≤ 260) (hn : n < 1000) (K : ∀ y, (qln h b ≤ n → y = nI (1664525 * n + 15834)) → Q (.inl (some (.int y))) h) : MetQ mq_L_cell [.ref b, .int (nI n)] h Q := by
  refine tq_L_cell ⟨Or.inr (Or.inl hb), fun _ => ?_, fun z => ⟨Or.inr hb, ?_, K _ (fun y => absurd (nI_le y (by omega)) z)⟩⟩
  · rw [pk_mul, nI_add]
    exact K _ (fun _ => rfl)
  · refine vp_in_nI ?_ (by omega)
    rcases Nat.lt_or_ge n (qln h b) with q | q
    · exact q
    · exact absurd (nI_le q (by omega)) z
/-- what a pick gives where the script is at its end -/
def pkF (k n : Nat) : Nat := (1664525 * k + 15834) % 2 ^ 31 % n
theorem c_pick {b n m : Nat} (hb : qkd h b = 48) (hl : qln h b ≤ 260) (hn : n < 1000) (hm : 0 < m) (hm2 : m < 2 ^ 31) (K : ∀ r, r < m → (260 ≤ n → r = pkF n m) → Q (.inl (some (.int (nI r)))) h) : MetQ mq_L_pick [.ref b, .int (nI n), .int (nI m)] h Q := by
  refine tq_L_pick (c_cell hb hl hn (fun y hy _ => ⟨fun z => ?_, ?_⟩))
  · have := (nI_eq (a := m) (b := 0) hm2 (by decide)).mp z
    omega
  · rw [pk_and y (m := nI 2147483647) 31 (by decide), pk_rem (Nat.mod_lt _ (by decide)) hm hm2]
    refine K _ (Nat.mod_lt _ hm) (fun z => ?_)
    rw [hy (by omega), pk_tn (by omega)]
    rfl
/-- one row, shown by both -/
def StP (C E : Nat) (s : RW) (w : Nat) (h : PH) : Prop := ∃ W, CI C E s [] h ∧ WO h w W s ∧ W.es.length = nn (s 19) ∧ Good s ∧ inR (s 5) 1 9 = true ∧ (0 < nn (s 2) ∧ nn (s 2) ≤ 6) ∧ Kc h
theorem StP.mk (ci : CI C E s2 [] h) (e : eqR s' s2) (X : WO h w W s') (hes : W.es.length = nn (s' 19)) (G : Good s') (h5 : inR (s' 5) 1 9 = true) (hm : 0 < nn (s' 2) ∧ nn (s' 2) ≤ 6) (hc : Kc h) : StP C E s2 w h := by
  have R' := ci.R.eqR e.symm
  have e19 : s2 19 = s' 19 := e 19 (by decide)
  have e5 : s2 5 = s' 5 := e 5 (by decide)
  have e2 : s2 2 = s' 2 := e 2 (by decide)
  exact ⟨W, ci, X.row R'.1 (fun i h1 _ => e i (by omega)), by rw [e19]; exact hes, G.eqR R' e, by rw [e5]; exact h5, by rw [e2]; exact hm, hc⟩
theorem ms_ne (X : WO h w W s) (hpos : 0 < nn (s 2)) : W.ms ≠ [] := fun e => by
  have := X.m.2.1
  rw [e] at this
  rw [← this] at hpos
  exact Nat.lt_irrefl 0 hpos
/-! the clock -/
theorem next_11 : nextS s 11 = s 11 := by
  have hu : ∀ j, (j < 12 ∨ 19 ≤ j) → nextU s j = s j := fun j hj => by unfold nextU; rw [ups_n (by omega), ups_n (by omega)]
  unfold nextS
  split
  · exact hu 11 (by omega)
  · split
    · unfold doneS
      rw [evS_lo (by decide) (by decide), ups_n (by decide), ups_n (by decide), hu 11 (by omega)]
    · rw [ups_n (by decide), ups_n (by decide), hu 11 (by omega)]
theorem min_11 : minS s 11 = s 11 + nI 1 := by
  have h1 : min1 s 11 = s 11 + nI 1 := (endA_lo _ 11 (by decide) (by decide)).trans ups_s
  have h2 : min2 s 11 = s 11 + nI 1 := by
    unfold min2
    split
    · unfold stopS
      rw [evS_lo (by decide) (by decide), ups_n (by decide), ups_n (by decide)]; exact h1
    · exact h1
  have h3 : min3 s 11 = s 11 + nI 1 := by
    unfold min3
    split
    · rw [next_11]; exact h2
    · exact h2
  unfold minS
  split
  · unfold rolS
    split
    · unfold soakS
      rw [evS_lo (by decide) (by decide), ups_n (by decide), ups_n (by decide), rolA_lo _ 11 (by decide) (by decide)]; exact h3
    · rw [rolA_lo _ 11 (by decide) (by decide)]; exact h3
  · exact h3
theorem it_11 (R : Rk C E s) : ∀ n, itS n s 11 = nI (nn (s 11) + n)
  | 0 => R.ck.1
  | n + 1 => by
    show minS (itS n s) 11 = _
    rw [min_11, it_11 R n, nI_add]; rfl
theorem min_5 : minS s 5 = s 5 := by
  have h1 : min1 s 5 = s 5 := (endA_lo _ 5 (by decide) (by decide)).trans (ups_n (by decide))
  have h2 : min2 s 5 = s 5 := by
    unfold min2
    split
    · unfold stopS
      rw [evS_lo (by decide) (by decide), ups_n (by decide), ups_n (by decide)]; exact h1
    · exact h1
  have hu : ∀ (s : RW) j, (j < 12 ∨ 19 ≤ j) → nextU s j = s j := fun s j hj => by unfold nextU; rw [ups_n (by omega), ups_n (by omega)]
  have h3 : min3 s 5 = s 5 := by
    unfold min3
    split
    · rw [← h2]
      unfold nextS
      split
      · exact hu _ 5 (by omega)
      · split
        · unfold doneS
          rw [evS_lo (by decide) (by decide), ups_n (by decide), ups_n (by decide), hu _ 5 (by omega)]
        · rw [ups_n (by decide), ups_n (by decide), hu _ 5 (by omega)]
    · exact h2
  unfold minS
  split
  · unfold rolS
    split
    · unfold soakS
      rw [evS_lo (by decide) (by decide), ups_n (by decide), ups_n (by decide), rolA_lo _ 5 (by decide) (by decide)]; exact h3
    · rw [rolA_lo _ 5 (by decide) (by decide)]; exact h3
  · exact h3
theorem it_5 : ∀ n, itS n s 5 = s 5
  | 0 => rfl
  | n + 1 => (min_5 (s := itS n s)).trans (it_5 n)
end
