/-! ===== a change that began takes its time ===== -/
section
variable {w k v j c : Nat} {s s' t u : RW} {C E : Nat} {x y z : Int32}
theorem endA_on (hm : nn (u 2) ≤ 12) (hk : k < 12) : ∀ n, n ≤ 12 → (endC u k = false ∨ n ≤ k → ∀ i, i < 7 → mf (endA n u) k i = mf u k i) ∧ (endC u k = true → k < n → ∀ i, i < 7 → mf (endA n u) k i = mf (endU u k) k i)
  | 0, _ => ⟨fun _ _ _ => rfl, fun _ h => absurd h (Nat.not_lt_zero k)⟩
  | n + 1, hn => by
    obtain ⟨i1, i2⟩ := endA_on hm hk n (by omega)
    have e11 : endA n u 11 = u 11 := endA_lo n 11 (by decide) (by decide)
    have oth : n ≠ k → ∀ i, i < 7 → mf (endA (n + 1) u) k i = mf (endA n u) k i := fun hne i hi => by
      cases e : endC (endA n u) n
      · rw [endA_f e]
      · rw [endA_t e, end_f hk hi, endU_o hi (fun z => hne z.1.symm)]
    by_cases q : n = k
    · subst q
      have same := i1 (Or.inr (Nat.le_refl n))
      have ec : endC (endA n u) n = endC u n := by unfold endC; rw [isD_of (same 2 (by decide)), same 3 (by decide), e11]
      refine ⟨fun h i hi => ?_, fun h _ i hi => ?_⟩
      · rcases h with h | h
        · rw [endA_f (ec.trans h)]; exact same i hi
        · omega
      · rw [endA_t (ec.trans h), end_f hk hi]
        by_cases q2 : 1 ≤ i ∧ i ≤ 4
        · rcases (by omega : i = 1 ∨ i = 2 ∨ i = 3 ∨ i = 4) with rfl | rfl | rfl | rfl
          · rw [endU_1, endU_1, same 2 (by decide)]
          · rw [endU_2, endU_2]
          · rw [endU_3, endU_3]
          · rw [endU_4, endU_4]
        · rw [endU_o hi (fun z => q2 z.2), endU_o hi (fun z => q2 z.2)]; exact same i hi
    · refine ⟨fun h i hi => ?_, fun h h2 i hi => ?_⟩
      · rw [oth q i hi]; exact i1 (h.imp id (fun z => by omega)) i hi
      · rw [oth q i hi]; exact i2 h (by omega) i hi
/-- members are not touched by a stop, by the next wave, by soaking -/
theorem mf_stop {m i : Nat} (hm : m < 12) (hi : i < 7) : mf (stopS s) m i = mf s m i := by
  unfold stopS
  rw [mf_ev hm hi, mf_up (by decide), mf_up (by decide)]
theorem mf_soak {m i : Nat} (hm : m < 12) (hi : i < 7) : mf (soakS s) m i = mf s m i := by
  unfold soakS
  rw [mf_ev hm hi, mf_up (by decide), mf_up (by decide)]
theorem mf_next {m i : Nat} (hm : m < 12) (hi : i < 7) : mf (nextS s) m i = mf s m i := by
  have hu : mf (nextU s) m i = mf s m i := by unfold nextU; rw [mf_up (by decide), mf_up (by decide)]
  unfold nextS
  split
  · exact hu
  · split
    · unfold doneS
      rw [mf_ev hm hi, mf_up (by decide), mf_up (by decide)]; exact hu
    · rw [mf_up (by decide), mf_up (by decide)]; exact hu
theorem mf_rol {m i : Nat} (hm : m < 12) (hi : i < 7) (h23 : i ≠ 2 ∧ i ≠ 3) : ∀ n, mf (rolA n s) m i = mf s m i
  | 0 => rfl
  | n + 1 => by
    have ih := mf_rol hm hi h23 n
    cases q : rolC (rolA n s) n
    · rw [(rolA_f q).1]; exact ih
    · rw [(rolA_t q).1, beg_o hm hi (by omega)]; exact ih
theorem mf_rold {m : Nat} (hm : m < 12) (hd : isD s m = true) : ∀ n i, i < 7 → mf (rolA n s) m i = mf s m i
  | 0, _, _ => rfl
  | n + 1, i, hi => by
    have ih := mf_rold hm hd n
    cases q : rolC (rolA n s) n
    · rw [(rolA_f q).1]; exact ih i hi
    · rw [(rolA_t q).1]
      have hne : m ≠ n := fun e => by
        subst e
        unfold rolC at q
        rw [isD_of (ih 2 (by decide)), hd] at q
        simp at q
      rw [beg_o hm hi (fun z => hne z.1)]; exact ih i hi
theorem mf_min2 {m i : Nat} (hm : m < 12) (hi : i < 7) : mf (min2 s) m i = mf (min1 s) m i := by
  unfold min2
  split
  · exact mf_stop hm hi
  · rfl
theorem mf_min3 {m i : Nat} (hm : m < 12) (hi : i < 7) : mf (min3 s) m i = mf (min1 s) m i := by
  unfold min3
  split
  · rw [mf_next hm hi, mf_min2 hm hi]
  · exact mf_min2 hm hi
theorem mf_min {m i : Nat} (hm : m < 12) (hi : i < 7) (h : (i ≠ 2 ∧ i ≠ 3) ∨ isD (min1 s) m = true) : mf (minS s) m i = mf (min1 s) m i := by
  rw [← mf_min3 hm hi]
  have h3 : isD (min1 s) m = true → isD (min3 s) m = true := fun e => by rw [isD_of (mf_min3 hm (by decide))]; exact e
  have r : mf (rolA (nn (min3 s 2)) (min3 s)) m i = mf (min3 s) m i := by
    rcases h with h | h
    · exact mf_rol hm hi h _
    · exact mf_rold hm (h3 h) _ i hi
  unfold minS
  split
  · unfold rolS
    split
    · rw [mf_soak hm hi]; exact r
    · exact r
  · rfl
/-- a minute of one who is down -/
theorem min_down (R : Rk C E s) (hk : k < nn (s 2)) (hd : isD s k = true) (hu : ¬ mf s k 3 ≤ s 11 + nI 1) : ∀ i, i < 7 → mf (minS s) k i = mf s k i := by
  have hm := R.m.2
  have e2 : (ups s 11 (s 11 + nI 1)) 2 = s 2 := ups_n (by decide)
  have em : ∀ i, mf (ups s 11 (s 11 + nI 1)) k i = mf s k i := fun i => mf_up (by decide)
  have ec : endC (ups s 11 (s 11 + nI 1)) k = false := by
    unfold endC
    rw [em 3, show (ups s 11 (s 11 + nI 1)) 11 = s 11 + nI 1 from ups_s, decide_eq_false hu, Bool.and_false]
  have h1 : ∀ i, i < 7 → mf (min1 s) k i = mf s k i := fun i hi => ((endA_on (u := ups s 11 (s 11 + nI 1)) (by rw [e2]; exact hm) (show k < 12 by omega) (nn (s 2)) hm).1 (Or.inl ec) i hi).trans (em i)
  intro i hi
  rw [mf_min (by omega) hi (Or.inr (by rw [isD_of (h1 2 (by decide))]; exact hd))]
  exact h1 i hi
/-- the minute at which it ends -/
theorem min_end (R : Rk C E s) (hk : k < nn (s 2)) (hd : isD s k = true) (hu : mf s k 3 ≤ s 11 + nI 1) : mf (minS s) k 1 = mf s k 2 ∧ mf (minS s) k 4 = nI 0 := by
  have hm := R.m.2
  have e2 : (ups s 11 (s 11 + nI 1)) 2 = s 2 := ups_n (by decide)
  have em : ∀ i, mf (ups s 11 (s 11 + nI 1)) k i = mf s k i := fun i => mf_up (by decide)
  have ec : endC (ups s 11 (s 11 + nI 1)) k = true := by
    unfold endC
    rw [em 3, show (ups s 11 (s 11 + nI 1)) 11 = s 11 + nI 1 from ups_s, decide_eq_true hu, isD_of (em 2), hd]; rfl
  have h1 := (endA_on (u := ups s 11 (s 11 + nI 1)) (by rw [e2]; exact hm) (show k < 12 by omega) (nn (s 2)) hm).2 ec hk
  refine ⟨?_, ?_⟩
  · rw [mf_min (by omega) (by decide) (Or.inl (by decide))]
    exact (h1 1 (by decide)).trans (endU_1.trans (em 2))
  · rw [mf_min (by omega) (by decide) (Or.inl (by decide))]
    exact (h1 4 (by decide)).trans endU_4
theorem it_down (R : Rk C E s) (hC : C + 999 < 2 ^ 29) (hE : E + 30 * 999 < 2 ^ 31) (hk : k < nn (s 2)) (hd : isD s k = true) {n : Nat} (hn : n < 999) (hu : mf s k 3 = nI (nn (s 11) + n + 1)) : ∀ j, j ≤ n → ∀ i, i < 7 → mf (itS j s) k i = mf s k i
  | 0, _, _, _ => rfl
  | j + 1, hj, i, hi => by
    have ih := it_down R hC hE hk hd hn hu j (by omega)
    have Rj := R.it j (by omega) (by omega)
    have hck := R.ck.2
    show mf (minS (itS j s)) k i = _
    rw [min_down Rj (by rw [(it_ag j).n2]; exact hk) (by rw [isD_of (ih 2 (by decide))]; exact hd) ?_ i hi]
    · exact ih i hi
    · rw [ih 3 (by decide), hu, it_11 R, nI_add]
      exact nI_ge (by omega) (by omega)
theorem it_end (R : Rk C E s) (hC : C + 999 < 2 ^ 29) (hE : E + 30 * 999 < 2 ^ 31) (hk : k < nn (s 2)) (hd : isD s k = true) {n : Nat} (hn : n < 999) (hu : mf s k 3 = nI (nn (s 11) + n + 1)) : mf (itS (n + 1) s) k 1 = mf s k 2 ∧ mf (itS (n + 1) s) k 4 = nI 0 := by
  have ih := it_down R hC hE hk hd hn hu n (Nat.le_refl n)
  have Rj := R.it n (by omega) (by omega)
  have hck := R.ck.2
  have := min_end Rj (by rw [(it_ag n).n2]; exact hk) (by rw [isD_of (ih 2 (by decide))]; exact hd) (by
    rw [ih 3 (by decide), hu, it_11 R, nI_add]
    exact nI_le (by omega) (by omega))
  rw [ih 2 (by decide)] at this
  exact this
/-- the newest event -/
theorem ev_new {a b c : Int32} (R : isN (s 19) E) (hE : E + 1 < 2 ^ 31) (ht : eqR (evS s a b c) t) : 0 < kEv t ∧ evtV t 0 1 = a ∧ evtV t 0 3 = c := by
  have e19 := isN_19 (t := evS s a b c) R hE evS_19
  have t19 : nn (t 19) = nn (s 19) + 1 := by rw [ht 19 (by decide)]; exact e19.2
  have hin := evS_in (s := s) (k := a) (m := b) (n := c)
  have hx : evM (nn (t 19)) 0 = 133 + 4 * (nn (s 19) % 30) := by unfold evM; rw [t19]; rfl
  have hlt : nn (s 19) % 30 < 30 := Nat.mod_lt _ (by decide)
  refine ⟨?_, ?_, ?_⟩
  · unfold kEv; rw [t19]; split <;> omega
  · unfold evtV
    rw [hx, ht _ (by omega)]; exact hin.2.1
  · unfold evtV
    rw [hx, ht _ (by omega)]; exact hin.2.2.2
end
