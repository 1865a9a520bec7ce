/-! ===== the law's loop: from its head every run comes to its end with true ===== -/
section
variable {z : FI} {n : Nat}
theorem L_ex {k : Nat} (hn : n ≤ 3072) (hk : 6 * k ≤ n) : (nI n - nI 6 < nI (6 * k)) ↔ n < 6 * k + 6 := by
  by_cases h6 : 6 ≤ n
  · have e : nI n - nI 6 = nI (n - 6) := by
      have a := nI_add (n - 6) 6
      rw [Nat.sub_add_cancel h6] at a
      rw [← a, Int32.add_sub_cancel]
    rw [e, nI_ltI (by omega) (by omega)]
    omega
  · have : k = 0 := by omega
    subst this
    have h0 : ∀ m, m < 6 → (nI m - nI 6 < nI (6 * 0)) := by decide
    exact ⟨fun _ => by omega, fun _ => h0 n (by omega)⟩
theorem L_loop (hz : z 0 0 = nI n) (hn : n ≤ 3072) : ∀ (m k : Nat), n < 6 * (k + m) + 6 → 6 * k ≤ n → ∀ (h : PH) (c : Nat) (o6 o7 o8 : Option Value), c ≤ 90000 + 3 * k → Inv z (39960 * k) (1198800 * k) h → At m_L_law QL 28 c (LLs (nI (6 * k)) o6 o7 o8) [] h := by
  intro m
  induction m with
  | zero =>
    intro k hm hk h c o6 o7 o8 hc I
    have e0 : gi h 998 0 = nI n := (congrFun I.iz.1 0).trans hz
    refine u_L_law_28 ⟨fun _ => ⟨Or.inr rfl, rfl⟩, fun y => absurd ?_ y⟩
    rw [e0]
    exact (L_ex hn hk).mpr (by omega)
  | succ m ih =>
    intro k hm hk h c o6 o7 o8 hc I
    have e0 : gi h 998 0 = nI n := (congrFun I.iz.1 0).trans hz
    refine u_L_law_28 ⟨fun _ => ⟨Or.inr rfl, rfl⟩, fun y => ?_⟩
    rw [e0] at y
    have y2 : 6 * k + 6 ≤ n := by
      rcases Nat.lt_or_ge n (6 * k + 6) with q | q
      · exact absurd ((L_ex hn hk).mpr q) y
      · exact q
    have B : LB z (39960 * k) (1198800 * k) c (6 * k) n := ⟨y2, hn, hz, by omega, by omega, by omega⟩
    have G : GO z (39960 * k) (1198800 * k) c (6 * k) := by
      intro h' c' o6 o7 o8 hc' I'
      refine u_L_law_2658 ?_
      rw [nI_add]
      exact ih (k + 1) (by omega) (by omega) h' c' o6 o7 o8 (by omega) (I'.mono (by omega) (by omega))
    refine ⟨?_, fun _ => G.go (by omega) I (by omega) (by omega), fun _ => L_260 I B G, fun _ => L_364 I B G, fun _ => L_420 I B G, fun _ => L_464 I B G, fun _ => L_508 I B G, fun _ => L_521 I B G, fun _ => L_534 I B G, fun _ => L_590 I B G, fun _ => L_665 I B G, fun _ => L_721 I B G, fun _ => L_777 I B G, fun _ => L_845 I B G, fun _ => L_913 I B G, fun _ => L_981 I B G, fun _ => L_1037 I B G, fun _ => L_1093 I B G, fun _ => L_1149 I B G, fun _ => L_1162 I B G, fun _ => L_1230 I B G, fun _ => L_1286 I B G, fun _ => L_1354 I B G, fun _ => L_1367 I B G, fun _ => L_1423 I B G, fun _ => L_1436 I B G, fun _ => L_1449 I B G, fun _ => L_1505 I B G, fun _ => L_1583 I B G, fun _ => L_1624 I B G, fun _ => L_1680 I B G, fun _ => L_1693 I B G, fun _ => L_1706 I B G, fun _ => L_1762 I B G, fun _ => L_1818 I B G, fun _ => L_1831 I B G, fun _ => L_1887 I B G, fun _ => L_1962 I B G, fun _ => L_1975 I B G, fun _ => L_2043 I B G, fun _ => L_2099 I B G, fun _ => L_2155 I B G, fun _ => L_2199 I B G, fun _ => L_2243 I B G, fun _ => L_2327 I B G, fun _ => L_2395 I B G, fun _ => L_2463 I B G, fun _ => L_2519 I B G, fun _ => L_2532 I B G, fun _ => L_2588 I B G, fun _ => L_2601 I B G, fun _ => L_2614 I B G, trivial⟩
    rw [e0, nI_clamp (by omega)]
    exact vp_in_nI (by omega) (by omega)
theorem L_all (hz : z 0 0 = nI n) (hn : n ≤ 3072) {h : PH} {c : Nat} (hc : c ≤ 90000) (I : Inv z 0 0 h) {o6 o7 o8 : Option Value} : At m_L_law QL 28 c (LLs (nI 0) o6 o7 o8) [] h := L_loop hz hn n 0 (by omega) (by omega) h c o6 o7 o8 (by omega) I
end
