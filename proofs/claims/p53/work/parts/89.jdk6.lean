/-! ===== the law's builders of text: numbers, the text itself ===== -/
/-- a number below 100 in digits -/
def dec (n : Nat) : List Nat := if n < 10 then [48 + n] else [48 + n / 10, 48 + n % 10]
theorem dec_len {n : Nat} : (dec n).length = if n < 10 then 1 else 2 := by unfold dec; split <;> rfl
theorem dec_lt {n : Nat} (h : n < 100) : ∀ c ∈ dec n, c < 128 := by
  intro c hc
  unfold dec at hc
  split at hc
  · simp at hc; omega
  · simp at hc; omega
theorem ngI (n : Nat) : -(nI n) = -(nI n) := rfl
theorem ng_le {a b : Nat} (ha : a < 2 ^ 30) (hb : b < 2 ^ 30) : (-(nI a) ≤ -(nI b)) ↔ b ≤ a := by
  rw [Int32.le_iff_toInt_le, Int32.toInt_neg, Int32.toInt_neg, qI_toInt (by omega), qI_toInt (by omega), qI_bm (by omega) (by omega), qI_bm (by omega) (by omega)]
  omega
theorem ng_lt {a b : Nat} (ha : a < 2 ^ 30) (hb : b < 2 ^ 30) : (-(nI a) < -(nI b)) ↔ b < a := by
  rw [Int32.lt_iff_toInt_lt, Int32.toInt_neg, Int32.toInt_neg, qI_toInt (by omega), qI_toInt (by omega), qI_bm (by omega) (by omega), qI_bm (by omega) (by omega)]
  omega
section
variable {h h1 h' : PH} {S T : List Nat} {t v v' s w b q n m K N : Nat} {bs cs : List Nat} {Q : Res → PH → Prop} {x y : Int32}
theorem c_ssize (hn : n < 100) (k : Q (.inl (some (.int (nI (dec n).length)))) h) : MetQ mq_J6_stringSize_0f7a4 [.int (nI n)] h Q := by
  refine tq_J6_stringSize_0f7a4 ⟨fun z => absurd z (nI_pos (by omega)), fun _ => ?_⟩
  refine sq_J6_stringSize_0f7a4_16 ⟨fun z => absurd z (nI_ge (by decide) (by decide)), fun _ => ⟨fun z => ?_, fun z => ?_⟩⟩
  · have z := (ng_le (by omega) (by decide)).mp z
    refine sq_J6_stringSize_0f7a4_16 ⟨fun z => absurd z (by decide), fun _ => ⟨fun z => ?_, fun z => ?_⟩⟩
    · have e : (nI 10 * -(nI 10)) = -(nI 100) := by decide
      rw [e] at z
      have z := (ng_le (by omega) (by decide)).mp z
      omega
    · rw [dec_len, if_neg (by omega)] at k
      exact k
  · rw [dec_len, if_pos (by
      rcases Nat.lt_or_ge n 10 with w | w
      · exact w
      · exact absurd ((ng_le (by omega) (by decide)).mpr w) z)] at k
    exact k
theorem c_gchars (hn : n < 100) (hc : Kc h) (hv : qkd h v = 17) (h2 : 2000 ≤ v) (hr : m + (dec n).length ≤ qln h v) (hm : m ≤ 600) (hmx : qln h v ≤ 1202)
    (k : ∀ h' x, qkd h' v = 17 → qln h' v = qln h v → (∀ i, gi h' v i = if m ≤ i ∧ i < m + (dec n).length then nI ((dec n).getD (i - m) 0) else gi h v i) → FmQ [v] h h' → Lw h h' → Q (.inl (some (.int x))) h') : MetQ mq_J6_getChars_ba4f3 [.int (nI n), .int (nI (m + (dec n).length)), .ref v] h Q := by
  obtain ⟨-, ⟨d1, d2, d3⟩, ⟨t1, t2, t3⟩, -⟩ := hc
  have en : (nI n).toNatClampNeg = n := nI_clamp (by omega)
  have enn : -(-(nI n)) = nI n := by rw [Int32.neg_neg]
  have em1 : ∀ a : Nat, nI (a + 1) + -(nI 1) = nI a := fun a => by
    rw [← nI_add, Int32.add_assoc, Int32.add_right_neg]
    exact Int32.add_zero _
  have h1400 : v ≠ 1400 := by omega
  have h1401 : v ≠ 1401 := by omega
  have o1 : gi h 1400 n = nI (48 + n % 10) := d3 n hn
  have o2 : gi h 1401 n = nI (48 + n / 10) := t3 n hn
  refine tq_J6_getChars_ba4f3 ⟨fun _ => ⟨fun z => absurd rfl z, fun _ => ?_⟩, fun z => absurd (nI_pos' (by omega)) z⟩
  refine sq_J6_getChars_ba4f3_22 ⟨fun _ => ?_, fun z => absurd ((ng_lt (by decide) (by omega)).mpr hn) z⟩
  rw [enn, d2, en]
  by_cases h10 : n < 10
  · have el : (dec n).length = 1 := by rw [dec_len, if_pos h10]
    have ed : dec n = [48 + n] := by unfold dec; rw [if_pos h10]
    rw [el, em1]
    have eM : (nI m).toNatClampNeg = m := nI_clamp (by omega)
    rw [el] at hr
    refine ⟨Or.inr d1, vp_in_nI hn (by decide), hv, vp_in_nI (show m < qln h v by omega) (by omega), fun _ => ⟨fun _ => ?_, fun z => absurd rfl z⟩, fun z => absurd ((ng_le (by decide) (by omega)).mpr (by omega)) z⟩
    rw [eM, o1, nb8 _ (by omega)]
    refine k _ _ hv rfl (fun i => ?_) FmQ.si ((Oth.si h v m _).lw h2)
    by_cases z : i = m
    · subst z
      rw [qsi_s, if_pos ⟨Nat.le_refl _, by omega⟩, Nat.sub_self, ed]
      exact congrArg nI (by show 48 + n % 10 = 48 + n; omega)
    · rw [qsi_k z, if_neg (by omega)]
  · have el : (dec n).length = 2 := by rw [dec_len, if_neg h10]
    have ed : dec n = [48 + n / 10, 48 + n % 10] := by unfold dec; rw [if_neg h10]
    rw [el] at hr
    rw [el, show m + 2 = (m + 1) + 1 from rfl, em1, em1]
    have eM : (nI m).toNatClampNeg = m := nI_clamp (by omega)
    have eM1 : (nI (m + 1)).toNatClampNeg = m + 1 := nI_clamp (by omega)
    refine ⟨Or.inr d1, vp_in_nI hn (by decide), hv, vp_in_nI (show m + 1 < qln h v by omega) (by omega), fun z => absurd ((ng_le (by decide) (by omega)).mp z) (by omega), fun _ => ?_⟩
    rw [eM1, o1, nb8 _ (by omega)]
    refine ⟨Or.inr t1, ?_, ?_⟩
    · show vp_in (nI n) (qln h 1401)
      rw [t2]; exact vp_in_nI hn (by decide)
    · show _ ∧ _
      refine ⟨hv, vp_in_nI (show m < qln h v by omega) (show qln h v < 2 ^ 31 by omega), fun _ => ?_, fun z => absurd rfl z⟩
      rw [qsi_a (Ne.symm h1401), o2, nb8 _ (by omega), eM]
      refine k _ _ hv rfl (fun i => ?_) ((FmQ.si (a := v)).trans (FmQ.si (a := v)) (fun n hn _ => hn)) (((Oth.si h v (m + 1) _).lw h2).trans ((Oth.si _ v m _).lw h2))
      by_cases z : i = m
      · subst z
        rw [qsi_s, if_pos ⟨Nat.le_refl _, by omega⟩, Nat.sub_self, ed]
        rfl
      · rw [qsi_k z]
        by_cases z2 : i = m + 1
        · subst z2
          rw [qsi_s, if_pos ⟨by omega, by omega⟩, show m + 1 - m = 1 by omega, ed]
          rfl
        · rw [qsi_k z2, if_neg (by omega)]
theorem c_appI (B : SbQ h t v bs) (hc : Kc h) (hn : n < 100) (hlen : bs.length + (dec n).length ≤ 600) (h2 : 2000 ≤ t) (h2v : 2000 ≤ v) (k : ApQ t v bs (dec n) h Q) : MetQ mq_J4_append_bf812 [.ref t, .int (nI n)] h Q := by
  refine tq_J4_append_bf812 ⟨B.rc, Nat.le_refl _, tq_J5_append_c97b9 ⟨B.kt, c_ssize hn (fun _ => ⟨B.rc, Nat.le_refl _, ?_⟩)⟩⟩
  rw [B.ct, nI_add]
  refine c_room B hlen h2 (fun h1 v1 B1 hr f hlw hv1 _ => ⟨B1.rc, c_sbL1 B1 (fun _ => ⟨fun z => absurd z (by decide), fun _ => ⟨B1.kt, g3 B1.va ?_⟩⟩)⟩)
  have h2v1 : 2000 ≤ v1 := by
    rcases hv1 with z | z
    · rw [z]; exact h2v
    · exact z.2
  refine c_gchars hn (hc.md hlw.md) B1.kv h2v1 hr (by omega) B1.mx (fun h9 x9 a1 a2 a3 f9 hlw9 _ => ?_)
  have kt9 : qkd h9 t = 4 := (f9.kd B1.tz).trans B1.kt
  have ht9 : t ∉ [v1] := fun z => B1.tv (List.mem_singleton.mp z)
  refine ⟨kt9, fun _ => ?_⟩
  refine k _ v1 (B1.more hlen hr (dec_lt hn) kt9 ((f9.r B1.tz ht9).trans B1.va) ?_ qsi_s a1 a2 (fun i => ?_)) ?_ ((hlw.trans hlw9).trans ((Oth.si _ t 3 _).lw h2)) hv1
  · rw [qsi_k (by decide)]; exact (f9.i B1.tz ht9).trans B1.co
  · rw [qsi_a (Ne.symm B1.tv)]; exact a3 i
  · refine ((f.mono (fun n hn _ => by rw [List.mem_singleton.mp hn]; exact List.mem_cons_self)).trans f9 (fun n hn hz => ?_)).trans (FmQ.si (a := t)) (fun n hn _ => by rw [List.mem_singleton.mp hn]; exact List.mem_cons_self)
    rw [List.mem_singleton.mp hn] at hz ⊢
    rcases hv1 with z | z
    · rw [z]; simp
    · exact absurd z.1 hz
end
