/-! ===== the classes, the arrays' classes at the start ===== -/
section
variable {args : Array Value} {s : State}
theorem D_start (hts : ∀ w ∈ lw_tbl, w.before args s = true) : ∃ D : va_G, ∀ (c : Nat) (q : vw_C), pmCl[c]? = some q → u_Kn s q.1 q.2.1 q.2.2 (D.1 c) (D.2 c) := by
  have one : ∀ (C : String) (T : u_T) (N : Nat), (∀ w ∈ u_ws C T N, w ∈ tbG) → Cond.instantiable C N ∈ lw_tbl → ∃ q : ClassId × (Nat → Nat), u_Kn s C T N q.1 q.2 := fun C T N h1 h2 => by
    obtain ⟨cC, iS, h⟩ := u_known (ws := tbG) (fun w hw => hts w (List.mem_filter.mp hw).1) h1 (hts _ h2)
    exact ⟨(cC, iS), h⟩
  have all : ∀ c : Nat, ∃ q : ClassId × (Nat → Nat), ∀ r : vw_C, pmCl[c]? = some r → u_Kn s r.1 r.2.1 r.2.2 q.1 q.2 := by
    intro c
    match c with
    | 0 => obtain ⟨q, h⟩ := one RX1 TX1 4 uin_1 (by decide +kernel); exact ⟨q, fun r hr => by cases hr; exact h⟩
    | 1 => obtain ⟨q, h⟩ := one RX3 TX3 3 uin_3 (by decide +kernel); exact ⟨q, fun r hr => by cases hr; exact h⟩
    | 2 => obtain ⟨q, h⟩ := one RX4 TX4 3 uin_4 (by decide +kernel); exact ⟨q, fun r hr => by cases hr; exact h⟩
    | 3 => obtain ⟨q, h⟩ := one RX5 TX5 18 uin_5 (by decide +kernel); exact ⟨q, fun r hr => by cases hr; exact h⟩
    | 4 => obtain ⟨q, h⟩ := one RX6 TX6 2 uin_6 (by decide +kernel); exact ⟨q, fun r hr => by cases hr; exact h⟩
    | 5 => obtain ⟨q, h⟩ := one RX7 TX7 10 uin_7 (by decide +kernel); exact ⟨q, fun r hr => by cases hr; exact h⟩
    | 6 => obtain ⟨q, h⟩ := one RX8 TX8 16 uin_8 (by decide +kernel); exact ⟨q, fun r hr => by cases hr; exact h⟩
    | 7 => obtain ⟨q, h⟩ := one RX10 TX10 9 uin_10 (by decide +kernel); exact ⟨q, fun r hr => by cases hr; exact h⟩
    | 8 => obtain ⟨q, h⟩ := one RX11 TX11 11 uin_11 (by decide +kernel); exact ⟨q, fun r hr => by cases hr; exact h⟩
    | 9 => obtain ⟨q, h⟩ := one RX12 TX12 6 uin_X12 (by decide +kernel); exact ⟨q, fun r hr => by cases hr; exact h⟩
    | 10 => obtain ⟨q, h⟩ := one RX13 TX13 28 uin_X13 (by decide +kernel); exact ⟨q, fun r hr => by cases hr; exact h⟩
    | 11 => obtain ⟨q, h⟩ := one RJ0 TJ0 4 uin_J0 (by decide +kernel); exact ⟨q, fun r hr => by cases hr; exact h⟩
    | 12 => obtain ⟨q, h⟩ := one RJ4 TJ4 4 uin_J4 (by decide +kernel); exact ⟨q, fun r hr => by cases hr; exact h⟩
    | 13 => obtain ⟨q, h⟩ := one RJx4a65c TJx4a65c 3 uin_Jx4a65c (by decide +kernel); exact ⟨q, fun r hr => by cases hr; exact h⟩
    | 14 => obtain ⟨q, h⟩ := one RJx35411 TJx35411 4 uin_Jx35411 (by decide +kernel); exact ⟨q, fun r hr => by cases hr; exact h⟩
    | k + 15 =>
      obtain ⟨q, h⟩ := one RX12 TX12 6 uin_X12 (by decide +kernel)
      exact ⟨q, fun r hr => by cases hr⟩
  obtain ⟨F, hF⟩ := Classical.axiomOfChoice all
  exact ⟨(fun c => (F c).1, fun c => (F c).2), fun c q h => hF c q h⟩
def tyQ (t : Nat) : FieldType := match t with
  | 0 => .int
  | 1 => .byte
  | 2 => .long
  | 3 => .long
  | 4 => .object RX8
  | 5 => .object "WaveUpgrade$Command"
  | 6 => .boolean
  | 7 => .object "java/lang/Object"
  | _ => .array .boolean
theorem cA_start (hts : ∀ w ∈ lw_tbl, w.before args s = true) : ∃ cA : Nat → ClassId, ∀ (k : Nat) (q : ClassId × FieldType), (pmTy cA)[k]? = some q → ArrOfT s q.1 q.2 ∧ va_RA s q.1 q.2 := by
  have pr : ∀ ty : FieldType, (∀ C, ty ≠ .object C) → (∀ C, ty ≠ .array C) → Cond.arrayClass ty ∈ lw_tbl → ∃ c : ClassId, ArrOfT s c ty ∧ va_RA s c ty := fun ty hC hA hw => by
    obtain ⟨c, k, comp, h1, h2, h3⟩ := Cond.arrayClass_spec (hts _ hw)
    refine ⟨c, fun n z => ⟨fun k h => (by cases h), k, h2, comp, h3⟩, ?_⟩
    cases ty with
    | object C => exact absurd rfl (hC C)
    | array C => exact absurd rfl (hA C)
    | _ => exact h1
  have rf : ∀ C : String, Cond.arrayOver (.object C) ∈ lw_tbl → ∃ c : ClassId, ArrOfT s c (.object C) ∧ va_RA s c (.object C) := fun C hw => by
    obtain ⟨comp, c, k, h1, -, h3, h4, h5⟩ := Cond.arrayOver_spec (hts _ hw)
    exact ⟨c, fun n z => ⟨fun k h => (by cases h), k, h3, comp, h4⟩, k, comp, h3, h4, h1, h5⟩
  have ra : Cond.arrayOver (.array .boolean) ∈ lw_tbl → ∃ c : ClassId, ArrOfT s c (.array .boolean) ∧ va_RA s c (.array .boolean) := fun hw => by
    obtain ⟨comp, c, k, h1, -, h3, h4, h5⟩ := mg_ov_of (hts _ hw)
    exact ⟨c, fun n z => ⟨fun k h => (by cases h), k, h3, comp, h4⟩, h5⟩
  have all : ∀ t : Nat, ∃ c : ClassId, t < 9 → ArrOfT s c (tyQ t) ∧ va_RA s c (tyQ t) := by
    intro t
    match t with
    | 0 => obtain ⟨c, h⟩ := pr .int (fun C h => by cases h) (fun C h => by cases h) (by decide +kernel); exact ⟨c, fun _ => h⟩
    | 1 => obtain ⟨c, h⟩ := pr .byte (fun C h => by cases h) (fun C h => by cases h) (by decide +kernel); exact ⟨c, fun _ => h⟩
    | 2 => obtain ⟨c, h⟩ := pr .long (fun C h => by cases h) (fun C h => by cases h) (by decide +kernel); exact ⟨c, fun _ => h⟩
    | 3 => obtain ⟨c, h⟩ := pr .long (fun C h => by cases h) (fun C h => by cases h) (by decide +kernel); exact ⟨c, fun _ => h⟩
    | 4 => obtain ⟨c, h⟩ := rf RX8 (by decide +kernel); exact ⟨c, fun _ => h⟩
    | 5 => obtain ⟨c, h⟩ := rf "WaveUpgrade$Command" (by decide +kernel); exact ⟨c, fun _ => h⟩
    | 6 => obtain ⟨c, h⟩ := pr .boolean (fun C h => by cases h) (fun C h => by cases h) (by decide +kernel); exact ⟨c, fun _ => h⟩
    | 7 => obtain ⟨c, h⟩ := rf "java/lang/Object" (by decide +kernel); exact ⟨c, fun _ => h⟩
    | 8 => obtain ⟨c, h⟩ := ra (by decide +kernel); exact ⟨c, fun _ => h⟩
    | t + 9 =>
      obtain ⟨c, h⟩ := pr .int (fun C h => by cases h) (fun C h => by cases h) (by decide +kernel)
      exact ⟨c, fun h => by omega⟩
  obtain ⟨cA, hcA⟩ := Classical.axiomOfChoice all
  refine ⟨cA, fun k q hq => ?_⟩
  match k, hq with
  | 0, hq => cases hq; exact hcA 0 (by omega)
  | 1, hq => cases hq; exact hcA 1 (by omega)
  | 2, hq => cases hq; exact hcA 2 (by omega)
  | 3, hq => cases hq; exact hcA 3 (by omega)
  | 4, hq => cases hq; exact hcA 4 (by omega)
  | 5, hq => cases hq; exact hcA 5 (by omega)
  | 6, hq => cases hq; exact hcA 6 (by omega)
  | 7, hq => cases hq; exact hcA 7 (by omega)
  | 8, hq => cases hq; exact hcA 8 (by omega)
  | k + 9, hq => cases hq
theorem XW_tbl : XW.all (fun w => decide (w ∈ lw_tbl)) = true := by decide +kernel
theorem BN_tbl : BN.all (fun w => decide (w ∈ lw_tbl)) = true := by decide +kernel
theorem xw_start (hts : ∀ w ∈ lw_tbl, w.before args s = true) (hn : ∀ w ∈ nAt, w.before args s = true) {ad : Nat → Nat} (had : ∀ a, 1000 ≤ a → a < 1500 → ad a = adC args s a) : xwOk ad s := by
  refine ⟨fun w hw => va_Nw.of (List.all_eq_true.mp XW_on w hw) (hts w (of_decide_eq_true (List.all_eq_true.mp XW_tbl w hw))), ?_⟩
  have h1 : (Cond.stringRef RX1 165 "held").before args s = true := hts _ (by decide +kernel)
  have h2 : (tmC 1084).eval args s none [] s = some (.ref (ad 1084)) := by
    rw [had 1084 (by omega) (by omega)]
    exact ev_ob hn (obs_of (ci := 22) (Or.inr (Or.inr ⟨rfl, Or.inr (Or.inr rfl)⟩)))
  exact vk_R.of h1 h2
theorem bv_start (hts : ∀ w ∈ lw_tbl, w.before args s = true) : bVm s := by
  refine ⟨va_AO.of (A := args) (hts _ (by decide +kernel)), va_AO.of (A := args) (hts _ (by decide +kernel)), fun w hw => va_Nw.of (A := args) ?_ (hts w (of_decide_eq_true (List.all_eq_true.mp BN_tbl w hw)))⟩
  simp only [BN, List.mem_cons, List.not_mem_nil, or_false] at hw
  rcases hw with rfl | rfl | rfl <;> rfl
end
