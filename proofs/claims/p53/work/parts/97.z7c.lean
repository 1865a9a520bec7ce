/-! ===== what a walk of the law knows of its start ===== -/
theorem sQi_tbl : sQi.all (fun q => decide (Cond.stringRef "WaveUpgradeLaw$World" q.1 q.2 ∈ lw_tbl)) = true := by decide +kernel
theorem FQ_tbl : FQ.all (fun q => decide (Cond.declares q.2.1 ∈ lw_tbl) && (decide (Cond.interfaceMethod q.2.1.cls q.2.1.cls q.2.1.name q.2.1.desc ∈ lw_tbl) && (decide (Cond.publicMethod q.2.2 ∈ lw_tbl) && (decide (Cond.unhidden q.1 q.2.1.name q.2.1.desc ∈ lw_tbl) && decide (Cond.castable q.1 q.2.1.cls ∈ lw_tbl))))) = true := by decide +kernel
section
variable {args : Array Value} {s : State} {A : Nat → Prop} {ad : Nat → Nat} {xs : Nat → Int32} {L b n i : Nat}
theorem sel_sb (hts : ∀ w ∈ lw_tbl, w.before args s = true) {c : ClassId} (hc : s.vm.findClass "java/lang/StringBuilder" = some c) {y : MethodName} (h1 : y.cls = "java/lang/AbstractStringBuilder") (h2 : Cond.privateMethod y ∈ lw_tbl) (h3 : Cond.instanceMethod y ∈ lw_tbl) : va_Nw (.selects "java/lang/StringBuilder" y y) s :=
  va_Nw.of (A := args) rfl (sel_priv (z := ⟨"java/lang/AbstractStringBuilder", "isLatin1", "()Z"⟩) hc (hts _ (by decide +kernel)) h1.symm (Cond.privateMethod_at (hts _ h2)) (hts _ h3) (by rw [h1]; exact ⟨by decide +kernel, by decide +kernel⟩))
theorem CQ_start (hts : ∀ w ∈ lw_tbl, w.before args s = true) (hn : ∀ w ∈ nAt, w.before args s = true) (hA : ∀ a : Nat, a < s.heap.size → ¬ A a) (had : ∀ a, 1000 ≤ a → a < 1500 → ad a = adC args s a) (h2 : ∀ a, 2000 ≤ a → ad a = dq a) {D : va_G} {cA : Nat → ClassId} (hK : va_K D pmCl (pmTy cA) s) : CQ ad A s s.heap := by
  have cMem : ∃ c, s.vm.findClass RX12 = some c := ⟨_, (hK.1 9 (RX12, TX12, 6) rfl).2.1⟩
  have cSb : ∃ c, s.vm.findClass "java/lang/StringBuilder" = some c := ⟨_, (hK.1 12 ("java/lang/StringBuilder", TJ4, 4) rfl).2.1⟩
  refine ⟨h2, fun w hw => ?_, fun i q hq => ?_, fun q hq => ?_, fun q hq => ?_, ?_, ?_, ?_, ?_, ?_⟩
  · simp only [XQ, List.mem_cons, List.not_mem_nil, or_false] at hw
    obtain ⟨cm, hcm⟩ := cMem
    obtain ⟨cs, hcs⟩ := cSb
    rcases hw with rfl | rfl | rfl | rfl | rfl | rfl | rfl | rfl | rfl | rfl | rfl | rfl
    · exact va_Nw.of rfl (hts _ (by decide +kernel))
    · exact va_Nw.of rfl (hts _ (by decide +kernel))
    · exact va_Nw.of rfl (hts _ (by decide +kernel))
    · exact va_Nw.of rfl (hts _ (by decide +kernel))
    · show (Cond.castable RX12 RX12).before #[] s = true
      simp only [Cond.before, Cond.holds, Cond.value, hcm, va_asg]
      simp
    · exact va_Nw.of rfl (hts _ (by decide +kernel))
    · exact va_Nw.of rfl (hts _ (by decide +kernel))
    · exact va_Nw.of rfl (hts _ (by decide +kernel))
    · exact sel_sb hts hcs rfl (by decide +kernel) (by decide +kernel)
    · exact sel_sb hts hcs rfl (by decide +kernel) (by decide +kernel)
    · exact sel_sb hts hcs rfl (by decide +kernel) (by decide +kernel)
    · exact sel_sb hts hcs rfl (by decide +kernel) (by decide +kernel)
  · have hi : i < 20 := lt_of_get hq
    have h1 : Cond.stringRef "WaveUpgradeLaw$World" q.1 q.2 ∈ lw_tbl := of_decide_eq_true (List.all_eq_true.mp sQi_tbl q (List.mem_of_getElem? hq))
    have e := ev_st hn hi
    rw [tm_12 i hi, List.getD_eq_getElem?_getD, hq] at e
    rw [had _ (by omega) (by omega)]
    exact vk_R.of (hts _ h1) e
  · have h := List.all_eq_true.mp FQ_tbl q hq
    simp only [Bool.and_eq_true, decide_eq_true_eq] at h
    exact va_Fw.of (hts _ h.1) (hts _ h.2.1) (hts _ h.2.2.1) (hts _ h.2.2.2.1) (hts _ h.2.2.2.2)
  · simp only [gQ, List.mem_cons, List.not_mem_nil, or_false] at hq
    rcases hq with rfl | rfl | rfl
    · show va_Z _ _ _ (.ref (ad 1402)) _ _ _
      rw [had 1402 (by decide) (by decide)]
      exact va_Zof (hts _ (by decide +kernel)) (hts _ (by decide +kernel)) (ev_0 hn hA).1 hA
    · show va_Z _ _ _ (.ref (ad 1400)) _ _ _
      rw [had 1400 (by decide) (by decide)]
      exact va_Zof (hts _ (by decide +kernel)) (hts _ (by decide +kernel)) (ev_by hn hA (List.mem_append_right _ List.mem_cons_self)).1 hA
    · show va_Z _ _ _ (.ref (ad 1401)) _ _ _
      rw [had 1401 (by decide) (by decide)]
      exact va_Zof (hts _ (by decide +kernel)) (hts _ (by decide +kernel)) (ev_by hn hA (List.mem_append_right _ (List.mem_cons_of_mem _ List.mem_cons_self))).1 hA
  · exact va_Zof (hts _ (by decide +kernel)) (hts _ (by decide +kernel)) (va_eqi (hn _ (nAt_at (p := 21) (by decide +kernel)))) hA
  · obtain ⟨v, hv, -⟩ := Cond.isRef_spec (hn _ (nAt_at (p := 431) (w := .isRef (.mirror "[Ljava/lang/Object;")) (by decide +kernel)))
    obtain ⟨c, k, a, h1, h2, h3, h4⟩ := Term.mirror_spec hv
    rw [h4] at hv
    have e := adC_of (a := 1410) hv
    have e1 : some (Value.ref a) = some (.ref (adC args s 1410)) := hv.symm.trans e
    rw [had 1410 (by decide) (by decide), ← Value.ref.inj (Option.some.inj e1)]
    exact ⟨c, k, h1, h2, h3⟩
  · exact va_AO.of (A := args) (hts _ (by decide +kernel))
  · exact hts (Cond.arrayOver (.array .boolean)) (by decide +kernel)
  · have h := hn _ (nAt_at (p := 22) (w := .isRef (.static cPre cFmt cBiF)) (by decide +kernel))
    have hl : (Cond.laysStatic cPre cFmt cBiF).before args s = true := hts _ (by decide +kernel)
    have hi : (Cond.initialized cPre).before args s = true := hts _ (by decide +kernel)
    cases hv : (Term.static cPre cFmt cBiF).eval args s none [] s with
    | none => simp [Cond.before, Cond.holds, Cond.value, hv] at h
    | some w =>
      simp only [Cond.before, Cond.holds, Cond.value, hv] at h
      cases w with
      | null => exact Or.inl (va_Zof hl hi hv hA)
      | ref t =>
        refine Or.inr ?_
        rw [had 1090 (by omega) (by omega)]
        exact va_Zof hl hi (adC_of (a := 1090) hv) hA
      | _ => simp at h
end
