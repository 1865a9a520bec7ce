/-! ===== a method's contract out of its entry ===== -/
def exNames : List String := ["java/lang/RuntimeException", "java/lang/Exception"]
/-- the words of a throw: each good one at its place of the tables, the others among XW -/
def exL (X : String) : List Jvm.Cond := (Bundle.throwableAtoms ++ Bundle.chain0Atoms X exNames) ++ (Bundle.ownAtoms0 "" 0 X exNames).drop 40
def thW (X : String) (ps : List Nat) : Bool := Nat.beq (exL X).length ps.length && ((exL X).zip ps).all (fun q => !vx_no q.1 || atW q.2 q.1 || XW.elem q.1)
theorem thW_0 : thW (exN 0) [29, 643, 652, 656, 659, 661, 644, 645, 44, 45, 646, 651, 657, 673, 633, 674, 635, 675, 637, 647, 0, 649, 0, 639, 1331, 1332, 1333, 666, 624, 666, 667, 668, 669, 626, 669, 670, 671, 644, 628, 1322, 1323, 1324, 654, 1325, 1326, 1327, 1328, 0, 0, 642, 641, 1329] = true := by decide +kernel
theorem thW_1 : thW (exN 1) [29, 643, 652, 656, 659, 661, 644, 645, 44, 45, 646, 651, 657, 673, 633, 674, 635, 675, 637, 647, 0, 649, 0, 639, 663, 664, 665, 666, 624, 666, 667, 668, 669, 626, 669, 670, 671, 644, 628, 622, 623, 630, 631, 632, 634, 636, 638, 0, 0, 642, 641, 640] = true := by decide +kernel
theorem thW_2 : thW (exN 2) [29, 643, 652, 656, 659, 661, 644, 645, 44, 45, 646, 651, 657, 673, 633, 674, 635, 675, 637, 647, 0, 649, 0, 639, 1402, 1403, 1404, 666, 624, 666, 667, 668, 669, 626, 669, 670, 671, 644, 628, 1393, 1394, 1395, 655, 1396, 1397, 1398, 1399, 0, 0, 642, 641, 1400] = true := by decide +kernel
theorem thW_of {X : String} {ps : List Nat} (h : thW X ps = true) {w : Jvm.Cond} (hw : w ∈ exL X) (hno : vx_no w = true) : w ∈ tbG ∨ w ∈ XW := by
  simp only [thW, Bool.and_eq_true] at h
  obtain ⟨h1, h2⟩ := h
  have h1 := Nat.eq_of_beq_eq_true h1
  obtain ⟨i, hi⟩ := List.getElem?_of_mem hw
  have hil : i < ps.length := by rw [← h1]; exact (List.getElem?_eq_some_iff.mp hi).1
  have h3 : ((exL X).zip ps)[i]? = some (w, ps[i]) := by
    rw [List.getElem?_zip_eq_some]
    exact ⟨hi, List.getElem?_eq_getElem hil⟩
  have h4 := List.all_eq_true.mp h2 _ (List.mem_of_getElem? h3)
  simp only [Bool.or_eq_true] at h4
  rcases h4 with (h4 | h4) | h4
  · rw [hno] at h4; cases h4
  · exact Or.inl (tbG_at h4)
  · exact Or.inr (List.elem_iff.mp h4)
theorem own_of {own X : String} {ic : Nat} {w : Jvm.Cond} (h : w ∈ Bundle.ownAtoms0 own ic X exNames) : w = .methodLink own ic (Bundle.init0 X) ∨ w ∈ exL X := by
  unfold Bundle.ownAtoms0 at h
  unfold exL
  rcases List.mem_append.mp h with h | h
  · exact Or.inr (List.mem_append_left _ h)
  · rcases List.mem_cons.mp h with h | h
    · exact Or.inl h
    · refine Or.inr (List.mem_append_right _ ?_)
      have e : (Bundle.ownAtoms0 "" 0 X exNames).drop 40 = _ := rfl
      rw [e]
      exact h
theorem th_words {own : String} {ic x : Nat} (hx : x < 3) {w : Jvm.Cond} (hw : w ∈ vx_at0 own ic (exN x) exNames) (hml : Cond.methodLink own ic (Bundle.init0 (exN x)) ∈ tbG) : w ∈ tbG ∨ w ∈ XW := by
  obtain ⟨h1, h2⟩ := List.mem_filter.mp hw
  rcases own_of h1 with h3 | h3
  · rw [h3]; exact Or.inl hml
  · match x, hx with
    | 0, _ => exact thW_of thW_0 h3 h2
    | 1, _ => exact thW_of thW_1 h3 h2
    | 2, _ => exact thW_of thW_2 h3 h2
theorem XW_on : XW.all (fun w => w.onTables) = true := by decide +kernel
theorem ot_of {w : Jvm.Cond} (h : w ∈ tbG ∨ w ∈ XW) : vx_ot w = true := by
  unfold vx_ot
  rcases h with h | h
  · rw [(List.mem_filter.mp h).2, Bool.or_true]
  · rw [List.all_eq_true.mp XW_on w h, Bool.true_or]
theorem st_before {ad : Nat → Nat} {s : State} {args : Array Value} (hts : ∀ w ∈ tbG, w.before args s = true) (hx : xwOk ad s) {w : Jvm.Cond} (h : w ∈ tbG ∨ w ∈ XW) : w.before args s = true := by
  rcases h with h | h
  · exact hts w h
  · exact va_Nw.use (List.all_eq_true.mp XW_on w h) (hx.1 w h)
theorem fit_x (x : Nat) : Bundle.fit (exN x) = true := by
  match x with
  | 0 => decide +kernel
  | 1 => decide +kernel
  | x + 2 =>
    show Bundle.fit "java/lang/IndexOutOfBoundsException" = true
    decide +kernel
theorem fit_n : ∀ n ∈ exNames, Bundle.fit n = true := by decide +kernel
theorem ent_lv (ad : Nat → Nat) : ∀ (as : List Value), (ent as).length = (lg_sl (as.map (tr ad))).length ∧ ∀ (i0 : Nat) (q : Nat × Value), (∃ v, (ent as).getD (q.1 - i0) none = some v ∧ i0 ≤ q.1 ∧ q.2 = tr ad v) → q ∈ lv_args i0 (as.map (tr ad)) := by
  intro as
  induction as with
  | nil => exact ⟨rfl, fun i0 q ⟨v, h, _⟩ => by simp [ent] at h⟩
  | cons v r ih =>
    obtain ⟨ih1, ih2⟩ := ih
    have hc : v.category = 1 ∨ v.category = 2 := lv_cat v
    rcases hc with hc | hc
    · have e : ent (v :: r) = some v :: ent r := by
        cases v <;> first | rfl | cases hc
      refine ⟨?_, ?_⟩
      · rw [e]
        simp only [lg_sl, List.map_cons, List.flatMap_cons, tr_cat, hc]
        simp [ih1, lg_sl]
      · intro i0 q ⟨u, h1, h2, h3⟩
        rw [e] at h1
        simp only [List.map_cons, lv_args, tr_cat, hc]
        by_cases h4 : q.1 = i0
        · rw [h4, Nat.sub_self] at h1
          simp at h1
          subst h1
          have : q = (i0, tr ad v) := by rw [← h4, ← h3]
          rw [this]
          exact List.mem_cons_self
        · refine List.mem_cons_of_mem _ (ih2 (i0 + 1) q ⟨u, ?_, by omega, h3⟩)
          have : q.1 - i0 = (q.1 - (i0 + 1)) + 1 := by omega
          rw [this] at h1
          simpa using h1
    · have e : ent (v :: r) = some v :: none :: ent r := by
        cases v <;> first | rfl | cases hc
      refine ⟨?_, ?_⟩
      · rw [e]
        simp only [lg_sl, List.map_cons, List.flatMap_cons, tr_cat, hc]
        simp [ih1, lg_sl]
      · intro i0 q ⟨u, h1, h2, h3⟩
        rw [e] at h1
        simp only [List.map_cons, lv_args, tr_cat, hc]
        by_cases h4 : q.1 = i0
        · rw [h4, Nat.sub_self] at h1
          simp at h1
          subst h1
          have : q = (i0, tr ad v) := by rw [← h4, ← h3]
          rw [this]
          exact List.mem_cons_self
        · by_cases h5 : q.1 = i0 + 1
          · have : q.1 - i0 = 0 + 1 := by omega
            rw [this] at h1
            simp at h1
          · refine List.mem_cons_of_mem _ (ih2 (i0 + 2) q ⟨u, ?_, by omega, h3⟩)
            have : q.1 - i0 = (q.1 - (i0 + 2)) + 1 + 1 := by omega
            rw [this] at h1
            simpa using h1
theorem getD_app {l : Lc} {n i : Nat} {v : Value} (h : (l ++ List.replicate n none).getD i none = some v) : l.getD i none = some v := by
  rcases Nat.lt_or_ge i l.length with q | q
  · rw [List.getD_eq_getElem?_getD, List.getElem?_append_left q] at h
    rw [List.getD_eq_getElem?_getD]; exact h
  · exfalso
    rw [List.getD_eq_getElem?_getD, List.getElem?_append_right q, List.getElem?_replicate] at h
    split at h <;> cases h
set_option maxHeartbeats 1000000 in
theorem met_of {M : MI} {as : List Value} {h : PH} {Q : Res → PH → Prop} (hM : MOK M) (hfr : (ent as).length ≤ M.nl) (hQ : M.hh ≠ [] → ∀ x h, ¬ Q (.inr x) h) (hat : At M Q 0 0 (entL M.nl as) [] h) : MetPM M as h Q := by
  intro l ad cA D xs L sz hst
  have body : ∀ (p : Program) (e : Env) (s : State) (m : MethodId) (args : Array Value) (below : List Frame) (meth : Method) (c : Code) (s₁ : State), BodyLoose p l M.y (headSpec (wsM M) (rmM M)) M.b M.nl M.ret e s m args below meth c s₁ → c.maxLocals = M.nl → c.exceptionTable.toList = tableOf M.hh → va_Pc (as.map (tr ad)) (PcM ad cA D xs L sz h) args s →
      W p l e (headSpec (wsM M) (rmM M)).room s m args below meth c s.heap [] 0 0 (vx_MQ below (QcM ad cA D xs L sz Q) (XcM ad cA D xs L sz Q) args s M.cap (6 * M.cap) (adA ad sz)) (entryFrame m args M.nl) := by
    intro p e s m args below meth c s₁ B hml htab hv
    obtain ⟨rfl, hsz, hP, hK, hD0, hscr, hCF, hxw⟩ := hv
    subst hsz
    have hts0 := atoms_spec (ws := wsM M) B.pre
    have hts : ∀ w ∈ tbG, w.before (as.map (tr ad)).toArray s = true := fun w hw => hts0 w (List.mem_cons_of_mem _ hw)
    have hown : s.vm.findClass M.y.cls = some m.cls := findClass_of_methodNamed B.named
    have hlocks := B.notSynchronized
    have hD : va_D (adA ad s.heap.size) (wd ad cA h) := wd_ad hD0 (fun a ha => Or.inl ⟨a, ha, rfl⟩)
    have hlv := lv_entry (as.map (tr ad)) (n := M.nl) (by rw [← (ent_lv ad as).1]; exact hfr)
    rw [lg_entry_eq]
    refine hat _ p l e _ s m _ below meth c ad cA D (adA ad s.heap.size) xs L ?_ s.heap [] 0 0 _ ⟨hP, hD, va_S.rf, hscr⟩ (lv_mono hlv ?_) (Nat.le_refl 0) (Nat.zero_le _) (Nat.zero_le _)
    · refine ⟨⟨B.exec, B.bytes, hml, hown, hts⟩, hK, fun q hq => Or.inr hq, hCF, hxw, (fun h3 => by have h4 := hM.2.2.2; rw [h3] at h4; exact h4.elim), hst, ⟨Nat.le_refl _, Nat.le_refl _, Nat.le_refl _, Nat.le_refl _⟩, htab, ?_, ?_, ?_⟩
      · intro v h' H locs cells slots pc i ls hd hr hq hW hc hs
        refine W.widen (k := M.cap) (n := 6 * M.cap) hc hs ?_
        refine vx_ret ?_
        have hqc : ∀ t : State, t.heap = H → s.WarmedH t.vm → QcM ad cA D xs L s.heap.size Q (as.map (tr ad)).toArray s (.returned (v.map (tr ad))) t := fun t ht _ => ⟨⟨v, h', rfl, hq, by rw [ht]; exact hW.1, hW.2.1, hW.2.2.2⟩, hW.2.2.1.F ht⟩
        have hf := hW.2.2.1.2.2
        have hret := B.returns
        cases i <;> simp only [rtOk] at hr
        case return_ =>
          obtain ⟨rfl, hr⟩ := hr
          exact W.vret B.exec B.bytes (hret.trans hr) hqc hf hd
        case ireturn =>
          obtain ⟨x, ty, rfl, hr, hn⟩ := hr
          exact W.zret B.exec B.bytes (hret.trans hr) hn hqc hf hd
        case lreturn =>
          obtain ⟨x, rfl, hr⟩ := hr
          exact W.lret B.exec B.bytes (hret.trans hr) hqc hf hd
        case freturn =>
          obtain ⟨x, rfl, hr⟩ := hr
          exact W.fret B.exec B.bytes (hret.trans hr) hqc hf hd
        case dreturn =>
          obtain ⟨x, rfl, hr⟩ := hr
          exact W.dret B.exec B.bytes (hret.trans hr) hqc hf hd
        case areturn =>
          obtain ⟨hty, hv⟩ := hr
          have hty2 : ∃ rt, M.ret = some rt ∧ ((∃ n, rt = .object n) ∨ ∃ t, rt = .array t) := by
            rcases hty with ⟨n, hn⟩ | ⟨t, hn⟩
            · exact ⟨_, hn, Or.inl ⟨n, rfl⟩⟩
            · exact ⟨_, hn, Or.inr ⟨t, rfl⟩⟩
          obtain ⟨rt, hr1, hr2⟩ := hty2
          rcases hv with rfl | ⟨a, rfl⟩
          · exact W.aret B.exec B.bytes (hret.trans hr1) hr2 (Or.inl rfl) hqc hf hd
          · exact W.aret B.exec B.bytes (hret.trans hr1) hr2 (Or.inr ⟨_, rfl⟩) hqc hf hd
      · intro x h' H locs cells slots pc ik ic ls rest hth hq hW hc hs hlsz h8
        obtain ⟨d0, d3, d4, d7, f1, f2, hx3, hini, hcl, hml9⟩ := hth
        have hhh : M.hh = [] := by
          by_cases q : M.hh = []
          · exact q
          · exact absurd hq (hQ q x h')
        have hall : ∀ w ∈ Cond.classLink M.y.cls ik (exN x) :: Cond.initialized (exN x) :: vx_at0 M.y.cls ic (exN x) exNames, w ∈ tbG ∨ w ∈ XW := by
          intro w hw
          rcases List.mem_cons.mp hw with rfl | hw
          · exact Or.inl hcl
          · rcases List.mem_cons.mp hw with rfl | hw
            · exact Or.inl hini
            · exact th_words hx3 hw hml9
        refine vx_throw0 (names := exNames) (ik := ik) (ic := ic) (cls := exN x) (A := adA ad s.heap.size) B.exec B.bytes hst hown (fit_x x) fit_n (hts _ hcl) (hts _ hini) (fun w hw => st_before hts hxw (hall w (List.mem_cons_of_mem _ (List.mem_cons_of_mem _ hw)))) (fun w hw => ot_of (hall w hw)) hCF.1.1 hCF.1.2 hW.2.2.1 (hlsz.trans hml.symm) d0 d3 d4 d7 ?_ ?_ ?_ ?_ ?_ hlocks ?_ hW.2.2.1.2.2 hc hs
        · rw [htab, hhh]
          intro z hz
          cases hz
        · show 2 + 3 < M.fr
          omega
        · show _ + (13 * (2 + 1) + 42) ≤ M.lo
          omega
        · exact hc
        · exact hs
        · intro t hvm hsz2 hk2
          refine ⟨⟨x, h', rfl, hq, ?_, hW.2.1, hW.2.2.2⟩, Nat.le_trans hW.2.2.1.1 hsz2, fun q h1 h2 => by rw [hk2 q (Nat.lt_of_lt_of_le h1 hW.2.2.1.1)]; exact hW.2.2.1.2.1 q h1 h2⟩
          exact hW.1.kept (fun k q hk => hk2 q.1 (hW.1 k q hk).lt)
      · intro x h' H locs cells slots pc ls rest q ce hq hW hc hs hce hcv hcl
        have hhh : M.hh = [] := by
          by_cases q : M.hh = []
          · exact q
          · exact absurd hq (hQ q x h')
        refine vx_out (E := exN x) ?_ hlocks hce hcv hcl (fun t ht _ => ⟨⟨x, h', rfl, hq, by rw [ht]; exact hW.1, hW.2.1, hW.2.2.2⟩, hW.2.2.1.F ht⟩) hW.2.2.1.2.2 hc hs
        rw [htab, hhh]
        intro z hz
        cases hz
    · intro q hq
      obtain ⟨v, hv, he⟩ := tl_mem.mp hq
      refine (ent_lv ad as).2 0 q ⟨v, getD_app hv, Nat.zero_le _, he⟩
  by_cases hhh : M.hh = []
  · refine vx_ofW (cc := M.b) (maxL := M.nl) (ret := M.ret) hM.2.2.1 (by unfold wsM headM; rw [hhh]) ?_
    intro p e s m args below meth c s₁ B hml ht hv
    refine body p e s m args below meth c s₁ B hml ?_ hv
    rw [hhh]
    cases hl9 : c.exceptionTable.toList with
    | nil => rfl
    | cons a r => exact (ht a (by rw [hl9]; exact List.mem_cons_self)).elim
  · have hhead : headM M = Cond.codeWith M.y M.b M.nl M.ret M.hh := by
      unfold headM
      split
      · rename_i h9; exact absurd h9 hhh
      · rfl
    refine vx_ofWH (cc := M.b) (maxL := M.nl) (ret := M.ret) (hh := M.hh) hM.2.2.1 (by unfold wsM; rw [hhead]) ?_
    intro p e s m args below meth c s₁ B hml hv
    refine body p e s m args below meth c s₁ B hml ?_ hv
    exact vx_table (x := M.y) B (atoms_spec (ws := wsM M) B.pre _ (by unfold wsM; rw [hhead]; exact List.mem_cons_self))
