/-! ===== the law's machine: a method's contract out of its entry; steps over a table ===== -/
theorem qst_ok {M : MI} {Q : Res → PH → Prop} {k : KT} {en : En} {c : Nat} {ls : Lc} {st : List Value} {h : PH} (hE : okQ M en = true) (hms : ∀ M' ∈ en.2.2.2.2, MOQ M') (hk : ∀ pc c ls st h, k pc c ls st h → Bt M Q pc c ls st h) (hs : qst MetQ MetPM M Q k en c ls st h) : Bt M Q en.1 c ls st h := by
  intro Z p l e R s m args below meth cc ad cA D A X h0 hC
  exact qst_btC hC (fun pc c ls st h h9 => hk pc c ls st h h9 Z p l e R s m args below meth cc ad cA D A X h0 hC) hE hms hs
def okCQ (M : MI) (C : Cd) : Bool := C.all (fun b => b.all (fun e => okQ M e))
def CdQ (M : MI) (C : Cd) : Prop := okCQ M C = true ∧ ∀ M' ∈ msC C, MOQ M'
/-- at a stop: what is forgotten of the locals -/
def stF : List (Nat × List Nat) → Nat → Option (List Nat)
  | [], _ => none
  | s :: r, pc => match Nat.beq s.1 pc with
    | true => some s.2
    | false => stF r pc
def fgt (ls : Lc) : List Nat → Lc
  | [] => ls
  | i :: r => fgt (ls.set i none) r
theorem fgt_get : ∀ (F : List Nat) (ls : Lc) (j : Nat) (v : Value), (fgt ls F).getD j none = some v → ls.getD j none = some v := by
  intro F
  induction F with
  | nil => intro ls j v h; exact h
  | cons i r ih =>
    intro ls j v h
    have h1 := ih _ j v h
    rw [List.getD_eq_getElem?_getD] at h1 ⊢
    by_cases e : i = j
    · subst e
      exfalso
      rw [List.getElem?_set] at h1
      split at h1
      · split at h1
        · cases h1
        · cases h1
      · rename_i q; exact q rfl
    · rw [List.getElem?_set_ne e] at h1
      exact h1
theorem Bt.fgt {M : MI} {Q : Res → PH → Prop} {pc c : Nat} {ls : Lc} {st : List Value} {h : PH} {F : List Nat} (k : Bt M Q pc c (fgt ls F) st h) : Bt M Q pc c ls st h := by
  intro Z p l e R s m args below meth cc ad cA D A X h0 hC H locs cells slots lsA hW hl h1 h2 h3
  refine k Z p l e R s m args below meth cc ad cA D A X h0 hC H locs cells slots lsA hW (lv_mono hl ?_) h1 h2 h3
  intro q hq
  obtain ⟨v, hv, he⟩ := tl_mem.mp hq
  exact tl_mem.mpr ⟨v, fgt_get F ls q.1 v hv, he⟩
/-- n steps, or up to a place where to stop -/
def vq (C : Cd) (M : MI) (Q : Res → PH → Prop) (stops : List (Nat × List Nat)) : Nat → KT
  | 0 => Bt M Q
  | n + 1 => fun pc c ls st h => match stF stops pc with
    | some F => Bt M Q pc c (fgt ls F) st h
    | none => match lkE C pc with
      | some e => qst MetQ MetPM M Q (vq C M Q stops n) e c ls st h
      | none => False
theorem stepq_of {C : Cd} {M : MI} (hC : CdQ M C) {Q : Res → PH → Prop} {k : KT} (hk : ∀ pc c ls st h, k pc c ls st h → Bt M Q pc c ls st h) {pc c : Nat} {ls : Lc} {st : List Value} {h : PH} {e : En} (he : lkE C pc = some e) (hs : qst MetQ MetPM M Q k e c ls st h) : Bt M Q pc c ls st h := by
  obtain ⟨⟨b, hb, heb⟩, hpc⟩ := lkE_mem he
  have h1 := List.all_eq_true.mp (List.all_eq_true.mp hC.1 b hb) e heb
  have h2 : ∀ M' ∈ e.2.2.2.2, MOQ M' := fun M' hm => hC.2 M' (List.mem_flatMap.mpr ⟨b, hb, List.mem_flatMap.mpr ⟨e, heb, hm⟩⟩)
  rw [← hpc]
  exact qst_ok h1 h2 hk hs
theorem vq_ok {C : Cd} {M : MI} (hC : CdQ M C) {Q : Res → PH → Prop} {stops : List (Nat × List Nat)} : ∀ (n pc c : Nat) (ls : Lc) (st : List Value) (h : PH), vq C M Q stops n pc c ls st h → Bt M Q pc c ls st h := by
  intro n
  induction n with
  | zero => intro pc c ls st h h9; exact h9
  | succ n ih =>
    intro pc c ls st h h9
    unfold vq at h9
    split at h9
    · exact h9.fgt
    · split at h9
      · rename_i e he
        exact stepq_of hC ih he h9
      · exact h9.elim
/-- from a stop on: the first step is taken -/
def vgq (C : Cd) (M : MI) (Q : Res → PH → Prop) (stops : List (Nat × List Nat)) (n : Nat) : KT := fun pc c ls st h => match lkE C pc with
  | some e => qst MetQ MetPM M Q (vq C M Q stops n) e c ls st h
  | none => False
theorem vgq_ok {C : Cd} {M : MI} (hC : CdQ M C) {Q : Res → PH → Prop} {stops : List (Nat × List Nat)} (n pc c : Nat) (ls : Lc) (st : List Value) (h : PH) (h9 : vgq C M Q stops n pc c ls st h) : Bt M Q pc c ls st h := by
  unfold vgq at h9
  split at h9
  · rename_i e he
    exact stepq_of hC (vq_ok hC n) he h9
  · exact h9.elim
set_option maxHeartbeats 1000000 in
theorem met_ofQ {M : MI} {as : List Value} {h : PH} {Q : Res → PH → Prop} (hM : MOQ M) (hfr : (ent as).length ≤ M.nl) (hat : Bt M Q 0 0 (entL M.nl as) [] h) : MetQ M as h Q := by
  intro l ad cA D X L sz hst hX
  refine Met.ofW (cc := M.b) (maxL := M.nl) (ret := M.ret) hM.2.2.1 (by unfold wsM; rw [hM.head]) ?_
  intro p e s m args below meth c s₁ B hml hv
  obtain ⟨rfl, hsz, hP, hK, hD0, hKd, hKQ, hCQ, hfl⟩ := hv
  subst hsz
  have hts0 := atoms_spec (ws := wsM M) B.pre
  have hts : ∀ w ∈ tbG, w.before (as.map (tr ad)).toArray s = true := fun w hw => hts0 w (List.mem_cons_of_mem _ hw)
  have hown : s.vm.findClass M.y.cls = some m.cls := findClass_of_methodNamed B.named
  have hlocks := B.notSynchronized
  have hD : va_D (frQ (X h) L s.heap.size) (X h ++ pq ad cA h L) := by
    refine hD0.weaken ?_
    intro i q hq _
    rcases Nat.lt_or_ge i (X h).length with w | w
    · rw [List.getElem?_append_left w] at hq
      exact Or.inl ⟨i, q.2, hq⟩
    · rw [List.getElem?_append_right w] at hq
      have hm := List.mem_of_getElem? hq
      unfold pq va_pl at hm
      obtain ⟨b, hb1, hb2⟩ := List.mem_map.mp hm
      exact Or.inr (Or.inl (by rw [← hb2]; exact hb1))
  have hlv := lv_entry (as.map (tr ad)) (n := M.nl) (by rw [← (ent_lv ad as).1]; exact hfr)
  rw [lg_entry_eq]
  refine hat _ p l e _ s m _ below meth c ad cA D (frQ (X h) L s.heap.size) X h ?_ s.heap [] 0 0 _ ⟨L, hP, hD, va_S.rf, hKd, Md.refl h, fun _ => Lw.refl h⟩ (lv_mono hlv ?_) (Nat.le_refl 0) (Nat.zero_le _) (Nat.zero_le _)
  · refine ⟨⟨B.exec, B.bytes, hml, hown, hts⟩, hK, fun q hq => Or.inr (Or.inr hq), hKQ, hCQ, hX, hfl, hst, ⟨Nat.le_refl _, Nat.le_refl _, Nat.le_refl _, Nat.le_refl _⟩, (name_of_methodNamed B.named B.method).1, ?_⟩
    intro v h' H locs cells slots pc i ls hd hr hq hW hc hs
    refine W.widen (k := M.cap) (n := 12 * M.cap) hc hs ?_
    obtain ⟨L', hP', hD', hS', hKd', hMd', hLw'⟩ := hW
    have hadr : ∀ (i : Nat) (q : Nat) (e : va_E), (X h)[i]? = some (q, e) → ∃ e', (X h')[i]? = some (q, e') := by
      intro i q e9 hi
      cases hf : flQ M with
      | false => exact ⟨e9, by rw [hX _ _ (hLw' hf)]; exact hi⟩
      | true =>
        rw [(hfl hf).1] at hi ⊢
        exact wdX_addr (h := h') hi
    have hnew : ∀ q, q ∈ L' → q ∈ L ∨ s.heap.size ≤ q := by
      intro q hq
      obtain ⟨j, hj⟩ := List.getElem?_of_mem hq
      have hj2 : (X h' ++ pq ad cA h' L')[(X h').length + j]? = some (q, celQ ad cA h' (uq q)) := by
        rw [List.getElem?_append_right (Nat.le_add_right _ _), Nat.add_sub_cancel_left]
        unfold pq va_pl
        rw [List.getElem?_map, hj]
        rfl
      rcases hD'.2 _ _ hj2 with ⟨i, e9, hi⟩ | w
      · obtain ⟨e8, hi8⟩ := hadr i q e9 hi
        have hl8 := (List.getElem?_eq_some_iff.mp hi8).1
        have := hD'.1 _ _ _ _ ((List.getElem?_append_left hl8).trans hi8) hj2 rfl
        omega
      · exact w
    have hqc : ∀ t : State, t.heap = H → s.WarmedH t.vm → QcQ (flQ M) ad cA D X L s.heap.size h Q (as.map (tr ad)).toArray s (.returned (v.map (tr ad))) t := fun t ht _ => ⟨⟨v, h', L', rfl, hq, by rw [ht]; exact hP', hD'.weaken (fun _ _ _ _ => trivial), hnew, hKd', hMd', hLw'⟩, hS'.F ht⟩
    · have hf := hS'.2.2
      have hret := B.returns
      cases i <;> simp only [rtOk] at hr
      case return_ =>
        obtain ⟨rfl, hr⟩ := hr
        exact W.vret B.exec B.bytes (hret.trans hr) hqc hf hd
      case ireturn =>
        obtain ⟨x, ty, rfl, hr, hn⟩ := hr
        exact W.zret B.exec B.bytes (hret.trans hr) hn hqc hf hd
      case lreturn =>
        obtain ⟨x, rfl, hr⟩ := hr
        exact W.lret B.exec B.bytes (hret.trans hr) hqc hf hd
      case freturn =>
        obtain ⟨x, rfl, hr⟩ := hr
        exact W.fret B.exec B.bytes (hret.trans hr) hqc hf hd
      case dreturn =>
        obtain ⟨x, rfl, hr⟩ := hr
        exact W.dret B.exec B.bytes (hret.trans hr) hqc hf hd
      case areturn =>
        obtain ⟨hty, hv⟩ := hr
        have hty2 : ∃ rt, M.ret = some rt ∧ ((∃ n, rt = .object n) ∨ ∃ t, rt = .array t) := by
          rcases hty with ⟨n, hn⟩ | ⟨t, hn⟩
          · exact ⟨_, hn, Or.inl ⟨n, rfl⟩⟩
          · exact ⟨_, hn, Or.inr ⟨t, rfl⟩⟩
        obtain ⟨rt, hr1, hr2⟩ := hty2
        rcases hv with rfl | ⟨a, rfl⟩
        · exact W.aret B.exec B.bytes (hret.trans hr1) hr2 (Or.inl rfl) hqc hf hd
        · exact W.aret B.exec B.bytes (hret.trans hr1) hr2 (Or.inr ⟨_, rfl⟩) hqc hf hd
  · intro q hq
    obtain ⟨v, hv, he⟩ := tl_mem.mp hq
    exact (ent_lv ad as).2 0 q ⟨v, getD_app hv, Nat.zero_le _, he⟩
theorem CdQ.wc {M : MI} {C : Cd} {n : Nat} (h : CdQ M C) : CdQ (wcap M n) C := h
