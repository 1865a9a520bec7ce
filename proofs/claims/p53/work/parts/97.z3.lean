/-! ===== the maker runs: methods by number ===== -/
abbrev BTab : Type := Nat → MI × List BE
abbrev AB (B : Nat) : Nat → Prop := fun q => B ≤ q
def bstop (stop : Option Nat) (pc : Nat) : Bool := match stop with
  | some q => Nat.beq pc q
  | none => false
/-- 1 the end, 2 a call, 0 else -/
def bkd (i : Instr) (ax : List Nat) : Nat := match i with
  | .return_ => 1
  | .invokespecial _ => match ax with
    | [_, _, _] => 2
    | _ => 0
  | .invokevirtual _ => 2
  | _ => 0
def bcls (w : BW) (b : Nat) (C : String) : Bool := match w[b]? with
  | some (.inl (rc, _)) => (match pmCl[rc]? with
    | some (C', _, _) => decide (C' = C)
    | none => false)
  | _ => false
def bone (T : BTab) (go : Option Nat → Nat → Nat → Nat → Lc → List Value → BW → Option (Nat × Lc × BW)) (stop : Option Nat) (k pc c : Nat) (ls : Lc) (st : List Value) (w : BW) : Option (Nat × Lc × BW) := match bstop stop pc with
  | true => match st with
    | [] => some (c, ls, w)
    | _ => none
  | false => match bget pc (T k).2 with
    | none => none
    | some (i, ax) => match bkd i ax with
      | 0 => match bst1 (T k).1 pc c ls st w i ax with
        | some (pc', c', ls', st', w') => go stop k pc' c' ls' st' w'
        | none => none
      | 1 => match stop, st with
        | none, [] => some (c, ls, w)
        | _, _ => none
      | _ => match ax with
        | [k', n, _] => match st.drop n with
          | .ref b :: rest => match go none k' 0 0 (entL (T k').1.nl (.ref b :: (st.take n).reverse)) [] w with
            | some (_, _, w') => match (Nat.ble (c + (T k').1.cap) (T k).1.cap && Nat.ble ((rest.map (fun v => v.category)).sum) 8) && (Nat.ble (ent (.ref b :: (st.take n).reverse)).length (T k').1.nl && bcls w b (T k').1.y.cls) with
              | true => go stop k (pc + 3) (c + (T k').1.cap) ls rest w'
              | false => none
            | none => none
          | _ => none
        | _ => none
def bex (T : BTab) : Nat → Option Nat → Nat → Nat → Nat → Lc → List Value → BW → Option (Nat × Lc × BW)
  | 0 => fun _ _ _ _ _ _ _ => none
  | f + 1 => bone T (bex T f)
def okCa (M M' : MI) (i : Instr) (n p : Nat) : Bool := calB M M' n M'.cap 0 && (match i with
  | .invokespecial idx => decide (M'.y.name = "<init>") && (match Nat.ble 90000 p with
    | true => decide (BN[p - 90000]? = some (.methodLinkNest M.y.cls idx M'.y RX11))
    | false => atW p (.methodLink M.y.cls idx M'.y))
  | .invokevirtual idx => decide (M'.y.name ≠ "<init>") && atW p (.methodLink M.y.cls idx M'.y)
  | _ => false)
def okB (T : BTab) (k : Nat) (e : BE) : Bool := match e with
  | (pc, i, len, ax) => decide (decode (T k).1.b pc = .ok (i, len)) && (okB1 (T k).1 pc i len ax && (match bkd i ax with
    | 0 => true
    | 1 => true
    | _ => (match ax with
      | [k', n, p] => Nat.blt k' 11 && okCa (T k).1 (T k').1 i n p
      | _ => false)))
def BMok (M : MI) : Prop := headM M ∈ tbG ∧ Cond.initialized M.y.cls ∈ tbG ∧ plainName M.y.cls = true ∧ M.hh = [] ∧ M.ret = none ∧ Cond.instanceMethod M.y ∈ tbG ∧ (M.y.name ≠ "<init>" → Cond.selects M.y.cls M.y M.y ∈ tbG)
def BTok (T : BTab) : Prop := (∀ k, k < 11 → (T k).2.all (okB T k) = true) ∧ ∀ k, k < 11 → BMok (T k).1
theorem bget_mem {pc : Nat} {i : Instr} {ax : List Nat} : ∀ {l : List BE}, bget pc l = some (i, ax) → ∃ len, (pc, i, len, ax) ∈ l
  | [], h => by cases h
  | (q, j, len, bx) :: r, h => by
    unfold bget at h
    split at h
    · rename_i hq
      cases h
      rw [Nat.eq_of_beq_eq_true hq]
      exact ⟨len, List.mem_cons_self⟩
    · obtain ⟨len, hm⟩ := bget_mem h
      exact ⟨len, List.mem_cons_of_mem _ hm⟩
theorem bkd_1 {i : Instr} {ax : List Nat} (h : bkd i ax = 1) : i = .return_ := by
  unfold bkd at h
  split at h
  · rfl
  · split at h <;> cases h
  · cases h
  · cases h
def PB (ad : Nat → Nat) (cA : Nat → ClassId) (D : va_G) (B : Nat) (w : BW) (U : State) : Prop :=
  U.heap.size = B + w.length ∧ va_P D pmCl (bwd ad cA w) U.heap ∧ va_K D pmCl (pmTy cA) U ∧ bVm U
def RB (ad : Nat → Nat) (cA : Nat → ClassId) (D : va_G) (B : Nat) (w : BW) (t : State) : Prop :=
  t.heap.size = B + w.length ∧ va_P D pmCl (bwd ad cA w) t.heap ∧ w.length ≤ NK
theorem bm_good {M : MI} (h : headM M ∈ tbG) : GoodIn tbG (wsM M) := by
  intro w hw
  rcases List.mem_cons.mp hw with rfl | hw
  · exact tbG_good _ h
  · exact tbG_good _ hw
theorem bm_head {M : MI} (h : M.hh = []) (hr : M.ret = none) : headM M = Cond.code M.y M.b M.nl none := by
  unfold headM
  rw [h, hr]
section
variable {M : MI} {l : Launch} {ad : Nat → Nat} {cA : Nat → ClassId} {D : va_G} {B : Nat} {w w' : BW} {as : List Value} {c2 : Nat}
theorem b_met (hM : BMok M) (hfr : (ent as).length ≤ M.nl) (hB : adB ad B) (hNK : w.length ≤ NK)
    (run : ∀ {Z : State → Prop} {p : Program} {e : Env} {R : Room} {s : State} {m : MethodId} {args : Array Value} {below : List Frame} {meth : Method} {cc : Code}, BCx M p R s m args meth cc ad cA D (AB B) B →
      (∀ (pc' : Nat) (H : Heap) (locs : List Loc) (cells slots : Nat) (lsA : Array Slot), decode M.b pc' = .ok (.return_, 1) → BH ad cA D (AB B) B s.heap w' H locs → cells ≤ c2 → slots ≤ 6 * c2 → c2 ≤ M.cap → W p l e R s m args below meth cc H locs cells slots Z (F0 m pc' lsA [])) →
      BAt M Z p l e R s m args below meth cc ad cA D (AB B) B 0 0 (entL M.nl as) [] w) :
    Met l M.y (wsM M) (rmM M) (va_Pc (as.map (tr ad)) (PB ad cA D B w)) (va_Qv (fun _ : Unit => True) (fun _ t => RB ad cA D B w' t) (AB B)) M.cap (6 * M.cap) (AB B) := by
  obtain ⟨hhd, hini, hpl, hhh, hret, hinst, -⟩ := hM
  refine Met.ofW (cc := M.b) (maxL := M.nl) (ret := none) hpl (by unfold wsM; rw [bm_head hhh hret]) ?_
  intro p e s m args below meth c s₁ Bd hml hv
  obtain ⟨rfl, hsz, hP, hK, hao⟩ := hv
  have hts0 := atoms_spec (ws := wsM M) Bd.pre
  have hts : ∀ w ∈ tbG, w.before (as.map (tr ad)).toArray s = true := fun w hw => hts0 w (List.mem_cons_of_mem _ hw)
  have hown : s.vm.findClass M.y.cls = some m.cls := findClass_of_methodNamed Bd.named
  have hlocks := Bd.notSynchronized
  have hnm : meth.name = M.y.name := (name_of_methodNamed Bd.named Bd.method).1
  have hlv := lv_entry (as.map (tr ad)) (n := M.nl) (by rw [← (ent_lv ad as).1]; exact hfr)
  rw [lg_entry_eq]
  refine run (R := (headSpec (wsM M) (rmM M)).room) ⟨⟨Bd.exec, Bd.bytes, hml, hown, hts⟩, hK, fun q hq => hq, by omega, hao, ⟨Nat.le_refl _, Nat.le_refl _, Nat.le_refl _, Nat.le_refl _⟩, fun h => hnm.trans h, hB⟩ ?_ s.heap [] 0 0 _ ⟨hP, va_S.rf, hsz, hNK⟩ (lv_mono hlv ?_) (Nat.le_refl 0) (Nat.zero_le _) (Nat.zero_le _)
  · intro pc' H locs cells slots lsA hd hW hc hs hcap
    refine W.widen (k := M.cap) (n := 6 * M.cap) (by omega) (by omega) ?_
    exact W.vret Bd.exec Bd.bytes Bd.returns (fun t ht _ => ⟨⟨(), rfl, trivial, by rw [ht]; exact hW.2.2.1, by rw [ht]; exact hW.1, hW.2.2.2⟩, hW.2.1.F ht⟩) hW.2.1.2.2 hd
  · intro q hq
    obtain ⟨v, hv, he⟩ := tl_mem.mp hq
    exact (ent_lv ad as).2 0 q ⟨v, getD_app hv, Nat.zero_le _, he⟩
end
theorem b_pre {s : State} {H : Heap} {locs : List Loc} {ad : Nat → Nat} {cA : Nat → ClassId} {D : va_G} {B : Nat} {w : BW} {as : List Value} (hK : va_K D pmCl (pmTy cA) s) (hAO : bVm s) (hW : BH ad cA D (AB B) B s.heap w H locs) : PreS s H (va_Pc (as.map (tr ad)) (PB ad cA D B w)) (as.map (tr ad)) := by
  refine ⟨fun a U g mk hq => ?_, fun U hU hWU => ⟨rfl, ?_⟩⟩
  · obtain ⟨q0, q1, q2, q3, q4⟩ := hq
    exact ⟨q0, q1, q2, va_K.moved (u := U) (U := U.calling g mk a) (Vm.Alike.refl U.vm) q3, q4.same (s := U) (U := U.calling g mk a) rfl⟩
  · exact ⟨by rw [hU]; exact hW.2.2.1, by rw [hU]; exact hW.1, va_K.moved hWU.alike hK, hAO.warm hWU⟩
set_option maxHeartbeats 1000000 in
theorem bex_ok {T : BTab} (hT : BTok T) {l : Launch} : ∀ (f : Nat) (stop : Option Nat) (k pc c : Nat) (ls : Lc) (st : List Value) (w : BW) (c2 : Nat) (ls2 : Lc) (w2 : BW), k < 11 → bex T f stop k pc c ls st w = some (c2, ls2, w2) →
    ∀ {Z : State → Prop} {p : Program} {e : Env} {R : Room} {s : State} {m : MethodId} {args : Array Value} {below : List Frame} {meth : Method} {cc : Code} {ad : Nat → Nat} {cA : Nat → ClassId} {D : va_G} {B : Nat}, BCx (T k).1 p R s m args meth cc ad cA D (AB B) B →
    (∀ (pc' : Nat) (H : Heap) (locs : List Loc) (cells slots : Nat) (lsA : Array Slot), (stop = some pc' ∨ (stop = none ∧ decode (T k).1.b pc' = .ok (.return_, 1))) → BH ad cA D (AB B) B s.heap w2 H locs → lv_has lsA (T k).1.nl (tl ad ls2) → cells ≤ c2 → slots ≤ 6 * c2 → c2 ≤ (T k).1.cap → W p l e R s m args below meth cc H locs cells slots Z (F0 m pc' lsA [])) →
    BAt (T k).1 Z p l e R s m args below meth cc ad cA D (AB B) B pc c ls st w := by
  intro f
  induction f with
  | zero => intro stop k pc c ls st w c2 ls2 w2 hk h; cases h
  | succ f ih =>
    intro stop k pc c ls st w c2 ls2 w2 hk h Z p e R s m args below meth cc ad cA D B hC hend
    replace h : bone T (bex T f) stop k pc c ls st w = some (c2, ls2, w2) := h
    unfold bone at h
    split at h
    · rename_i hb9
      split at h
      · cases h
        intro H locs cells slots lsA hW hl h1 h2 h3
        refine hend pc H locs cells slots lsA (Or.inl ?_) hW hl h1 h2 h3
        unfold bstop at hb9
        split at hb9
        · rw [Nat.eq_of_beq_eq_true hb9]
        · cases hb9
      · cases h
    · split at h
      · cases h
      · rename_i i ax hg
        obtain ⟨len, hmem⟩ := bget_mem hg
        have hok := List.all_eq_true.mp (hT.1 k hk) _ hmem
        simp only [okB, Bool.and_eq_true, decide_eq_true_eq] at hok
        obtain ⟨hd, hok1, hcall⟩ := hok
        split at h
        · split at h
          · rename_i hs
            exact bst1_ok hC hd hok1 hs (ih _ _ _ _ _ _ _ _ _ _ hk h hC hend)
          · cases h
        · rename_i hkd
          obtain rfl := bkd_1 hkd
          split at h
          · cases h
            intro H locs cells slots lsA hW hl h1 h2 h3
            obtain rfl := beq_of hok1
            exact hend pc H locs cells slots lsA (Or.inr ⟨rfl, hd⟩) hW hl h1 h2 h3
          · cases h
        · rename_i hn0 hn1
          split at h
          · rename_i k' n q
            split at h
            · rename_i b rest hdrop
              split at h
              · rename_i c' ls' w' hrun
                split at h
                · rename_i hcd
                  simp only [Bool.and_eq_true] at hcd
                  obtain ⟨⟨hcap, h8⟩, hent, hcls⟩ := hcd
                  have hcap := Nat.le_of_ble_eq_true hcap
                  have h8 := Nat.le_of_ble_eq_true h8
                  have hent := Nat.le_of_ble_eq_true hent
                  have hcall2 : (Nat.blt k' 11 && okCa (T k).1 (T k').1 i n q) = true := by
                    split at hcall
                    · rename_i y; exact absurd y hn0
                    · rename_i y; exact absurd y hn1
                    · exact hcall
                  rw [Bool.and_eq_true] at hcall2
                  have hk' : k' < 11 := blt_of hcall2.1
                  have hMk := hT.2 k' hk'
                  have hokc := hcall2.2
                  have hCo := hC
                  obtain ⟨⟨hx, hb, hml, hown, hts⟩, hK, hA, hBs, hAO, hroom, hin, hB⟩ := hC
                  simp only [okCa, Bool.and_eq_true] at hokc
                  obtain ⟨hcal, hokc⟩ := hokc
                  obtain ⟨-, e2, e3, e4, e5, e6⟩ := calB_of hcal
                  intro H locs cells slots lsA hW hl h1 h2 h3
                  have hM := b_met (l := l) (ad := ad) (cA := cA) (D := D) (as := .ref b :: (st.take n).reverse) hMk hent hB hW.2.2.2 (fun {Z p e R s m args below meth cc} hC1 hend1 => ih none k' 0 0 _ [] w c' ls' w' (by omega) hrun (Z := Z) (p := p) (e := e) (R := R) (s := s) (m := m) (args := args) (below := below) (meth := meth) (cc := cc) hC1 (fun pc' H locs cells slots lsA hp hW hl g1 g2 g3 => hend1 pc' H locs cells slots lsA (by
                    rcases hp with hp | hp
                    · cases hp
                    · exact hp.2) hW g1 g2 g3))
                  have hR : (rmM (T k').1).frames + 1 ≤ R.frames ∧ 8 + ((T k').1.nl + 11) + (rmM (T k').1).locals ≤ R.locals := ⟨by show (T k').1.fr + 1 ≤ _; omega, by show 8 + ((T k').1.nl + 11) + (T k').1.lo ≤ _; omega⟩
                  have hlen : (st.take n).length = n := by
                    rw [List.length_take]
                    have h9 := congrArg List.length hdrop
                    rw [List.length_drop, List.length_cons] at h9
                    omega
                  have hst9 : st.map (tr ad) = ((st.take n).reverse.map (tr ad)).reverse ++ Value.ref (ad b) :: rest.map (tr ad) := by
                    rw [st_split ad st n, hdrop]
                    rfl
                  have hpre := b_pre (as := .ref b :: (st.take n).reverse) hK hAO hW
                  obtain ⟨m1, m2, m3, m4, m5, m6, m7⟩ := hMk
                  have hRun : va_Run p l e R s m args below meth cc H locs cells slots (T k').1.cap (6 * (T k').1.cap) (F0 m pc lsA (st.map (tr ad))) (rest.map (tr ad)) (va_Qv (fun _ : Unit => True) (fun _ t => RB ad cA D B w' t) (AB B) (Value.ref (ad b) :: (st.take n).reverse.map (tr ad)).toArray) (AB B) := by
                    have hcB : ∀ idx, Cond.methodLink (T k).1.y.cls idx (T k').1.y ∈ tbG → CallB R s args (T k).1.y.cls idx (T k').1.y (T k').1.b (T k').1.nl none (wsM (T k').1) (rmM (T k').1) (T k').1.cap (6 * (T k').1.cap) n := fun idx hl9 => callB_of n hts (bm_good m1) (by unfold wsM; rw [bm_head m4 m5]) rfl rfl (hts _ m2) (hts _ hl9) ⟨e4, e5, e6⟩ hR
                    split at hokc
                    · rename_i idx
                      simp only [Bool.and_eq_true, decide_eq_true_eq] at hokc
                      simp only [okB1, Bool.and_eq_true] at hok1
                      obtain rfl := beq_of hok1.1
                      obtain ⟨hnm9, hokc⟩ := hokc
                      split at hokc
                      · have hnx := hAO.2.2 _ (List.mem_of_getElem? (of_decide_eq_true hokc))
                        exact va_runIN (host := RX11) (As := (st.take n).reverse.map (tr ad)) (rest := rest.map (tr ad)) ⟨hx, hb, hml, hown, hts⟩ hM ⟨va_cnB n hts (bm_good m1) (by unfold wsM; rw [bm_head m4 m5]) rfl rfl hnx (hts _ m2) ⟨e4, e5, e6⟩ hR, hnm9, hts _ m6⟩ hpre rfl (by rw [List.length_map, List.length_reverse]; exact hlen) hl.1 hst9 (lv_room (by rw [cat_tr]; exact h8)) hd ⟨by omega, by omega⟩
                      · exact va_runI (As := (st.take n).reverse.map (tr ad)) (rest := rest.map (tr ad)) ⟨hx, hb, hml, hown, hts⟩ hM ⟨hcB idx (tbG_at hokc), hnm9, hts _ m6⟩ hpre rfl (by rw [List.length_map, List.length_reverse]; exact hlen) hl.1 hst9 (lv_room (by rw [cat_tr]; exact h8)) hd ⟨by omega, by omega⟩
                    · rename_i idx
                      simp only [Bool.and_eq_true, decide_eq_true_eq] at hokc
                      obtain rfl := beq_of hok1
                      refine va_runV (C := (T k').1.y.cls) (As := (st.take n).reverse.map (tr ad)) (rest := rest.map (tr ad)) ⟨hx, hb, hml, hown, hts⟩ hM ⟨hcB idx (tbG_at hokc.2), hts _ m6, hts _ (m7 hokc.1)⟩ ⟨hpre.1, ?_, hpre.2⟩ rfl (by rw [List.length_map, List.length_reverse]; exact hlen) hl.1 hst9 (lv_room (by rw [cat_tr]; exact h8)) hd ⟨by omega, by omega⟩
                      unfold bcls at hcls
                      split at hcls
                      · rename_i rc fs hwb
                        split at hcls
                        · rename_i C' T' N' hci
                          rw [← of_decide_eq_true hcls]
                          exact va_recv hK hW.1 hci (bwd_get hwb)
                        · cases hcls
                      · cases hcls
                    · cases hokc
                  refine va_callv hRun hW.2.1 (fun _ _ h => h) (fun _ h => h) (fun u t H1 locs1 ht hvm hp hQ hz hkeep hS1 => ?_)
                  obtain ⟨z1, z2, z3⟩ := hQ
                  rw [ht] at z1 z2
                  exact ih _ _ _ _ _ _ _ _ _ _ hk h hCo hend H1 locs1 (cells + (T k').1.cap) (slots + 6 * (T k').1.cap) lsA ⟨z2, hS1, z1, z3⟩ hl (by omega) (by omega) hcap
                · cases h
              · cases h
            · cases h
          · cases h
