/-! ===== calls and the JDK's own; the soundness of a step ===== -/
section
variable {M : MI} {Q : Res → PH → Prop} {Z : State → Prop} {p : Program} {l : Launch} {e : Env} {R : Room} {s : State} {m : MethodId} {args : Array Value} {below : List Frame} {meth : Method} {cc : Code} {ad : Nat → Nat} {cA : Nat → ClassId} {D : va_G} {A : Nat → Prop} {xs : PH} {L : Nat} {k : KT} {pc c : Nat} {ls : Lc} {st : List Value} {h : PH}
theorem len9_of {n : Nat} {st : List Value} {P : Prop} (h : len9 n st P) : n ≤ st.length ∧ P := by
  unfold len9 at h
  split at h
  · rename_i hb; exact ⟨Nat.le_of_ble_eq_true hb, h⟩
  · cases h
theorem nfw7 : nativeFrameWords "java/lang/System" "arraycopy" 5 = 7 := by decide +kernel
theorem take_tr (ad : Nat → Nat) (st : List Value) (n : Nat) : ((st.take n).reverse).map (tr ad) = ((st.map (tr ad)).take n).reverse := by
  rw [List.map_reverse, List.map_take]
theorem st_split (ad : Nat → Nat) (st : List Value) (n : Nat) : st.map (tr ad) = (((st.take n).reverse).map (tr ad)).reverse ++ (st.drop n).map (tr ad) := by
  rw [List.map_reverse, List.reverse_reverse, ← List.map_append, List.take_append_drop]
theorem ac_stc (hC : Cx M Q Z p l e R s m args below meth cc ad cA D A xs L) {a : KT} (ha : ∀ pc c ls st h, a pc c ls st h → AtC M Z p l e R s m args below meth cc ad cA D A xs L pc c ls st h) (hk : ∀ pc c ls st h, k pc c ls st h → AtC M Z p l e R s m args below meth cc ad cA D A xs L pc c ls st h)
    {idx kind n rt rc mcv : Nat} {hs : List Nat} {M' : MI} (hM' : MOK M')
    (hd : match kind with
      | 0 => decode M.b pc = .ok (.invokevirtual idx, 3)
      | 5 => decode M.b pc = .ok (.invokevirtual idx, 3)
      | _ => decode M.b pc = .ok (.invokestatic idx, 3))
    (hB : calB M M' n mcv rt = true) (hH : okI.hsOk M pc hs = true)
    (hKd : match kind with
      | 0 => M'.sk = 0 ∧ Cond.methodLink M.y.cls idx M'.y ∈ tbG ∧ ∃ (C : String) (T : u_T) (N : Nat), pmCl[rc]? = some (C, T, N) ∧ M'.y.cls = C
      | 1 => M'.sk = 1 ∧ Cond.methodLink M.y.cls idx M'.y ∈ tbG
      | 3 => M'.sk = 2 ∧ Cond.methodLink M.y.cls idx M'.y ∈ tbG
      | 2 => M'.sk = 1 ∧ Cond.methodLinkNest M.y.cls idx M'.y RX11 ∈ XW
      | 5 => M'.sk = 0 ∧ Cond.methodLink M.y.cls idx M'.y ∈ tbG ∧ M'.y.cls = cNm rc
      | _ => False)
    (hs9 : stc MetPM M Q a k pc M' kind n rt rc mcv hs c ls st h) : AtC M Z p l e R s m args below meth cc ad cA D A xs L pc c ls st h := by
  intro H locs cells slots lsA hW hl h1 h2 h3
  have hC0 := hC
  obtain ⟨⟨hx, hb, hml, hown, hts⟩, hK, hA, hCF, hxw, hsc, hst, hroom, htab, hend, hthr, hprop⟩ := hC
  obtain ⟨e1, e2, e3, e4, e5, e6⟩ := calB_of hB
  subst e1
  have hR : (rmM M').frames + 1 ≤ R.frames ∧ 8 + (M'.nl + 11) + (rmM M').locals ≤ R.locals := ⟨by show M'.fr + 1 ≤ _; omega, by show 8 + (M'.nl + 11) + M'.lo ≤ _; omega⟩
  have hcap : c + M'.cap ≤ M.cap → cells + M'.cap ≤ R.cells ∧ slots + 6 * M'.cap ≤ R.slots := fun h9 => ⟨by omega, by omega⟩
  have hini : (Cond.initialized M'.y.cls).before args s = true := hts _ hM'.2.1
  have hcode0 : headM M' ∈ tbG := hM'.1
  have goW : ∀ (rest : List Value) (as : List Value) (aa : Array Value), c + M'.cap ≤ M.cap → MetPM M' as h (conk rt (hnd Q a (c + M'.cap) ls hs) (fun vs h' => k (pc + 3) (c + M'.cap) ls (vs ++ rest) h')) →
      (∀ (Q' : Res → PH → Prop), MetPM M' as h Q' → vx_Run p l e R s m args below meth cc H locs cells slots M'.cap (6 * M'.cap) (F0 m pc lsA (st.map (tr ad))) (rest.map (tr ad)) (QcM ad cA D xs L H.size Q' aa) (XcM ad cA D xs L H.size Q') (adA ad H.size)) →
      W p l e R s m args below meth cc H locs cells slots Z (F0 m pc lsA (st.map (tr ad))) := by
    intro rest as aa hcp hmp hrun
    refine ac_run (M' := M') hA hW (hrun _ hmp) ?_ ?_
    · intro x h' H1 locs1 q ce hq hW1 hce hcv hcl
      exact ac_hnd hC0 ha hH (conk_inr hq) hW1 hl (by omega) (by omega) hcp hce hcv hcl
    · intro v h' H1 locs1 hq hW1
      have hq1 : k (pc + 3) (c + M'.cap) ls (v.toList ++ rest) h' := conk_inl (kk := fun vs h' => k (pc + 3) (c + M'.cap) ls (vs ++ rest) h') hq
      have := hk _ _ _ _ _ hq1 H1 locs1 (cells + M'.cap) (slots + 6 * M'.cap) lsA hW1 hl (by omega) (by omega) hcp
      rw [List.map_append, ← tr_toList] at this
      exact this
  have hmet : ∀ (as : List Value) (Q' : Res → PH → Prop), MetPM M' as h Q' → vx_Met l M'.y (wsM M') (rmM M') (va_Pc (as.map (tr ad)) (PcM ad cA D xs L H.size h)) (QcM ad cA D xs L H.size Q') (XcM ad cA D xs L H.size Q') M'.cap (6 * M'.cap) (adA ad H.size) := fun as Q' hmp => hmp l ad cA D xs L H.size hst
  have hpre := fun (As : List Value) => pc_start (As := As) hK hA hCF hxw hW
  unfold stc at hs9
  match kind, hd, hKd, hs9 with
  | 0, hd, hKd, hs9 =>
    obtain ⟨hsk, hlink, C, T, N, hci, hcls⟩ := hKd
    obtain ⟨-, -, -, hx3⟩ := id hM'
    rw [hsk] at hx3
    obtain ⟨hhh, hinst, hsel⟩ := hx3
    have hhead : headM M' = Cond.code M'.y M'.b M'.nl M'.ret := by unfold headM; rw [hhh]
    simp only at hs9
    split at hs9
    · rename_i b rest hdrop
      have hlen : (st.take n).length = n := by
        rw [List.length_take]
        have h9 := congrArg List.length hdrop
        rw [List.length_drop, List.length_cons] at h9
        omega
      unfold obIf at hs9
      split at hs9
      · rename_i hob
        obtain ⟨rs, hkd⟩ := obC_of hob
        obtain ⟨h8, hs9⟩ := cat8_of hs9
        obtain ⟨hcp, hmp⟩ := capk_of hs9 h3
        refine goW rest _ (Value.ref (ad b) :: ((st.take n).reverse.map (tr ad))).toArray hcp hmp ?_
        intro Q' hQ'
        have hst9 : st.map (tr ad) = ((st.take n).reverse.map (tr ad)).reverse ++ Value.ref (ad b) :: rest.map (tr ad) := by
          rw [st_split ad st n, hdrop]
          rfl
        refine vx_runV (g := F0 m pc lsA (st.map (tr ad))) (C := M'.y.cls) (y := M'.y) (bytes := M'.b) (maxL := M'.nl) (ret := M'.ret) (n := n) (b := ad b) (As := (st.take n).reverse.map (tr ad)) (rest := rest.map (tr ad)) (Ts := tbG) ⟨hx, hb, hml, hown, hts⟩ (hmet _ _ hQ') ⟨callB_of n hts (wsM_good hM') (by unfold wsM; rw [hhead]) rfl rfl hini (hts _ hlink) ⟨e4, e5, e6⟩ hR, hts _ hinst, hts _ hsel⟩ ⟨(hpre _).1, ?_, fun U hU hWU => (hpre (.ref b :: (st.take n).reverse)).2 U hU hWU⟩ rfl (by rw [List.length_map, List.length_reverse]; exact hlen) hl.1 hst9 (lv_room (by rw [cat_tr]; exact h8)) hd (hcap hcp)
        have hrecv := va_recv (q := (C, T, N)) hK hW.1 (ci := rc) (q0 := b) hci (wd_ob hkd)
        rw [hcls]
        exact hrecv
      · cases hs9
    · cases hs9
  | 5, hd, hKd, hs9 =>
    obtain ⟨hsk, hlink, hcls⟩ := hKd
    obtain ⟨-, -, -, hx3⟩ := id hM'
    rw [hsk] at hx3
    obtain ⟨hhh, hinst, hsel⟩ := hx3
    have hhead : headM M' = Cond.code M'.y M'.b M'.nl M'.ret := by unfold headM; rw [hhh]
    simp only at hs9
    split at hs9
    · rename_i b rest hdrop
      have hlen : (st.take n).length = n := by
        rw [List.length_take]
        have h9 := congrArg List.length hdrop
        rw [List.length_drop, List.length_cons] at h9
        omega
      obtain ⟨hco, hs9⟩ := hs9
      obtain ⟨h8, hs9⟩ := cat8_of hs9
      obtain ⟨hcp, hmp⟩ := capk_of hs9 h3
      refine goW rest _ (Value.ref (ad b) :: ((st.take n).reverse.map (tr ad))).toArray hcp hmp ?_
      intro Q' hQ'
      have hst9 : st.map (tr ad) = ((st.take n).reverse.map (tr ad)).reverse ++ Value.ref (ad b) :: rest.map (tr ad) := by
        rw [st_split ad st n, hdrop]
        rfl
      refine vx_runV (g := F0 m pc lsA (st.map (tr ad))) (C := M'.y.cls) (y := M'.y) (bytes := M'.b) (maxL := M'.nl) (ret := M'.ret) (n := n) (b := ad b) (As := (st.take n).reverse.map (tr ad)) (rest := rest.map (tr ad)) (Ts := tbG) ⟨hx, hb, hml, hown, hts⟩ (hmet _ _ hQ') ⟨callB_of n hts (wsM_good hM') (by unfold wsM; rw [hhead]) rfl rfl hini (hts _ hlink) ⟨e4, e5, e6⟩ hR, hts _ hinst, hts _ hsel⟩ ⟨(hpre _).1, ?_, fun U hU hWU => (hpre (.ref b :: (st.take n).reverse)).2 U hU hWU⟩ rfl (by rw [List.length_map, List.length_reverse]; exact hlen) hl.1 hst9 (lv_room (by rw [cat_tr]; exact h8)) hd (hcap hcp)
      rw [hcls]
      exact va_Orecv (hCF.2.2.2.1 rc b hco) hW.2.2.1
    · cases hs9
  | 1, hd, hKd, hs9 =>
    obtain ⟨hsk, hlink⟩ := hKd
    obtain ⟨-, -, -, hx3⟩ := id hM'
    rw [hsk] at hx3
    obtain ⟨hhh, hstat⟩ := hx3
    have hhead : headM M' = Cond.code M'.y M'.b M'.nl M'.ret := by unfold headM; rw [hhh]
    simp only at hs9
    obtain ⟨hlen0, hs9⟩ := len9_of hs9
    have hlen : (st.take n).length = n := by rw [List.length_take]; omega
    obtain ⟨h8, hs9⟩ := cat8_of hs9
    obtain ⟨hcp, hmp⟩ := capk_of hs9 h3
    refine goW (st.drop n) _ ((st.take n).reverse.map (tr ad)).toArray hcp hmp ?_
    intro Q' hQ'
    exact vx_runS (g := F0 m pc lsA (st.map (tr ad))) (y := M'.y) (bytes := M'.b) (maxL := M'.nl) (ret := M'.ret) (n := n) (As := (st.take n).reverse.map (tr ad)) (rest := (st.drop n).map (tr ad)) (Ts := tbG) ⟨hx, hb, hml, hown, hts⟩ (hmet _ _ hQ') ⟨callB_of n hts (wsM_good hM') (by unfold wsM; rw [hhead]) rfl rfl hini (hts _ hlink) ⟨e4, e5, e6⟩ hR, hts _ hstat⟩ (hpre _) rfl (by rw [List.length_map, List.length_reverse]; exact hlen) hl.1 (st_split ad st n) (lv_room (by rw [cat_tr]; exact h8)) hd (hcap hcp)
  | 2, hd, hKd, hs9 =>
    obtain ⟨hsk, hlink⟩ := hKd
    obtain ⟨-, -, -, hx3⟩ := id hM'
    rw [hsk] at hx3
    obtain ⟨hhh, hstat⟩ := hx3
    have hhead : headM M' = Cond.code M'.y M'.b M'.nl M'.ret := by unfold headM; rw [hhh]
    simp only at hs9
    obtain ⟨hlen0, hs9⟩ := len9_of hs9
    have hlen : (st.take n).length = n := by rw [List.length_take]; omega
    obtain ⟨h8, hs9⟩ := cat8_of hs9
    obtain ⟨hcp, hmp⟩ := capk_of hs9 h3
    refine goW (st.drop n) _ ((st.take n).reverse.map (tr ad)).toArray hcp hmp ?_
    intro Q' hQ'
    exact pm_runSN (g := F0 m pc lsA (st.map (tr ad))) (host := RX11) (y := M'.y) (bytes := M'.b) (maxL := M'.nl) (ret := M'.ret) (n := n) (As := (st.take n).reverse.map (tr ad)) (rest := (st.drop n).map (tr ad)) (Ts := tbG) ⟨hx, hb, hml, hown, hts⟩ (hmet _ _ hQ') ⟨va_cnB n hts (wsM_good hM') (by unfold wsM; rw [hhead]) rfl rfl (hxw.1 _ hlink) hini ⟨e4, e5, e6⟩ hR, hts _ hstat⟩ (hpre _) rfl (by rw [List.length_map, List.length_reverse]; exact hlen) hl.1 (st_split ad st n) (lv_room (by rw [cat_tr]; exact h8)) hd (hcap hcp)
  | 3, hd, hKd, hs9 =>
    obtain ⟨hsk, hlink⟩ := hKd
    obtain ⟨-, -, -, hx3⟩ := id hM'
    rw [hsk] at hx3
    obtain ⟨hhh, hstat⟩ := hx3
    have hhead : headM M' = Cond.codeWith M'.y M'.b M'.nl M'.ret M'.hh := by
      unfold headM
      split
      · rename_i h9; exact absurd h9 hhh
      · rfl
    simp only at hs9
    obtain ⟨hlen0, hs9⟩ := len9_of hs9
    have hlen : (st.take n).length = n := by rw [List.length_take]; omega
    obtain ⟨h8, hs9⟩ := cat8_of hs9
    obtain ⟨hcp, hmp⟩ := capk_of hs9 h3
    refine goW (st.drop n) _ ((st.take n).reverse.map (tr ad)).toArray hcp hmp ?_
    intro Q' hQ'
    have hT : GoodIn tbG (va_wsS M.y.cls idx M'.y (wsM M')) := by
      intro w hw
      unfold va_wsS at hw
      rcases List.mem_append.mp hw with hw | hw
      · simp only [List.mem_cons, List.mem_nil_iff, or_false] at hw
        rcases hw with rfl | rfl | rfl
        · exact tbG_good _ hlink
        · exact tbG_good _ hstat
        · exact tbG_good _ hM'.2.1
      · exact wsM_good hM' w hw
    exact vx_runSX (hh := M'.hh) (g := F0 m pc lsA (st.map (tr ad))) (y := M'.y) (bytes := M'.b) (maxL := M'.nl) (ret := M'.ret) (n := n) (As := (st.take n).reverse.map (tr ad)) (rest := (st.drop n).map (tr ad)) (Ts := tbG) ⟨hx, hb, hml, hown, hts⟩ (hmet _ _ hQ') (vx_cwSW n hts hT (by unfold wsM; rw [hhead]) rfl rfl ⟨e4, e5, e6⟩ hR) (hpre _) rfl (by rw [List.length_map, List.length_reverse]; exact hlen) hl.1 (st_split ad st n) (lv_room (by rw [cat_tr]; exact h8)) hd (hcap hcp)
  | 4, hd, hKd, hs9 => exact hKd.elim
  | k9 + 6, hd, hKd, hs9 => exact hKd.elim
theorem ow_code : Cond.code yJx29ce0_ordinal_8abf5 cJx29ce0_ordinal_8abf5 1 (some .int) ∈ tbG := tbG_at (p := 496) (by decide +kernel)
theorem ow_fl : Cond.fieldLink "java/lang/Enum" 7 "java/lang/Enum" "ordinal" "I" ∈ tbG := tbG_at (p := 1845) (by decide +kernel)
theorem ow_inst : Cond.instanceMethod yJx29ce0_ordinal_8abf5 ∈ tbG := tbG_at (p := 495) (by decide +kernel)
theorem ow_ini : Cond.initialized "java/lang/Enum" ∈ tbG := tbG_at (p := 34) (by decide +kernel)
theorem ow_20 : Cond.sameMethod (cNm 20) "java/lang/Enum" "ordinal" "()I" ∈ tbG ∧ Cond.selects (cNm 20) ⟨cNm 20, "ordinal", "()I"⟩ yJx29ce0_ordinal_8abf5 ∈ tbG := ⟨tbG_at (p := 492) (by decide +kernel), tbG_at (p := 494) (by decide +kernel)⟩
theorem no21 {a : Nat} : ¬ cOk a 21 := fun h => by rcases h with ⟨q, -⟩ | ⟨-, q1, q2⟩ | ⟨q, -⟩
                                                   · cases q
                                                   · omega
                                                   · cases q
theorem od_0 : decode cJx29ce0_ordinal_8abf5 0 = .ok (.aload_n 0, 1) := by decide +kernel
theorem od_1 : decode cJx29ce0_ordinal_8abf5 1 = .ok (.getfield 7, 3) := by decide +kernel
theorem od_4 : decode cJx29ce0_ordinal_8abf5 4 = .ok (.ireturn, 1) := by decide +kernel
/-- Enum.ordinal(), of a constant -/
theorem c_ordinal (l : Launch) (t : Nat) (v : Int32) : Met l yJx29ce0_ordinal_8abf5 (.code yJx29ce0_ordinal_8abf5 cJx29ce0_ordinal_8abf5 1 (some .int) :: tbG) ({ frames := 0, cells := 0, slots := 0, locals := 0 }) (va_Pc [.ref t] (fun U => va_OF "java/lang/Enum" "ordinal" "I" (.int v) t (fun _ => False) U U.heap)) (va_Qi (fun (r : Int32) (_ : Unit) => r = v) (fun _ _ => True) (fun _ => False)) 0 0 (fun _ => False) := by
  refine Met.ofW (cc := cJx29ce0_ordinal_8abf5) (maxL := 1) (ret := some .int) (by decide +kernel) rfl ?_
  intro p e s m args below meth c s₁ B hml hv
  obtain ⟨rfl, hE⟩ := hv
  have hx := B.exec
  have hb := B.bytes
  have hr := B.returns
  have hts := atoms_spec (ws := .code yJx29ce0_ordinal_8abf5 cJx29ce0_ordinal_8abf5 1 (some .int) :: tbG) B.pre
  have hown : s.vm.findClass "java/lang/Enum" = some m.cls := findClass_of_methodNamed B.named
  have hlocks := B.notSynchronized
  have hl := lv_entry ([.ref t]) (n := 1) (Nat.le_of_ble_eq_true rfl)
  rw [lg_entry_eq]
  generalize (lg_sl ([.ref t]) ++ List.replicate (1 - (lg_sl ([.ref t])).length) Slot.unset).toArray = ls at hl ⊢
  have hl : lv_has ls 1 [(0, .ref t)] := hl
  have hS : va_S (fun _ => False) s.heap s.heap [] := va_S.rf
  refine lv_aload_n hx hb od_0 rfl (lv_at hl 0 rfl) ?_
  refine vk_getf hx hb hE hS hown (hts _ (List.mem_cons_of_mem _ ow_fl)) (fun _ h9 => h9) od_1 ?_
  exact W.iret hx hb hr (fun t ht hW => ⟨⟨v, (), rfl, rfl, trivial⟩, hS.F ht⟩) hS.2.2 od_4
theorem ac_ord (hC : Cx M Q Z p l e R s m args below meth cc ad cA D A xs L) (hk : ∀ pc c ls st h, k pc c ls st h → AtC M Z p l e R s m args below meth cc ad cA D A xs L pc c ls st h) {idx ci : Nat} {a : Nat} {r : List Value} (hci : ci = 20 ∨ ci = 21) (hd : decode M.b pc = .ok (.invokevirtual idx, 3)) (hR : okI.jdkR M = true)
    (hlink : Cond.methodLink M.y.cls idx ⟨cNm ci, "ordinal", "()I"⟩ ∈ tbG) (hco : cOk a ci) (hs : cat8 r (k (pc + 3) c ls (.int (cfv a 9) :: r) h)) : AtC M Z p l e R s m args below meth cc ad cA D A xs L pc c ls (.ref a :: r) h := by
  intro H locs cells slots lsA hW hl h1 h2 h3
  obtain ⟨⟨hx, hb, hml, hown, hts⟩, hK, hA, hCF, hxw, hsc, hst, hroom, htab, hend, hthr, hprop⟩ := hC
  simp only [okI.jdkR, Bool.and_eq_true] at hR
  have r1 := Nat.le_of_ble_eq_true hR.1
  have r2 := Nat.le_of_ble_eq_true hR.2
  obtain ⟨h8, hs⟩ := cat8_of hs
  have hE : va_OF "java/lang/Enum" "ordinal" "I" (.int (cfv a 9)) (ad a) A s s.heap := by
    rcases hci with rfl | rfl
    · exact hCF.2.2.1 20 9 _ _ _ false rfl a hco
    · exact absurd hco no21
  have hw2 : Cond.sameMethod (cNm ci) "java/lang/Enum" "ordinal" "()I" ∈ tbG ∧ Cond.selects (cNm ci) ⟨cNm ci, "ordinal", "()I"⟩ yJx29ce0_ordinal_8abf5 ∈ tbG := by
    rcases hci with rfl | rfl
    · exact ow_20
    · exact absurd hco no21
  have hG : GoodIn tbG (va_wsU M.y.cls idx (cNm ci) "java/lang/Enum" ⟨cNm ci, "ordinal", "()I"⟩ yJx29ce0_ordinal_8abf5 (.code yJx29ce0_ordinal_8abf5 cJx29ce0_ordinal_8abf5 1 (some .int) :: tbG)) := by
    intro w hw
    unfold va_wsU at hw
    rcases List.mem_append.mp hw with hw | hw
    · simp only [List.mem_cons, List.mem_nil_iff, or_false] at hw
      rcases hw with rfl | rfl | rfl | rfl | rfl
      · exact tbG_good _ hlink
      · exact tbG_good _ hw2.1
      · exact tbG_good _ hw2.2
      · exact tbG_good _ ow_inst
      · exact tbG_good _ ow_ini
    · rcases List.mem_cons.mp hw with rfl | hw
      · exact tbG_good _ ow_code
      · exact tbG_good _ hw
  have hEH := hE.kept (fun a h1 h2 => hW.2.2.1.2.1 a h1 h2)
  refine va_calli (A1 := fun _ => False) (free := fun _ => False) (va_runU (g := F0 m pc lsA ((Value.ref a :: r).map (tr ad))) (C := cNm ci) (owner := "java/lang/Enum") (x := ⟨cNm ci, "ordinal", "()I"⟩) (b := ad a) (As := []) (rest := r.map (tr ad)) (Ts := tbG) (nL := M.nl) (n := 0) ⟨hx, hb, hml, hown, hts⟩ (c_ordinal l (ad a) (cfv a 9)) (va_cwU 0 hts hG rfl rfl rfl rfl ⟨by decide, by decide, by show (parseMethodDescriptor "()I").map (fun d => d.parameters.length) = some 0; decide +kernel⟩ ⟨by show 0 + 1 ≤ R.frames; omega, by show 8 + (1 + 11) + 0 ≤ R.locals; omega⟩) ⟨?_, ?_, ?_⟩ rfl rfl hl.1 rfl (lv_room (by rw [cat_tr]; exact h8)) hd ⟨by omega, by omega⟩) hW.2.2.1 (fun _ _ h9 => h9.elim) (fun _ h9 => h9.elim) ?_
  · intro a9 U g mk q
    obtain ⟨q0, q1⟩ := q
    exact ⟨q0, q1.moved (u := U) (U := U.calling g mk a9) (Vm.Alike.refl U.vm)⟩
  · exact va_Orecv (hCF.2.2.2.1 ci a hco) hW.2.2.1
  · intro U hU hWU
    refine ⟨rfl, ?_⟩
    show va_OF _ _ _ _ _ _ U U.heap
    rw [hU]
    exact (hEH.moved hWU.alike).narrow (fun _ h9 => h9.elim)
  · intro r9 u t H1 locs1 ht hvm hw hB hz hk1 hS
    rw [hw]
    exact hk _ _ _ _ _ hs H1 locs1 cells slots lsA ⟨hW.1.kept (fun k9 q hq => hk1 q.1 (hW.1 k9 q hq).lt (fun z => z)), hW.2.1, hS, hW.2.2.2⟩ hl h1 h2 h3
theorem c_inj (hCF : CF ad A s s.heap) {x y : Nat} (hx : cOk x 21) (hy : cOk y 21) (h : ad x = ad y) : x = y := by
  exact absurd hx no21
theorem wd_sar {ad : Nat → Nat} {cA : Nat → ClassId} {h : PH} {a n k v : Nat} (hk : kd a = some (.inr (5, n))) : (wd ad cA h).set a (ad a, .inl (cA 5, n, .inr (.inr (.inr (.inr (va_up (fun j => (h.2.2.1 a j).map ad) k (some (ad v)))))))) = wd ad cA (sr h a k (some v)) := by
  refine wd_upd (kd_lt hk) (fun b hb => cellE_eq (h := h) (h' := sr h a k (some v)) rfl rfl (up2_a _ _ _ hb) rfl _) ?_
  rw [hk]
  have e : (fun j => (up2 h.2.2.1 a k (some v) a j).map ad) = va_up (fun j => (h.2.2.1 a j).map ad) k (some (ad v)) := by
    funext j
    simp only [up2, va_up, if_true]
    split <;> rfl
  show Sum.inl (cA 5, n, Sum.inr (Sum.inr (Sum.inr (Sum.inr (fun j => (up2 h.2.2.1 a k (some v) a j).map ad))))) = _
  rw [e]
theorem ac_aast (hC : Cx M Q Z p l e R s m args below meth cc ad cA D A xs L) (hk : ∀ pc c ls st h, k pc c ls st h → AtC M Z p l e R s m args below meth cc ad cA D A xs L pc c ls st h) {x b n : Nat} {i : Int32} {r : List Value} (hd : decode M.b pc = .ok (.aastore, 1)) (hn : arN b 5 = some n) (hco : cOk x 21) (hin : vp_in i n) (hs : k (pc + 1) c ls r (sr h b i.toNatClampNeg (some x))) : AtC M Z p l e R s m args below meth cc ad cA D A xs L pc c ls (.ref x :: .int i :: .ref b :: r) h := by
  intro H locs cells slots lsA hW hl h1 h2 h3
  obtain ⟨⟨hx, hb, hml, hown, hts⟩, hK, hA, hCF, hxw, hsc, hst, hroom, htab, hend, hthr, hprop⟩ := hC
  have hkd := arN_of hn
  have hany : va_Any "WaveUpgrade$Command" s H (ad x) := by
    obtain ⟨cell, q1, q2, q3⟩ := va_Orecv (hCF.2.2.2.1 21 x hco) hW.2.2.1
    obtain ⟨kC, q4, -⟩ := Vm.findClass_spec q3
    refine ⟨cell, q1, q2, ⟨kC, q4⟩, fun comp hcomp => ?_⟩
    have hce := Option.some.inj (q3.symm.trans hcomp)
    rw [hce]
    first | exact Vm.assignable_self _ _ | exact assignable_self _ _ | simp [Vm.assignable]
  refine va_astqM hx hb hK hW.1 hW.2.1 hW.2.2.1 b 5 (wd_ar hkd) (ty_at cA).2.2.2.2.2 hany hin hd ?_
  intro H1 locs1 hP hD hS
  have e9 := wd_sar (ad := ad) (cA := cA) (h := h) (a := b) (n := n) (k := i.toNatClampNeg) (v := x) hkd
  have hP' : va_P D pmCl (wd ad cA (sr h b i.toNatClampNeg (some x))) H1 := by rw [← e9]; exact hP
  have hD' : va_D A (wd ad cA (sr h b i.toNatClampNeg (some x))) := by rw [← e9]; exact hD
  exact hk _ _ _ _ _ hs H1 locs1 cells slots lsA ⟨hP', hD', hS, scr_sr (kd_lt hkd) hW.2.2.2⟩ hl h1 h2 h3
theorem ac_stac (hC : Cx M Q Z p l e R s m args below meth cc ad cA D A xs L) (hk : ∀ pc c ls st h, k pc c ls st h → AtC M Z p l e R s m args below meth cc ad cA D A xs L pc c ls st h) {t : Nat}
    (hd : match t with
      | 0 => decode M.b pc = .ok (.iaload, 1)
      | 1 => decode M.b pc = .ok (.baload, 1)
      | 6 => decode M.b pc = .ok (.iaload, 1)
      | _ => decode M.b pc = .ok (.aaload, 1)) (ht : t = 0 ∨ t = 1 ∨ t = 4 ∨ t = 5 ∨ (t = 6 ∧ M.sk = 3)) (hs : stac k t pc c ls st h) : AtC M Z p l e R s m args below meth cc ad cA D A xs L pc c ls st h := by
  intro H locs cells slots lsA hW hl h1 h2 h3
  obtain ⟨⟨hx, hb, hml, hown, hts⟩, hK, hA, hCF, hxw, hsc, hst, hroom, htab, hend, hthr, hprop⟩ := hC
  unfold stac at hs
  split at hs
  · rename_i i b r
    have go : ∀ (st' : List Value), k (pc + 1) c ls st' h → W p l e R s m args below meth cc H locs cells slots Z (F0 m (pc + 1) lsA (st'.map (tr ad))) := fun st' h9 => hk _ _ _ _ _ h9 H locs cells slots lsA hW hl h1 h2 h3
    rcases ht with rfl | rfl | rfl | rfl | ⟨rfl, h9⟩
    · obtain ⟨q1, q2, q3⟩ := hs
      exact va_ti hx hb (hCF.2.2.2.2.1 0 b q1) hW.2.2.1 q2 rfl hd (go _ q3)
    · obtain ⟨q1, q2, q3⟩ := hs
      exact va_tb hx hb (hCF.2.2.2.2.1 1 b q1) hW.2.2.1 q2 rfl hd (go _ q3)
    · obtain ⟨q1, q2, q3⟩ := hs
      exact vb_tq hx hb (hCF.2.2.2.2.1 4 b q1) hW.2.2.1 q2 rfl hd (go _ q3)
    · obtain ⟨q1, q2, q3⟩ := hs
      exact vb_tq hx hb (hCF.2.2.2.2.1 5 b q1) hW.2.2.1 q2 rfl hd (go _ q3)
    · exact hs.elim
  · cases hs
theorem ac_stln (hC : Cx M Q Z p l e R s m args below meth cc ad cA D A xs L) (hk : ∀ pc c ls st h, k pc c ls st h → AtC M Z p l e R s m args below meth cc ad cA D A xs L pc c ls st h) {t : Nat}
    (hd : decode M.b pc = .ok (.arraylength, 1)) (ht : t = 0 ∨ t = 1 ∨ t = 4 ∨ t = 5 ∨ (t = 6 ∧ M.sk = 3)) (hs : stln k t pc c ls st h) : AtC M Z p l e R s m args below meth cc ad cA D A xs L pc c ls st h := by
  intro H locs cells slots lsA hW hl h1 h2 h3
  obtain ⟨⟨hx, hb, hml, hown, hts⟩, hK, hA, hCF, hxw, hsc, hst, hroom, htab, hend, hthr, hprop⟩ := hC
  unfold stln at hs
  split at hs
  · rename_i b r
    have go : ∀ (st' : List Value), k (pc + 1) c ls st' h → W p l e R s m args below meth cc H locs cells slots Z (F0 m (pc + 1) lsA (st'.map (tr ad))) := fun st' h9 => hk _ _ _ _ _ h9 H locs cells slots lsA hW hl h1 h2 h3
    split at hs
    · exact hs.elim
    · obtain ⟨q1, q3⟩ := hs
      exact va_tlen hx hb (hCF.2.2.2.2.1 t b q1) hW.2.2.1 rfl hd (go _ q3)
  · cases hs
theorem ac_stb (hC : Cx M Q Z p l e R s m args below meth cc ad cA D A xs L) (hk : ∀ pc c ls st h, k pc c ls st h → AtC M Z p l e R s m args below meth cc ad cA D A xs L pc c ls st h) {idx kind : Nat} (hne : kind ≠ 20 ∧ kind ≠ 21) (hd : decode M.b pc = .ok (.invokestatic idx, 3)) (hR : okI.jdkR M = true)
    (hKd : match kind with
      | 10 => Cond.methodLink M.y.cls idx Lib.Math.min.name ∈ tbG
      | 11 => Cond.methodLink M.y.cls idx Lib.Math.max.name ∈ tbG
      | 12 => Cond.methodLink M.y.cls idx Lib.Math.abs.name ∈ tbG
      | 13 => Cond.methodLink M.y.cls idx yJ9_floorMod_7cf53 ∈ tbG
      | _ => Cond.methodLink M.y.cls idx arraycopyName ∈ tbG)
    (hs : stb M k pc kind c ls st h) : AtC M Z p l e R s m args below meth cc ad cA D A xs L pc c ls st h := by
  intro H locs cells slots lsA hW hl h1 h2 h3
  obtain ⟨⟨hx, hb, hml, hown, hts⟩, hK, hA, hCF, hxw, hsc, hst, hroom, htab, hend, hthr, hprop⟩ := hC
  simp only [okI.jdkR, Bool.and_eq_true] at hR
  have r1 := Nat.le_of_ble_eq_true hR.1
  have r2 := Nat.le_of_ble_eq_true hR.2
  have hsz : cc.maxLocals = lsA.size := by rw [hml, hl.1]
  have hno : kind ≠ 20 ∧ kind ≠ 21 := hne
  unfold stb at hs
  split at hs
  · exact absurd rfl hno.1
  · exact absurd rfl hno.2
  · split at hs
    · rename_i y x r
      obtain ⟨h8, hs⟩ := cat8_of hs
      exact va_mmin hx hb hsz hown (hts _ hKd) (hts _ mm_min.1) (hts _ mm_min.2.1) (hts _ mm_min.2.2) (by omega) (by rw [cat_tr]; omega) (by omega) (by omega) hd (hk _ _ _ _ _ hs H locs cells slots lsA hW hl h1 h2 h3)
    · cases hs
  · split at hs
    · rename_i y x r
      obtain ⟨h8, hs⟩ := cat8_of hs
      exact va_mmax hx hb hsz hown (hts _ hKd) (hts _ mm_max.1) (hts _ mm_max.2.1) (hts _ mm_max.2.2) (by omega) (by rw [cat_tr]; omega) (by omega) (by omega) hd (hk _ _ _ _ _ hs H locs cells slots lsA hW hl h1 h2 h3)
    · cases hs
  · split at hs
    · rename_i x r
      obtain ⟨h8, hs⟩ := cat8_of hs
      exact va_mabs hx hb hsz hown (hts _ hKd) (hts _ mm_abs.1) (hts _ mm_abs.2.1) (hts _ mm_abs.2.2) (by omega) (by rw [cat_tr]; omega) (by omega) (by omega) hd (hk _ _ _ _ _ hs H locs cells slots lsA hW hl h1 h2 h3)
    · cases hs
  · split at hs
    · rename_i y x r
      obtain ⟨h7, hs⟩ := hs
      obtain ⟨h8, hs⟩ := cat8_of hs
      exact va_fmod hx hb hsz hown (hts _ hKd) (hts _ mm_fmod.1) (hts _ mm_fmod.2.1) (hts _ mm_fmod.2.2) (by omega) (by rw [cat_tr]; omega) (by omega) (by omega) h7 hd (hk _ _ _ _ _ hs H locs cells slots lsA hW hl h1 h2 h3)
    · cases hs
  · split at hs
    · rename_i n dp b sp a r
      split at hs
      · rename_i n0 n1 g0 g1
        obtain ⟨h8, hs⟩ := cat8_of hs
        obtain ⟨⟨u1, u2, u3, u4, u5⟩, hs⟩ := hs
        have k0 := arN_of g0
        have k1 := arN_of g1
        refine va_copyi hx hb hsz hown (hts _ hKd) (hts _ mm_cpy.1) (hts _ mm_cpy.2.1) (hts _ mm_cpy.2.2) hK hW.1 hW.2.1 hW.2.2.1 a b 0 0 (wd_ar k0) (wd_ar k1) (ty_at cA).1 (ty_at cA).1 rfl u1 u2 u3 u4 u5 (fun i _ => rfl) (by omega) (by rw [cat_tr, nfw7]; omega) hd ?_
        intro H1 locs1 hP hD hS
        have e9 := wd_cpi (ad := ad) (cA := cA) (h := h) (a := a) (sp := sp.toNatClampNeg) (dp := dp.toNatClampNeg) (m := n.toNatClampNeg) k1
        have hP' : va_P D pmCl (wd ad cA (cpi h a sp.toNatClampNeg b dp.toNatClampNeg n.toNatClampNeg)) H1 := by rw [← e9]; exact hP
        have hD' : va_D A (wd ad cA (cpi h a sp.toNatClampNeg b dp.toNatClampNeg n.toNatClampNeg)) := by rw [← e9]; exact hD
        exact hk _ _ _ _ _ hs H1 locs1 cells slots lsA ⟨hP', hD', hS, scr_cpi (kd_lt k1) hW.2.2.2⟩ hl h1 h2 h3
      · cases hs
    · cases hs
  · split at hs
    · rename_i n dp b sp a r
      split at hs
      · rename_i n0 n1 g0 g1
        obtain ⟨h8, hs⟩ := cat8_of hs
        obtain ⟨⟨u1, u2, u3, u4, u5⟩, hs⟩ := hs
        have k0 := arN_of g0
        have k1 := arN_of g1
        refine va_copyl hx hb hsz hown (hts _ hKd) (hts _ mm_cpy.1) (hts _ mm_cpy.2.1) (hts _ mm_cpy.2.2) hK hW.1 hW.2.1 hW.2.2.1 a b 2 2 (wd_ar k0) (wd_ar k1) (ty_at cA).2.2.1 (ty_at cA).2.2.1 rfl u1 u2 u3 u4 u5 (fun i _ => rfl) (by omega) (by rw [cat_tr, nfw7]; omega) hd ?_
        intro H1 locs1 hP hD hS
        have e9 := wd_cpl (ad := ad) (cA := cA) (h := h) (a := a) (sp := sp.toNatClampNeg) (dp := dp.toNatClampNeg) (m := n.toNatClampNeg) k1
        have hP' : va_P D pmCl (wd ad cA (cpl h a sp.toNatClampNeg b dp.toNatClampNeg n.toNatClampNeg)) H1 := by rw [← e9]; exact hP
        have hD' : va_D A (wd ad cA (cpl h a sp.toNatClampNeg b dp.toNatClampNeg n.toNatClampNeg)) := by rw [← e9]; exact hD
        exact hk _ _ _ _ _ hs H1 locs1 cells slots lsA ⟨hP', hD', hS, scr_cpl (kd_lt k1) hW.2.2.2⟩ hl h1 h2 h3
      · cases hs
    · cases hs
  · cases hs
theorem exI {x : Nat} (h : x < 3) : Cond.initialized (exN x) ∈ tbG := by
  match x, h with
  | 0, _ => exact tbG_at (p := 32) (by decide +kernel)
  | 1, _ => exact tbG_at (p := 33) (by decide +kernel)
  | 2, _ => exact tbG_at (p := 37) (by decide +kernel)
theorem beq_of {a b : Nat} (h : Nat.beq a b = true) : a = b := Nat.eq_of_beq_eq_true h
theorem stp_atC (hC : Cx M Q Z p l e R s m args below meth cc ad cA D A xs L) {a : KT} (ha : ∀ pc c ls st h, a pc c ls st h → AtC M Z p l e R s m args below meth cc ad cA D A xs L pc c ls st h) (hk : ∀ pc c ls st h, k pc c ls st h → AtC M Z p l e R s m args below meth cc ad cA D A xs L pc c ls st h)
    {en : En} (hE : okE M en = true) (hms : ∀ M' ∈ en.2.2.2.2, MOK M') (hs : stp MetPM M Q a k en c ls st h) : AtC M Z p l e R s m args below meth cc ad cA D A xs L en.1 c ls st h := by
  obtain ⟨pc, i, len, ax, ms⟩ := en
  have hC0 := hC
  obtain ⟨⟨hx, hb, hml, hown, hts⟩, hK, hA, hCF, hxw, hsc, hst, hroom, htab, hend, hthr, hprop⟩ := hC
  simp only [okE, Bool.and_eq_true, decide_eq_true_eq] at hE
  obtain ⟨hd, hI⟩ := hE
  show AtC M Z p l e R s m args below meth cc ad cA D A xs L pc c ls st h
  have one : ∀ {st' : List Value} {h' : PH} {d : Nat}, k (pc + d) c ls st' h' → h' = h → ∀ (H : Heap) (locs : List Loc) (cells slots : Nat) (lsA : Array Slot), WH ad cA D xs L A h s s.heap H locs → lv_has lsA M.nl (tl ad ls) → cells ≤ c → slots ≤ 6 * c → c ≤ M.cap → W p l e R s m args below meth cc H locs cells slots Z (F0 m (pc + d) lsA (st'.map (tr ad))) := by
    intro st' h' d h9 he H locs cells slots lsA hW hl h1 h2 h3
    subst he
    exact hk _ _ _ _ _ h9 H locs cells slots lsA hW hl h1 h2 h3
  cases i with
  | iconst n =>
    obtain rfl := beq_of hI
    intro H locs cells slots lsA hW hl h1 h2 h3
    exact lv_iconst hx hb hd (cI_ofInt n) (one (d := 1) hs rfl H locs cells slots lsA hW hl h1 h2 h3)
  | bipush n =>
    simp only [okI, Bool.and_eq_true, decide_eq_true_eq] at hI
    obtain ⟨hI, hv⟩ := hI
    obtain rfl := beq_of hI
    intro H locs cells slots lsA hW hl h1 h2 h3
    exact lv_bipush hx hb hd hv (one (d := 2) hs rfl H locs cells slots lsA hW hl h1 h2 h3)
  | sipush n =>
    simp only [okI, Bool.and_eq_true, decide_eq_true_eq] at hI
    obtain ⟨hI, hv⟩ := hI
    obtain rfl := beq_of hI
    intro H locs cells slots lsA hW hl h1 h2 h3
    exact lv_sipush hx hb hd hv (one (d := 3) hs rfl H locs cells slots lsA hW hl h1 h2 h3)
  | lconst n =>
    obtain rfl := beq_of hI
    intro H locs cells slots lsA hW hl h1 h2 h3
    exact lv_lconst hx hb hd rfl (one (d := 1) hs rfl H locs cells slots lsA hW hl h1 h2 h3)
  | fconst f =>
    simp only [okI, Bool.and_eq_true, decide_eq_true_eq] at hI
    obtain ⟨hI, rfl⟩ := hI
    obtain rfl := beq_of hI
    intro H locs cells slots lsA hW hl h1 h2 h3
    exact lv_fconst0 hx hb hd (one (d := 1) hs rfl H locs cells slots lsA hW hl h1 h2 h3)
  | dconst f =>
    simp only [okI, Bool.and_eq_true, decide_eq_true_eq] at hI
    obtain ⟨hI, rfl⟩ := hI
    obtain rfl := beq_of hI
    intro H locs cells slots lsA hW hl h1 h2 h3
    exact lv_dconst0 hx hb hd (one (d := 1) hs rfl H locs cells slots lsA hW hl h1 h2 h3)
  | ldc idx =>
    simp only [okI, Bool.and_eq_true] at hI
    obtain ⟨hI, hv⟩ := hI
    obtain rfl := beq_of hI
    simp only [stp] at hs
    split at hs
    · rename_i n pl
      simp only at hv
      intro H locs cells slots lsA hW hl h1 h2 h3
      exact lv_ldc hx hb hown (hts _ (tbG_at hv)) hd (one (d := 2) hs rfl H locs cells slots lsA hW hl h1 h2 h3)
    · simp only [Bool.and_eq_true, decide_eq_true_eq] at hv
      obtain ⟨q1, q2⟩ := hv
      obtain rfl := beq_of q2
      intro H locs cells slots lsA hW hl h1 h2 h3
      exact va_ldcS hx hb (own := RX1) (by rw [← q1]; exact hown) hxw.2 hd (one (d := 2) hs rfl H locs cells slots lsA hW hl h1 h2 h3)
    · exact hs.elim
  | ldc_w idx =>
    simp only [okI, Bool.and_eq_true] at hI
    obtain ⟨hI, hv⟩ := hI
    obtain rfl := beq_of hI
    simp only [stp] at hs
    split at hs
    · rename_i n pl
      simp only at hv
      intro H locs cells slots lsA hW hl h1 h2 h3
      exact lv_ldcw hx hb hown (hts _ (tbG_at hv)) hd (one (d := 3) hs rfl H locs cells slots lsA hW hl h1 h2 h3)
    · exact hs.elim
  | ldc2_w idx =>
    simp only [okI, Bool.and_eq_true] at hI
    obtain ⟨hI, hv⟩ := hI
    obtain rfl := beq_of hI
    simp only [stp] at hs
    split at hs
    · rename_i n pl
      simp only at hv
      intro H locs cells slots lsA hW hl h1 h2 h3
      exact lv_ldc2 hx hb hown (hts _ (tbG_at hv)) hd (one (d := 3) hs rfl H locs cells slots lsA hW hl h1 h2 h3)
    · exact hs.elim
  | aconst_null =>
    obtain rfl := beq_of hI
    intro H locs cells slots lsA hW hl h1 h2 h3
    exact lv_null hx hb hd (one (d := 1) hs rfl H locs cells slots lsA hW hl h1 h2 h3)
  | iload n =>
    obtain rfl := beq_of hI
    exact ac_stl hx hb hk (q := 0) (n := n) hd hs
  | iload_n n =>
    obtain rfl := beq_of hI
    exact ac_stl_n hx hb hk (q := 0) (n := n) hd hs
  | istore n =>
    obtain rfl := beq_of hI
    exact ac_sts hx hb hk (q := 0) (n := n) hd hs
  | istore_n n =>
    obtain rfl := beq_of hI
    exact ac_sts_n hx hb hk (q := 0) (n := n) hd hs
  | lload n =>
    obtain rfl := beq_of hI
    exact ac_stl hx hb hk (q := 1) (n := n) hd hs
  | lload_n n =>
    obtain rfl := beq_of hI
    exact ac_stl_n hx hb hk (q := 1) (n := n) hd hs
  | lstore n =>
    obtain rfl := beq_of hI
    exact ac_sts hx hb hk (q := 1) (n := n) hd hs
  | lstore_n n =>
    obtain rfl := beq_of hI
    exact ac_sts_n hx hb hk (q := 1) (n := n) hd hs
  | fload n =>
    obtain rfl := beq_of hI
    exact ac_stl hx hb hk (q := 2) (n := n) hd hs
  | fload_n n =>
    obtain rfl := beq_of hI
    exact ac_stl_n hx hb hk (q := 2) (n := n) hd hs
  | fstore n =>
    obtain rfl := beq_of hI
    exact ac_sts hx hb hk (q := 2) (n := n) hd hs
  | fstore_n n =>
    obtain rfl := beq_of hI
    exact ac_sts_n hx hb hk (q := 2) (n := n) hd hs
  | dload n =>
    obtain rfl := beq_of hI
    exact ac_stl hx hb hk (q := 3) (n := n) hd hs
  | dload_n n =>
    obtain rfl := beq_of hI
    exact ac_stl_n hx hb hk (q := 3) (n := n) hd hs
  | dstore n =>
    obtain rfl := beq_of hI
    exact ac_sts hx hb hk (q := 3) (n := n) hd hs
  | dstore_n n =>
    obtain rfl := beq_of hI
    exact ac_sts_n hx hb hk (q := 3) (n := n) hd hs
  | aload n =>
    obtain rfl := beq_of hI
    exact ac_stl hx hb hk (q := 4) (n := n) hd hs
  | aload_n n =>
    obtain rfl := beq_of hI
    exact ac_stl_n hx hb hk (q := 4) (n := n) hd hs
  | astore n =>
    obtain rfl := beq_of hI
    exact ac_sts hx hb hk (q := 4) (n := n) hd hs
  | astore_n n =>
    obtain rfl := beq_of hI
    exact ac_sts_n hx hb hk (q := 4) (n := n) hd hs
  | iinc n v =>
    simp only [okI, Bool.and_eq_true] at hI
    obtain rfl := beq_of hI
    simp only [stp] at hs
    split at hs
    · rename_i x hg hn
      intro H locs cells slots lsA hW hl h1 h2 h3
      obtain ⟨k9, hk9⟩ := List.getElem?_of_mem (tl_mem (ad := ad) (ls := ls) (q := (n, Value.int x)) |>.mpr ⟨.int x, hg, rfl⟩)
      exact lv_iinc (v := x + cI v) hx hb hd hl hk9 (by rw [cI_ofInt]) (blt_of hn) rfl (fun ls' hl' => hk _ _ _ _ _ hs H locs cells slots ls' hW (lv_mono hl' tl_put1) h1 h2 h3)
    · exact hs.elim
  | iadd =>
    obtain rfl := beq_of hI
    exact ac_a2i hk (fun x y H locs cells slots lsA rest kk => lv_iadd hx hb hd kk) hs
  | isub =>
    obtain rfl := beq_of hI
    exact ac_a2i hk (fun x y H locs cells slots lsA rest kk => lv_isub hx hb hd kk) hs
  | imul =>
    obtain rfl := beq_of hI
    exact ac_a2i hk (fun x y H locs cells slots lsA rest kk => lv_imul hx hb hd kk) hs
  | iand =>
    obtain rfl := beq_of hI
    exact ac_a2i hk (fun x y H locs cells slots lsA rest kk => lv_iand hx hb hd kk) hs
  | ior =>
    obtain rfl := beq_of hI
    exact ac_a2i hk (fun x y H locs cells slots lsA rest kk => lv_ior hx hb hd kk) hs
  | ixor =>
    obtain rfl := beq_of hI
    exact ac_a2i hk (fun x y H locs cells slots lsA rest kk => lv_ixor hx hb hd kk) hs
  | ishl =>
    obtain rfl := beq_of hI
    exact ac_a2i hk (fun x y H locs cells slots lsA rest kk => lv_ishl hx hb hd kk) hs
  | ishr =>
    obtain rfl := beq_of hI
    exact ac_a2i hk (fun x y H locs cells slots lsA rest kk => lv_ishr hx hb hd kk) hs
  | iushr =>
    obtain rfl := beq_of hI
    exact ac_a2i hk (fun x y H locs cells slots lsA rest kk => lv_iushr hx hb hd rfl kk) hs
  | land =>
    obtain rfl := beq_of hI
    exact ac_a2l hk (fun x y H locs cells slots lsA rest kk => lv_land hx hb hd kk) hs
  | lor =>
    obtain rfl := beq_of hI
    exact ac_a2l hk (fun x y H locs cells slots lsA rest kk => lv_lor hx hb hd kk) hs
  | idiv =>
    obtain rfl := beq_of hI
    simp only [stp] at hs
    split at hs
    · intro H locs cells slots lsA hW hl h1 h2 h3
      exact lv_idiv hx hb hd hs.1 (one (d := 1) hs.2 rfl H locs cells slots lsA hW hl h1 h2 h3)
    · exact hs.elim
  | irem =>
    obtain rfl := beq_of hI
    simp only [stp] at hs
    split at hs
    · intro H locs cells slots lsA hW hl h1 h2 h3
      exact lv_irem hx hb hd hs.1 (one (d := 1) hs.2 rfl H locs cells slots lsA hW hl h1 h2 h3)
    · exact hs.elim
  | lshl =>
    obtain rfl := beq_of hI
    simp only [stp] at hs
    split at hs
    · intro H locs cells slots lsA hW hl h1 h2 h3
      exact lv_lshl hx hb hd rfl (one (d := 1) hs rfl H locs cells slots lsA hW hl h1 h2 h3)
    · exact hs.elim
  | lshr =>
    obtain rfl := beq_of hI
    simp only [stp] at hs
    split at hs
    · intro H locs cells slots lsA hW hl h1 h2 h3
      exact lv_lshr hx hb hd rfl (one (d := 1) hs rfl H locs cells slots lsA hW hl h1 h2 h3)
    · exact hs.elim
  | lcmp =>
    obtain rfl := beq_of hI
    simp only [stp] at hs
    split at hs
    · intro H locs cells slots lsA hW hl h1 h2 h3
      exact W.lcmp hx hb hd (one (d := 1) hs rfl H locs cells slots lsA hW hl h1 h2 h3)
    · exact hs.elim
  | i2l =>
    obtain rfl := beq_of hI
    simp only [stp] at hs
    split at hs
    · intro H locs cells slots lsA hW hl h1 h2 h3
      exact lv_i2l hx hb hd rfl (one (d := 1) hs rfl H locs cells slots lsA hW hl h1 h2 h3)
    · exact hs.elim
  | l2i =>
    obtain rfl := beq_of hI
    simp only [stp] at hs
    split at hs
    · intro H locs cells slots lsA hW hl h1 h2 h3
      exact lv_l2i hx hb hd rfl (one (d := 1) hs rfl H locs cells slots lsA hW hl h1 h2 h3)
    · exact hs.elim
  | i2b =>
    obtain rfl := beq_of hI
    simp only [stp] at hs
    split at hs
    · intro H locs cells slots lsA hW hl h1 h2 h3
      exact lv_i2b hx hb hd rfl (one (d := 1) hs rfl H locs cells slots lsA hW hl h1 h2 h3)
    · exact hs.elim
  | i2f =>
    obtain rfl := beq_of hI
    simp only [stp] at hs
    split at hs
    · intro H locs cells slots lsA hW hl h1 h2 h3
      exact lv_i2f hx hb hd (one (d := 1) hs rfl H locs cells slots lsA hW hl h1 h2 h3)
    · exact hs.elim
  | i2d =>
    obtain rfl := beq_of hI
    simp only [stp] at hs
    split at hs
    · intro H locs cells slots lsA hW hl h1 h2 h3
      exact lv_i2d hx hb hd (one (d := 1) hs rfl H locs cells slots lsA hW hl h1 h2 h3)
    · exact hs.elim
  | fdiv =>
    obtain rfl := beq_of hI
    simp only [stp] at hs
    split at hs
    · intro H locs cells slots lsA hW hl h1 h2 h3
      exact lv_fdiv hx hb hd hs.1 (one (d := 1) hs.2 rfl H locs cells slots lsA hW hl h1 h2 h3)
    · exact hs.elim
  | ddiv =>
    obtain rfl := beq_of hI
    simp only [stp] at hs
    split at hs
    · intro H locs cells slots lsA hW hl h1 h2 h3
      exact lv_ddiv hx hb hd hs.1 (one (d := 1) hs.2 rfl H locs cells slots lsA hW hl h1 h2 h3)
    · exact hs.elim
  | f2d =>
    obtain rfl := beq_of hI
    simp only [stp] at hs
    split at hs
    · intro H locs cells slots lsA hW hl h1 h2 h3
      exact lv_f2d hx hb hd hs.1 (one (d := 1) hs.2 rfl H locs cells slots lsA hW hl h1 h2 h3)
    · exact hs.elim
  | dup =>
    obtain rfl := beq_of hI
    simp only [stp] at hs
    split at hs
    · split at hs
      · rename_i hc
        intro H locs cells slots lsA hW hl h1 h2 h3
        exact lv_dup hx hb hd (by rw [tr_cat]; exact hc) (one (d := 1) hs rfl H locs cells slots lsA hW hl h1 h2 h3)
      · exact hs.elim
    · exact hs.elim
  | dup2 =>
    obtain rfl := beq_of hI
    simp only [stp] at hs
    split at hs
    · split at hs
      · rename_i hc1 hc2
        intro H locs cells slots lsA hW hl h1 h2 h3
        exact lv_dup2_11 hx hb hd (by rw [tr_cat]; exact hc1) (by rw [tr_cat]; exact hc2) (one (d := 1) hs rfl H locs cells slots lsA hW hl h1 h2 h3)
      · exact hs.elim
    · exact hs.elim
  | pop =>
    obtain rfl := beq_of hI
    simp only [stp] at hs
    split at hs
    · split at hs
      · rename_i hc
        intro H locs cells slots lsA hW hl h1 h2 h3
        exact lv_pop hx hb hd (by rw [tr_cat]; exact hc) (one (d := 1) hs rfl H locs cells slots lsA hW hl h1 h2 h3)
      · exact hs.elim
    · exact hs.elim
  | goto off =>
    simp only [okI, Bool.and_eq_true] at hI
    obtain ⟨hI, hv⟩ := hI
    obtain rfl := beq_of hI
    simp only [stp] at hs
    split at hs
    · rename_i t
      simp only [decide_eq_true_eq] at hv
      intro H locs cells slots lsA hW hl h1 h2 h3
      exact lv_goto hx hb hd hv (hk _ _ _ _ _ hs H locs cells slots lsA hW hl h1 h2 h3)
    · exact hs.elim
  | ifCond cd off =>
    simp only [okI, Bool.and_eq_true] at hI
    obtain ⟨hI, hv⟩ := hI
    obtain rfl := beq_of hI
    simp only [stp] at hs
    split at hs
    · rename_i t
      simp only [decide_eq_true_eq] at hv
      split at hs
      · exact ac_if hx hb hk hd hv hs
      · exact hs.elim
    · exact hs.elim
  | if_icmp cd off =>
    simp only [okI, Bool.and_eq_true] at hI
    obtain ⟨hI, hv⟩ := hI
    obtain rfl := beq_of hI
    simp only [stp] at hs
    split at hs
    · rename_i t
      simp only [decide_eq_true_eq] at hv
      split at hs
      · exact ac_icmp hx hb hk hd hv hs
      · exact hs.elim
    · exact hs.elim
  | ifnull off =>
    simp only [okI, Bool.and_eq_true] at hI
    obtain ⟨hI, hv⟩ := hI
    obtain rfl := beq_of hI
    simp only [stp] at hs
    split at hs
    · rename_i t
      simp only [decide_eq_true_eq] at hv
      split at hs
      · intro H locs cells slots lsA hW hl h1 h2 h3
        exact lv_ifnullN hx hb hd hv (hk _ _ _ _ _ hs H locs cells slots lsA hW hl h1 h2 h3)
      · intro H locs cells slots lsA hW hl h1 h2 h3
        exact lv_ifnull hx hb hd (hk _ _ _ _ _ hs H locs cells slots lsA hW hl h1 h2 h3)
      · exact hs.elim
    · exact hs.elim
  | ifnonnull off =>
    simp only [okI, Bool.and_eq_true] at hI
    obtain ⟨hI, hv⟩ := hI
    obtain rfl := beq_of hI
    simp only [stp] at hs
    split at hs
    · rename_i t
      simp only [decide_eq_true_eq] at hv
      split at hs
      · intro H locs cells slots lsA hW hl h1 h2 h3
        exact lv_ifnonnullN hx hb hd (hk _ _ _ _ _ hs H locs cells slots lsA hW hl h1 h2 h3)
      · intro H locs cells slots lsA hW hl h1 h2 h3
        exact lv_ifnonnull hx hb hd hv (hk _ _ _ _ _ hs H locs cells slots lsA hW hl h1 h2 h3)
      · exact hs.elim
    · exact hs.elim
  | tableswitch d lo hi offs =>
    simp only [stp] at hs
    split at hs
    · rename_i dt l0 ts
      simp only [okI, Bool.and_eq_true, decide_eq_true_eq] at hI
      obtain ⟨⟨⟨⟨q1, q2⟩, q3⟩, q4⟩, q5⟩ := hI
      split at hs
      · exact ac_sw hx hb hk hd q1 q2 q3 q4 (blt_of q5) hs
      · exact hs.elim
    · exact hs.elim
  | getfield idx =>
    simp only [okI, Bool.and_eq_true] at hI
    obtain ⟨hI, hv⟩ := hI
    obtain rfl := beq_of hI
    simp only [stp] at hs
    split at hs
    · simp only at hv
      exact ac_stg hx hb hown hts hK hk hd hv hs
    · rename_i ci j so pl z
      simp only at hv
      split at hv
      · rename_i o n d r hfld
        simp only [Bool.and_eq_true] at hv
        obtain ⟨q1, q2⟩ := hv
        unfold stgc at hs
        split at hs
        · rename_i a9 r9
          obtain ⟨hco, hs⟩ := hs
          intro H locs cells slots lsA hW hl h1 h2 h3
          have hOF := hCF.2.2.1 ci j o n d r hfld a9 hco
          refine vk_getf hx hb hOF hW.2.2.1 hown (hts _ (tbG_at q1)) (fun _ h9 => h9) hd ?_
          cases r with
          | true =>
            obtain rfl := beq_of q2
            exact one (d := 3) hs rfl H locs cells slots lsA hW hl h1 h2 h3
          | false =>
            obtain rfl := beq_of q2
            exact one (d := 3) hs rfl H locs cells slots lsA hW hl h1 h2 h3
        · exact hs.elim
      · cases hv
    · exact hs.elim
  | putfield idx =>
    simp only [okI, Bool.and_eq_true] at hI
    obtain ⟨hI, hv⟩ := hI
    obtain rfl := beq_of hI
    simp only [stp] at hs
    split at hs
    · simp only [Bool.and_eq_true] at hv
      exact ac_put hx hb hown hts hK hk hd hv.1 hv.2 hs
    · exact hs.elim
  | iaload =>
    simp only [okI, Bool.and_eq_true] at hI
    obtain ⟨hI, hv⟩ := hI
    obtain rfl := beq_of hI
    simp only [stp] at hs
    split at hv
    · exact ac_sta hx hb hK hk (q := 0) hd (by decide) hs
    · exact ac_stac hC0 hk (t := 0) hd (Or.inl rfl) hs
    · exact ac_stac hC0 hk (t := 6) hd (Or.inr (Or.inr (Or.inr (Or.inr ⟨rfl, beq_of hv⟩)))) hs
    · cases hv
  | baload =>
    simp only [okI, Bool.and_eq_true] at hI
    obtain ⟨hI, hv⟩ := hI
    obtain rfl := beq_of hI
    simp only [stp] at hs
    split at hv
    · exact ac_sta hx hb hK hk (q := 1) hd (by decide) hs
    · exact ac_stac hC0 hk (t := 1) hd (Or.inr (Or.inl rfl)) hs
    · cases hv
  | laload =>
    obtain rfl := beq_of hI
    exact ac_sta hx hb hK hk (q := 2) hd (by decide) hs
  | daload =>
    obtain rfl := beq_of hI
    exact ac_sta hx hb hK hk (q := 3) hd (by decide) hs
  | aaload =>
    simp only [okI, Bool.and_eq_true] at hI
    obtain ⟨hI, hv⟩ := hI
    obtain rfl := beq_of hI
    simp only [stp] at hs
    split at hs
    · rename_i q
      simp only [Bool.or_eq_true] at hv
      rcases hv with hv | hv <;> obtain rfl := beq_of hv
      · exact ac_sta hx hb hK hk (q := 4) hd (by decide) hs
      · exact ac_sta hx hb hK hk (q := 5) hd (by decide) hs
    · rename_i q t
      simp only [Bool.or_eq_true] at hv
      rcases hv with hv | hv <;> obtain rfl := beq_of hv
      · exact ac_stac hC0 hk (t := 4) hd (Or.inr (Or.inr (Or.inl rfl))) hs
      · exact ac_stac hC0 hk (t := 5) hd (Or.inr (Or.inr (Or.inr (Or.inl rfl)))) hs
    · exact hs.elim
  | aastore =>
    obtain rfl := beq_of hI
    simp only [stp] at hs
    split at hs
    · split at hs
      · rename_i n hn
        exact ac_aast hC0 hk hd hn hs.1 hs.2.1 hs.2.2
      · exact hs.elim
    · exact hs.elim
  | getstatic idx =>
    simp only [okI, Bool.and_eq_true] at hI
    obtain ⟨hI, hv⟩ := hI
    obtain rfl := beq_of hI
    simp only [stp] at hs
    split at hv
    · rename_i i0 p0
      simp only at hs
      split at hv
      · rename_i C9 n9 d9 hst9
        simp only [Bool.and_eq_true] at hv
        intro H locs cells slots lsA hW hl h1 h2 h3
        have hZ := hCF.2.2.2.2.2.1 i0 C9 n9 d9 hst9
        have hi0 : i0 ≠ 0 := by
          intro z
          have h5 := hv.1
          rw [z] at h5
          cases h5
        have hv9 : cSv ad i0 = .ref (ad i0) := by
          unfold cSv
          split
          · exact absurd rfl hi0
          · rfl
        rw [hv9] at hZ
        exact va_gets hx hb hZ hW.2.2.1 hown (hts _ (tbG_at hv.2)) (fun _ h9 => h9) hd (one (d := 3) hs rfl H locs cells slots lsA hW hl h1 h2 h3)
      · cases hv
    · rename_i z0 p0
      simp only at hs
      intro H locs cells slots lsA hW hl h1 h2 h3
      have hZ := hCF.2.2.2.2.2.1 0 _ _ _ rfl
      exact va_gets hx hb hZ hW.2.2.1 hown (hts _ (tbG_at hv)) (fun _ h9 => h9) hd (one (d := 3) hs rfl H locs cells slots lsA hW hl h1 h2 h3)
    · rename_i z0 p0
      simp only at hs
      intro H locs cells slots lsA hW hl h1 h2 h3
      rcases hCF.2.2.2.2.2.2 with hZ | hZ
      · exact va_gets hx hb hZ hW.2.2.1 hown (hts _ (tbG_at hv)) (fun _ h9 => h9) hd (one (d := 3) hs.1 rfl H locs cells slots lsA hW hl h1 h2 h3)
      · exact va_gets hx hb hZ hW.2.2.1 hown (hts _ (tbG_at hv)) (fun _ h9 => h9) hd (one (d := 3) hs.2 rfl H locs cells slots lsA hW hl h1 h2 h3)
    · cases hv
  | if_acmp cd off =>
    simp only [okI, Bool.and_eq_true] at hI
    obtain ⟨hI, hv⟩ := hI
    obtain rfl := beq_of hI
    simp only [stp] at hs
    split at hs
    · rename_i t
      simp only [decide_eq_true_eq] at hv
      split at hs
      · rename_i y x r
        obtain ⟨⟨c1, c2⟩, hs⟩ := hs
        intro H locs cells slots lsA hW hl h1 h2 h3
        have inj : (some (ad x) = some (ad y)) → x = y := fun q => c_inj hCF c1 c2 (Option.some.inj q)
        cases cd with
        | eq => exact lv_acmp_eq (rx := some (ad x)) (ry := some (ad y)) hx hb hd hv (fun q => hk _ _ _ _ _ (hs.1 (inj q)) H locs cells slots lsA hW hl h1 h2 h3) (fun q => hk _ _ _ _ _ (hs.2 (fun z => q (by rw [z]))) H locs cells slots lsA hW hl h1 h2 h3)
        | ne => exact lv_acmp_ne (rx := some (ad x)) (ry := some (ad y)) hx hb hd hv (fun q => hk _ _ _ _ _ (hs.1 (fun z => q (by rw [z]))) H locs cells slots lsA hW hl h1 h2 h3) (fun q => hk _ _ _ _ _ (hs.2 (inj q)) H locs cells slots lsA hW hl h1 h2 h3)
      · exact hs.elim
    · exact hs.elim
  | fcmp op =>
    obtain rfl := beq_of hI
    simp only [stp] at hs
    split at hs
    · intro H locs cells slots lsA hW hl h1 h2 h3
      exact lv_fcmp hx hb hd (one (d := 1) hs rfl H locs cells slots lsA hW hl h1 h2 h3)
    · exact hs.elim
  | dcmp op =>
    obtain rfl := beq_of hI
    simp only [stp] at hs
    split at hs
    · intro H locs cells slots lsA hW hl h1 h2 h3
      exact lv_dcmp hx hb hd (one (d := 1) hs rfl H locs cells slots lsA hW hl h1 h2 h3)
    · exact hs.elim
  | i2c =>
    obtain rfl := beq_of hI
    simp only [stp] at hs
    split at hs
    · intro H locs cells slots lsA hW hl h1 h2 h3
      exact lv_i2c hx hb hd rfl (one (d := 1) hs rfl H locs cells slots lsA hW hl h1 h2 h3)
    · exact hs.elim
  | iastore =>
    obtain rfl := beq_of hI
    exact ac_stq hx hb hK hk (q := 0) hd hs
  | bastore =>
    obtain rfl := beq_of hI
    exact ac_stq hx hb hK hk (q := 1) hd hs
  | lastore =>
    obtain rfl := beq_of hI
    exact ac_stq hx hb hK hk (q := 2) hd hs
  | dastore =>
    obtain rfl := beq_of hI
    exact ac_stq hx hb hK hk (q := 3) hd hs
  | arraylength =>
    simp only [okI, Bool.and_eq_true] at hI
    obtain ⟨hI, hv⟩ := hI
    obtain rfl := beq_of hI
    simp only [stp] at hs
    split at hv
    · simp only at hs
      split at hs
      · split at hs
        · rename_i n hn
          exact ac_alen hx hb hK hk hd hn hs
        · exact hs.elim
      · exact hs.elim
    · exact ac_stln hC0 hk (t := 6) hd (Or.inr (Or.inr (Or.inr (Or.inr ⟨rfl, beq_of hv⟩)))) hs
    · rename_i t _
      simp only [Bool.or_eq_true] at hv
      refine ac_stln hC0 hk (t := t) hd ?_ hs
      rcases hv with ((hv | hv) | hv) | hv
      · exact Or.inl (beq_of hv)
      · exact Or.inr (Or.inl (beq_of hv))
      · exact Or.inr (Or.inr (Or.inl (beq_of hv)))
      · exact Or.inr (Or.inr (Or.inr (Or.inl (beq_of hv))))
    · cases hv
  | return_ =>
    simp only [okI, Bool.and_eq_true, decide_eq_true_eq] at hI
    obtain ⟨hI, hr⟩ := hI
    obtain rfl := beq_of hI
    exact ac_str hC0 (rt := 0) hd (fun v hv => ⟨hv, hr⟩) hs
  | ireturn =>
    simp only [okI, Bool.and_eq_true] at hI
    obtain ⟨hI, hr⟩ := hI
    obtain rfl := beq_of hI
    simp only [stp] at hs
    split at hr
    · simp only [decide_eq_true_eq] at hr
      exact ac_str hC0 (rt := 1) hd (fun v hv => by obtain ⟨x, rfl⟩ := hv; exact ⟨x, .int, rfl, hr, rfl⟩) hs
    · simp only [decide_eq_true_eq] at hr
      exact ac_str hC0 (rt := 6) hd (fun v hv => by
        obtain ⟨x, rfl, hB⟩ := hv
        refine ⟨x, .boolean, rfl, hr, ?_⟩
        rcases hB with rfl | rfl <;> rfl) hs
    · simp only [decide_eq_true_eq] at hr
      exact ac_str hC0 (rt := 7) hd (fun v hv => by obtain ⟨x, rfl, hn⟩ := hv; exact ⟨x, .byte, rfl, hr, hn⟩) hs
    · simp only [decide_eq_true_eq] at hr
      exact ac_str hC0 (rt := 8) hd (fun v hv => by obtain ⟨x, rfl, hn⟩ := hv; exact ⟨x, .char, rfl, hr, hn⟩) hs
    · cases hr
  | lreturn =>
    simp only [okI, Bool.and_eq_true, decide_eq_true_eq] at hI
    obtain ⟨hI, hr⟩ := hI
    obtain rfl := beq_of hI
    exact ac_str hC0 (rt := 2) hd (fun v hv => by obtain ⟨x, rfl⟩ := hv; exact ⟨x, rfl, hr⟩) hs
  | freturn =>
    simp only [okI, Bool.and_eq_true, decide_eq_true_eq] at hI
    obtain ⟨hI, hr⟩ := hI
    obtain rfl := beq_of hI
    exact ac_str hC0 (rt := 3) hd (fun v hv => by obtain ⟨x, rfl⟩ := hv; exact ⟨x, rfl, hr⟩) hs
  | dreturn =>
    simp only [okI, Bool.and_eq_true, decide_eq_true_eq] at hI
    obtain ⟨hI, hr⟩ := hI
    obtain rfl := beq_of hI
    exact ac_str hC0 (rt := 4) hd (fun v hv => by obtain ⟨x, rfl⟩ := hv; exact ⟨x, rfl, hr⟩) hs
  | areturn =>
    simp only [okI, Bool.and_eq_true] at hI
    obtain ⟨hI, hr⟩ := hI
    obtain rfl := beq_of hI
    split at hr
    · rename_i nm hret
      exact ac_str hC0 (rt := 5) hd (fun v hv => ⟨Or.inl ⟨nm, hret⟩, hv⟩) hs
    · cases hr
  | new ik =>
    simp only [stp] at hs
    split at hs
    · rename_i x axr
      obtain ⟨h8, hcap, hq⟩ := cat8_of hs
      simp only [okI, Bool.and_eq_true] at hI
      obtain ⟨hI, hv⟩ := hI
      obtain rfl := beq_of hI
      split at hv
      · rename_i x' ic p1 p2 hax
        cases hax
        simp only [Bool.and_eq_true, decide_eq_true_eq] at hv
        obtain ⟨⟨⟨⟨⟨⟨⟨f1, f2⟩, f3⟩, q1⟩, q2⟩, q3⟩, q4⟩, q5⟩ := hv
        exact ac_new hC0 (ik := ik) (ic := ic) (x := x) ⟨hd, q1, q2, q3, Nat.le_of_ble_eq_true f1, Nat.le_of_ble_eq_true f2, blt_of f3, exI (blt_of f3), tbG_at q4, tbG_at q5⟩ h8 hcap hq
      · cases hv
    · exact hs.elim
  | invokevirtual idx =>
    simp only [okI, Bool.and_eq_true] at hI
    obtain ⟨hI, hv⟩ := hI
    obtain rfl := beq_of hI
    simp only [stp] at hs
    split at hv
    · rename_i n rt rc mcv p' hs' M'
      simp only [Bool.and_eq_true] at hv
      obtain ⟨⟨⟨⟨q1, q2⟩, q3⟩, q4⟩, q5⟩ := hv
      refine ac_stc hC0 ha hk (kind := 0) (hms M' (by simp)) hd q1 q5 ⟨beq_of q2, tbG_at q3, ?_⟩ hs
      split at q4
      · rename_i C T N hc
        exact ⟨C, T, N, hc, of_decide_eq_true q4⟩
      · cases q4
    · rename_i n rt rc mcv p' hs' M'
      simp only [Bool.and_eq_true] at hv
      obtain ⟨⟨⟨⟨q1, q2⟩, q3⟩, q4⟩, q5⟩ := hv
      exact ac_stc hC0 ha hk (kind := 5) (hms M' (by simp)) hd q1 q5 ⟨beq_of q2, tbG_at q3, of_decide_eq_true q4⟩ hs
    · simp only [Bool.and_eq_true] at hv
      simp only [stb] at hs
      split at hs
      · exact ac_ord hC0 hk (Or.inl rfl) hd hv.2 (tbG_at hv.1) hs.1 hs.2
      · exact hs.elim
    · cases hv
  | invokestatic idx =>
    simp only [okI, Bool.and_eq_true] at hI
    obtain ⟨hI, hv⟩ := hI
    obtain rfl := beq_of hI
    simp only [stp] at hs
    split at hv
    · rename_i kind n rt z mcv p' hs' M'
      simp only at hs
      simp only [Bool.and_eq_true] at hv
      obtain ⟨⟨q1, q2⟩, q3⟩ := hv
      split at q2
      · simp only [Bool.and_eq_true] at q2
        exact ac_stc hC0 ha hk (kind := 1) (hms M' (by simp)) hd q1 q3 ⟨beq_of q2.1, tbG_at q2.2⟩ hs
      · simp only [Bool.and_eq_true] at q2
        exact ac_stc hC0 ha hk (kind := 3) (hms M' (by simp)) hd q1 q3 ⟨beq_of q2.1, tbG_at q2.2⟩ hs
      · simp only [Bool.and_eq_true] at q2
        refine ac_stc hC0 ha hk (kind := 2) (hms M' (by simp)) hd q1 q3 ⟨beq_of q2.1, ?_⟩ hs
        have q4 := q2.2
        split at q4
        · rename_i w hw
          rw [← of_decide_eq_true q4]
          exact List.mem_of_getElem? hw
        · cases q4
      · cases q2
    · simp only [Bool.and_eq_true] at hv
      exact ac_stb hC0 hk (kind := 10) (by decide) hd hv.2 (tbG_at hv.1) hs
    · simp only [Bool.and_eq_true] at hv
      exact ac_stb hC0 hk (kind := 11) (by decide) hd hv.2 (tbG_at hv.1) hs
    · simp only [Bool.and_eq_true] at hv
      exact ac_stb hC0 hk (kind := 12) (by decide) hd hv.2 (tbG_at hv.1) hs
    · simp only [Bool.and_eq_true] at hv
      exact ac_stb hC0 hk (kind := 13) (by decide) hd hv.2 (tbG_at hv.1) hs
    · simp only [Bool.and_eq_true] at hv
      exact ac_stb hC0 hk (kind := 15) (by decide) hd hv.2 (tbG_at hv.1) hs
    · simp only [Bool.and_eq_true] at hv
      exact ac_stb hC0 hk (kind := 16) (by decide) hd hv.2 (tbG_at hv.1) hs
    · cases hv
  | _ => exact hs.elim
end
