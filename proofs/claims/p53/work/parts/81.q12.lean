/-! ===== the law's calls: the step ===== -/
theorem FQ_get {x : String × MethodName × MethodName} (h : x ∈ FQ) : (x.1 = RJx4a65c ∨ x.1 = RJx35411) := by
  have : FQ.all (fun x => decide (x.1 = RJx4a65c ∨ x.1 = RJx35411)) = true := by decide +kernel
  exact of_decide_eq_true (List.all_eq_true.mp this x h)
theorem sel_priv {s : State} {args : Array Value} {C : String} {y z : MethodName} {c : ClassId} (hc : s.vm.findClass C = some c) (hz : (Cond.selects C z z).before args s = true) (hzy : z.cls = y.cls) (hpriv : s.PrivateAt y) (hinst : (Cond.instanceMethod y).before args s = true) (hy : y.cls ≠ "java/lang/invoke/MethodHandle" ∧ y.cls ≠ "java/lang/invoke/VarHandle") : (Cond.selects C y y).before args s = true := by
  obtain ⟨mk, methM, hnamed, hmethM, -, -⟩ := Cond.instanceMethod_spec hinst
  have hfound : s.methodFound? y.cls y.name y.desc = some mk := State.methodFound?_of_named hnamed hy
  obtain ⟨c2, r2, m2, -, -, q3, -, kP, hkP, hkPi⟩ := Cond.selects_spec hz
  have hcls : m2.cls = mk.cls := Option.some.inj ((findClass_of_methodNamed q3).symm.trans ((congrArg s.vm.findClass hzy).trans (findClass_of_methodNamed hnamed)))
  have hsel : selectMethod {} s.vm c mk = .method mk := selectMethod_private hmethM (hpriv mk methM hnamed hmethM)
  rw [hcls] at hkP
  simp only [Cond.before, Cond.holds, Cond.value, hc, hfound, hnamed, hsel, hkP]
  simp
  exact hkPi
section
variable {M : MI} {Q : Res → PH → Prop} {Z : State → Prop} {p : Program} {l : Launch} {e : Env} {R : Room} {s : State} {m : MethodId} {args : Array Value} {below : List Frame} {meth : Method} {cc : Code} {ad : Nat → Nat} {cA : Nat → ClassId} {D : va_G} {A : Nat → Prop} {X : PH → va_W} {h0 : PH} {k : KT} {pc c : Nat} {ls : Lc} {st : List Value} {h : PH}
theorem cal_at (hK : va_K D pmCl (pmTy cA) s) {rc : Nat} (h1 : 1 ≤ rc) (h6 : rc ≤ 6) : ∃ cC, ClassAt s (rcN rc) cC := by
  match rc, h1, h6 with
  | 1, _, _ => exact ⟨_, (hK.1 9 (RX12, TX12, 6) rfl).2⟩
  | 2, _, _ => exact ⟨_, (hK.1 10 (RX13, TX13, 28) rfl).2⟩
  | 3, _, _ => exact ⟨_, (hK.1 11 ("java/lang/String", TJ0, 4) rfl).2⟩
  | 4, _, _ => exact ⟨_, (hK.1 12 ("java/lang/StringBuilder", TJ4, 4) rfl).2⟩
  | 5, _, _ => exact ⟨_, (hK.1 13 (RJx4a65c, TJx4a65c, 3) rfl).2⟩
  | 6, _, _ => exact ⟨_, (hK.1 14 (RJx35411, TJx35411, 4) rfl).2⟩
  | n + 7, _, h6 => exact absurd h6 (by omega)
set_option maxHeartbeats 1000000 in
theorem bc_cal (hC : Cb M Q Z p l e R s m args below meth cc ad cA D A X h0) (hk : ∀ pc c ls st h, k pc c ls st h → BtC M Z p l e R s m args below meth cc ad cA D A X h0 pc c ls st h) {idx kind n rt rc mcv : Nat} {M' : MI} (hM' : MOQ M')
    (hd : match kind with
      | 1 => decode M.b pc = .ok (.invokestatic idx, 3)
      | 2 => decode M.b pc = .ok (.invokestatic idx, 3)
      | 3 => decode M.b pc = .ok (.invokespecial idx, 3)
      | 4 => decode M.b pc = .ok (.invokespecial idx, 3)
      | 6 => decode M.b pc = .ok (.invokespecial idx, 3)
      | 7 => ∃ cn, decode M.b pc = .ok (.invokeinterface idx cn, 5)
      | _ => decode M.b pc = .ok (.invokevirtual idx, 3))
    (hB : calQ M M' n mcv = true) (hfm : flQ M' = true → flQ M = true)
    (hKd : match kind with
      | 0 => M'.sk = 0 ∧ Cond.methodLink M.y.cls idx M'.y ∈ tbG ∧ rcN rc = M'.y.cls ∧ 1 ≤ rc ∧ rc ≤ 6
      | 1 => (M'.sk = 1 ∨ M'.sk = 5) ∧ Cond.methodLink M.y.cls idx M'.y ∈ tbG
      | 2 => (M'.sk = 1 ∨ M'.sk = 5) ∧ Cond.methodLinkNest M.y.cls idx M'.y RL ∈ XQ
      | 3 => M'.sk = 2 ∧ Cond.methodLink M.y.cls idx M'.y ∈ tbG
      | 4 => M'.sk = 2 ∧ Cond.methodLinkNest M.y.cls idx M'.y RL ∈ XQ
      | 5 => M'.sk = 4 ∧ Cond.methodLink M.y.cls idx M'.y ∈ tbG ∧ Cond.sameMethod M'.y.cls M'.y.cls M'.y.name M'.y.desc ∈ tbG ∧ Cond.selects (rcN rc) M'.y M'.y ∈ tbG ∧ 1 ≤ rc ∧ rc ≤ 6
      | 6 => M'.sk = 4 ∧ Cond.methodLink M.y.cls idx M'.y ∈ tbG ∧ Cond.sameMethod M'.y.cls M'.y.cls M'.y.name M'.y.desc ∈ tbG ∧ Cond.superclass M.y.cls M'.y.cls ∈ tbG ∧ M'.y.name ≠ "<init>" ∧ 1 ≤ rc ∧ rc ≤ 6
      | 7 => (M'.sk = 0 ∨ M'.sk = 4) ∧ ∃ x ∈ FQ, x.1 = rcN rc ∧ x.2.2 = M'.y ∧ x.2.1.desc = M'.y.desc ∧ Cond.methodLink M.y.cls idx x.2.1 ∈ tbG ∧ Cond.selects (rcN rc) x.2.1 M'.y ∈ tbG ∧ 1 ≤ rc ∧ rc ≤ 6
      | 13 => M'.sk = 4 ∧ Cond.methodLink M.y.cls idx M'.y ∈ tbG ∧ Cond.sameMethod M'.y.cls M'.y.cls M'.y.name M'.y.desc ∈ tbG ∧ Cond.selects (rcN rc) M'.y M'.y ∈ XQ ∧ 1 ≤ rc ∧ rc ≤ 6
      | 14 => M'.sk = 4 ∧ (∃ (x : MethodName) (b0 : ByteArray) (m0 : Nat) (r0 : Option FieldType), Cond.methodLink M.y.cls idx x ∈ tbG ∧ Cond.sameMethod x.cls x.cls x.name x.desc ∈ tbG ∧ Cond.instanceMethod x ∈ tbG ∧ Cond.selects (rcN rc) x M'.y ∈ tbG ∧ Cond.code x b0 m0 r0 ∈ tbG ∧ x.desc = M'.y.desc ∧ x.cls ≠ "java/lang/invoke/MethodHandle" ∧ x.cls ≠ "java/lang/invoke/VarHandle") ∧ 1 ≤ rc ∧ rc ≤ 6
      | 9 => flQ M = true ∧ M'.sk = 0 ∧ Cond.methodLink M.y.cls idx M'.y ∈ tbG ∧ M'.y.cls = RX11
      | _ => False)
    (hs : qcal MetQ MetPM M k pc M' kind n rt rc mcv c ls st h) : BtC M Z p l e R s m args below meth cc ad cA D A X h0 pc c ls st h := by
  intro H locs cells slots lsA hW hl h1 h2 h3
  have hC0 := hC
  obtain ⟨⟨hx, hb, hml, hown, hts⟩, hK, hA, hKQ, hCQ, hX, hfX, hst, hroom, hnm, hend⟩ := hC
  obtain ⟨L, hP, hD, hS, hKd0, hMd, hLw⟩ := hW
  obtain ⟨e1, e2, e3, e4, e5, e6⟩ := calQ_of hB
  subst e1
  have hR : (rmQ M').frames + 1 ≤ R.frames ∧ 8 + (M'.nl + 11) + (rmQ M').locals ≤ R.locals := ⟨by show M'.fr + 1 ≤ _; omega, by show 8 + (M'.nl + 11) + M'.lo ≤ _; omega⟩
  have hcap : c + M'.cap ≤ M.cap → cells + M'.cap ≤ R.cells ∧ slots + 12 * M'.cap ≤ R.slots := fun h9 => ⟨by omega, by omega⟩
  have hini : (Cond.initialized M'.y.cls).before args s = true := hts _ hM'.2.1
  have hhead := hM'.head
  have hwsM := hM'.good
  have hS0 : CallFix p m cc M.b M.nl s args tbG M.y.cls := ⟨hx, hb, hml, hown, hts⟩
  have goQ : ∀ (len : Nat) (rest as : List Value) (aa : Array Value), c + M'.cap ≤ M.cap → MetQ M' as h (conq rt (fun vs h' => FrM M' h h' → k (pc + len) (c + M'.cap) ls (vs ++ rest) h')) →
      (∀ (Q' : Res → PH → Prop), Met l M'.y (wsM M') (rmQ M') (va_Pc (as.map (tr ad)) (PcQ (flQ M') ad cA D X L H.size h)) (QcQ (flQ M') ad cA D X L H.size h Q') M'.cap (12 * M'.cap) (frQ (X h) L H.size) → RunQ p l e R s m args below meth cc H locs cells slots M'.cap (12 * M'.cap) len (F0 m pc lsA (st.map (tr ad))) (rest.map (tr ad)) (QcQ (flQ M') ad cA D X L H.size h Q' aa) (frQ (X h) L H.size)) →
      W p l e R s m args below meth cc H locs cells slots Z (F0 m pc lsA (st.map (tr ad))) := by
    intro len rest as aa hcp hmp hrun
    refine bc_run (M' := M') hfm hC0 hP hD hS hKd0 hMd hLw (hrun _ (hmp l ad cA D X L H.size hst hX)) ?_
    intro v h' H1 locs1 hq hfr hW1
    have hq1 := conq_inl (kk := fun vs h' => FrM M' h h' → k (pc + len) (c + M'.cap) ls (vs ++ rest) h') hq hfr
    have := hk _ _ _ _ _ hq1 H1 locs1 (cells + M'.cap) (slots + 12 * M'.cap) lsA hW1 hl (by omega) (by omega) hcp
    rw [List.map_append, ← tr_toList] at this
    exact this
  have hpre := fun (As : List Value) => pcq_start (As := As) hfm hC0 hP hD hS hKd0 hMd
  have dropL : ∀ (b : Nat) (rest : List Value), st.drop n = .ref b :: rest → (st.take n).length = n := by
    intro b rest hdrop
    rw [List.length_take]
    have h9 := congrArg List.length hdrop
    rw [List.length_drop, List.length_cons] at h9
    omega
  have stE : ∀ (b : Nat) (rest : List Value), st.drop n = .ref b :: rest → st.map (tr ad) = ((st.take n).reverse.map (tr ad)).reverse ++ Value.ref (ad b) :: rest.map (tr ad) := by
    intro b rest hdrop
    rw [st_split ad st n, hdrop]
    rfl
  have hdd : M'.y.cls ≠ "java/lang/invoke/MethodHandle" ∧ M'.y.cls ≠ "java/lang/invoke/VarHandle" ∧ (parseMethodDescriptor M'.y.desc).map (fun d => d.parameters.length) = some n := ⟨e4, e5, e6⟩
  have hx3 := hM'.2.2.2.2
  unfold qcal at hs
  match kind, hd, hKd, hs with
  | 0, hd, hKd, hs =>
    obtain ⟨hsk, hlink, hcls, g1, g6⟩ := hKd
    rw [hsk] at hx3
    simp only at hs
    split at hs
    · rename_i b rest hdrop
      obtain ⟨hrc, hs⟩ := hs
      obtain ⟨h8, hs⟩ := cat8_of hs
      obtain ⟨hcp, hmp⟩ := capk_of hs h3
      refine goQ 3 rest _ (Value.ref (ad b) :: ((st.take n).reverse.map (tr ad))).toArray hcp hmp ?_
      intro Q' hMet
      have hcell := rcv_at (X := X) hK hKQ hCQ hMd hKd0 hP hS g1 g6 hrc
      rw [hcls] at hcell
      exact va_runV (g := F0 m pc lsA (st.map (tr ad))) (C := M'.y.cls) (y := M'.y) (bytes := M'.b) (maxL := M'.nl) (ret := M'.ret) (n := n) (b := ad b) (As := (st.take n).reverse.map (tr ad)) (rest := rest.map (tr ad)) (Ts := tbG) hS0 hMet ⟨callB_of n hts hwsM (by unfold wsM; rw [hhead]) rfl rfl hini (hts _ hlink) hdd hR, hts _ hx3.1, hts _ hx3.2⟩ ⟨(hpre _).1, hcell, fun U hU hWU => (hpre (.ref b :: (st.take n).reverse)).2 U hU hWU⟩ rfl (by rw [List.length_map, List.length_reverse]; exact dropL _ _ hdrop) hl.1 (stE _ _ hdrop) (lv_room (by rw [cat_tr]; exact h8)) hd (hcap hcp)
    · cases hs
  | 1, hd, hKd, hs =>
    obtain ⟨hsk, hlink⟩ := hKd
    have hstat : Cond.static M'.y ∈ tbG := by rcases hsk with hsk | hsk <;> rw [hsk] at hx3 <;> exact hx3
    simp only at hs
    obtain ⟨hlen0, hs⟩ := len9_of hs
    have hlen : (st.take n).length = n := by rw [List.length_take]; omega
    obtain ⟨h8, hs⟩ := cat8_of hs
    obtain ⟨hcp, hmp⟩ := capk_of hs h3
    refine goQ 3 (st.drop n) _ ((st.take n).reverse.map (tr ad)).toArray hcp hmp ?_
    intro Q' hMet
    exact va_runS (g := F0 m pc lsA (st.map (tr ad))) (y := M'.y) (bytes := M'.b) (maxL := M'.nl) (ret := M'.ret) (n := n) (As := (st.take n).reverse.map (tr ad)) (rest := (st.drop n).map (tr ad)) (Ts := tbG) hS0 hMet ⟨callB_of n hts hwsM (by unfold wsM; rw [hhead]) rfl rfl hini (hts _ hlink) hdd hR, hts _ hstat⟩ (hpre _) rfl (by rw [List.length_map, List.length_reverse]; exact hlen) hl.1 (st_split ad st n) (lv_room (by rw [cat_tr]; exact h8)) hd (hcap hcp)
  | 2, hd, hKd, hs =>
    obtain ⟨hsk, hlink⟩ := hKd
    have hstat : Cond.static M'.y ∈ tbG := by rcases hsk with hsk | hsk <;> rw [hsk] at hx3 <;> exact hx3
    simp only at hs
    obtain ⟨hlen0, hs⟩ := len9_of hs
    have hlen : (st.take n).length = n := by rw [List.length_take]; omega
    obtain ⟨h8, hs⟩ := cat8_of hs
    obtain ⟨hcp, hmp⟩ := capk_of hs h3
    refine goQ 3 (st.drop n) _ ((st.take n).reverse.map (tr ad)).toArray hcp hmp ?_
    intro Q' hMet
    exact va_runSN (host := RL) (g := F0 m pc lsA (st.map (tr ad))) (y := M'.y) (bytes := M'.b) (maxL := M'.nl) (ret := M'.ret) (n := n) (As := (st.take n).reverse.map (tr ad)) (rest := (st.drop n).map (tr ad)) (Ts := tbG) hS0 hMet ⟨va_cnB n hts hwsM (by unfold wsM; rw [hhead]) rfl rfl (hCQ.2.1 _ hlink) hini hdd hR, hts _ hstat, trivial⟩ (hpre _) rfl (by rw [List.length_map, List.length_reverse]; exact hlen) hl.1 (st_split ad st n) (lv_room (by rw [cat_tr]; exact h8)) hd (hcap hcp)
  | 3, hd, hKd, hs =>
    obtain ⟨hsk, hlink⟩ := hKd
    rw [hsk] at hx3
    simp only at hs
    split at hs
    · rename_i b rest hdrop
      obtain ⟨h8, hs⟩ := cat8_of hs
      obtain ⟨hcp, hmp⟩ := capk_of hs h3
      refine goQ 3 rest _ (Value.ref (ad b) :: ((st.take n).reverse.map (tr ad))).toArray hcp hmp ?_
      intro Q' hMet
      exact va_runI (g := F0 m pc lsA (st.map (tr ad))) (y := M'.y) (bytes := M'.b) (maxL := M'.nl) (n := n) (b := ad b) (As := (st.take n).reverse.map (tr ad)) (rest := rest.map (tr ad)) (Ts := tbG) hS0 hMet ⟨callB_of n hts hwsM (by unfold wsM; rw [hhead, hx3.2.2]) rfl rfl hini (hts _ hlink) hdd hR, hx3.2.1, hts _ hx3.1⟩ (hpre (.ref b :: (st.take n).reverse)) rfl (by rw [List.length_map, List.length_reverse]; exact dropL _ _ hdrop) hl.1 (stE _ _ hdrop) (lv_room (by rw [cat_tr]; exact h8)) hd (hcap hcp)
    · cases hs
  | 4, hd, hKd, hs =>
    obtain ⟨hsk, hlink⟩ := hKd
    rw [hsk] at hx3
    simp only at hs
    split at hs
    · rename_i b rest hdrop
      obtain ⟨h8, hs⟩ := cat8_of hs
      obtain ⟨hcp, hmp⟩ := capk_of hs h3
      refine goQ 3 rest _ (Value.ref (ad b) :: ((st.take n).reverse.map (tr ad))).toArray hcp hmp ?_
      intro Q' hMet
      exact va_runIN (host := RL) (g := F0 m pc lsA (st.map (tr ad))) (y := M'.y) (bytes := M'.b) (maxL := M'.nl) (n := n) (b := ad b) (As := (st.take n).reverse.map (tr ad)) (rest := rest.map (tr ad)) (Ts := tbG) hS0 hMet ⟨va_cnB n hts hwsM (by unfold wsM; rw [hhead, hx3.2.2]) rfl rfl (hCQ.2.1 _ hlink) hini hdd hR, hx3.2.1, hts _ hx3.1⟩ (hpre (.ref b :: (st.take n).reverse)) rfl (by rw [List.length_map, List.length_reverse]; exact dropL _ _ hdrop) hl.1 (stE _ _ hdrop) (lv_room (by rw [cat_tr]; exact h8)) hd (hcap hcp)
    · cases hs
  | 5, hd, hKd, hs =>
    obtain ⟨hsk, hlink, hsame, hsel, g1, g6⟩ := hKd
    rw [hsk] at hx3
    simp only at hs
    split at hs
    · rename_i b rest hdrop
      obtain ⟨hrc, hs⟩ := hs
      obtain ⟨h8, hs⟩ := cat8_of hs
      obtain ⟨hcp, hmp⟩ := capk_of hs h3
      refine goQ 3 rest _ (Value.ref (ad b) :: ((st.take n).reverse.map (tr ad))).toArray hcp hmp ?_
      intro Q' hMet
      have hcell := rcv_at (X := X) hK hKQ hCQ hMd hKd0 hP hS g1 g6 hrc
      have hG : GoodIn tbG (va_wsU M.y.cls idx (rcN rc) M'.y.cls M'.y M'.y (wsM M')) := by
        intro w hw
        unfold va_wsU at hw
        rcases List.mem_append.mp hw with hw | hw
        · simp only [List.mem_cons, List.mem_nil_iff, or_false] at hw
          rcases hw with rfl | rfl | rfl | rfl | rfl
          · exact tbG_good _ hlink
          · exact tbG_good _ hsame
          · exact tbG_good _ hsel
          · exact tbG_good _ hx3
          · exact tbG_good _ hM'.2.1
        · exact hwsM w hw
      exact va_runU (g := F0 m pc lsA (st.map (tr ad))) (C := rcN rc) (owner := M'.y.cls) (x := M'.y) (y := M'.y) (bytes := M'.b) (maxL := M'.nl) (ret := M'.ret) (n := n) (b := ad b) (As := (st.take n).reverse.map (tr ad)) (rest := rest.map (tr ad)) (Ts := tbG) hS0 hMet (va_cwU n hts hG (by unfold wsM; rw [hhead]) rfl rfl rfl hdd hR) ⟨(hpre _).1, hcell, fun U hU hWU => (hpre (.ref b :: (st.take n).reverse)).2 U hU hWU⟩ rfl (by rw [List.length_map, List.length_reverse]; exact dropL _ _ hdrop) hl.1 (stE _ _ hdrop) (lv_room (by rw [cat_tr]; exact h8)) hd (hcap hcp)
    · cases hs
  | 6, hd, hKd, hs =>
    obtain ⟨hsk, hlink, hsame, hsup, hno, g1, g6⟩ := hKd
    rw [hsk] at hx3
    simp only at hs
    split at hs
    · rename_i b rest hdrop
      obtain ⟨hrc, hs⟩ := hs
      obtain ⟨h8, hs⟩ := cat8_of hs
      obtain ⟨hcp, hmp⟩ := capk_of hs h3
      refine goQ 3 rest _ (Value.ref (ad b) :: ((st.take n).reverse.map (tr ad))).toArray hcp hmp ?_
      intro Q' hMet
      have hcell := rcv_at (X := X) hK hKQ hCQ hMd hKd0 hP hS g1 g6 hrc
      obtain ⟨cC, hat⟩ := cal_at hK g1 g6
      have hG : GoodIn tbG (va_wsSU M.y.cls idx M'.y (wsM M')) := by
        intro w hw
        unfold va_wsSU at hw
        rcases List.mem_append.mp hw with hw | hw
        · simp only [List.mem_cons, List.mem_nil_iff, or_false] at hw
          rcases hw with rfl | rfl | rfl | rfl | rfl
          · exact tbG_good _ hlink
          · exact tbG_good _ hsame
          · exact tbG_good _ hsup
          · exact tbG_good _ hx3
          · exact tbG_good _ hM'.2.1
        · exact hwsM w hw
      exact va_runSU (g := F0 m pc lsA (st.map (tr ad))) (C := rcN rc) (y := M'.y) (bytes := M'.b) (maxL := M'.nl) (ret := M'.ret) (n := n) (b := ad b) (As := (st.take n).reverse.map (tr ad)) (rest := rest.map (tr ad)) (Ts := tbG) hat hS0 hMet (va_cwSU n hts hG (by unfold wsM; rw [hhead]) rfl rfl ⟨hno, e6⟩ hR) ⟨(hpre _).1, hcell, fun U hU hWU => (hpre (.ref b :: (st.take n).reverse)).2 U hU hWU⟩ rfl (by rw [List.length_map, List.length_reverse]; exact dropL _ _ hdrop) hl.1 (stE _ _ hdrop) (lv_room (by rw [cat_tr]; exact h8)) hd (hcap hcp)
    · cases hs
  | 7, hd, hKd, hs =>
    obtain ⟨hsk, x, hxF, hx1, hx2, hxd, hlink, hsel, g1, g6⟩ := hKd
    have hinst : Cond.instanceMethod M'.y ∈ tbG := by
      rcases hsk with hsk | hsk
      · rw [hsk] at hx3; exact hx3.1
      · rw [hsk] at hx3; exact hx3
    obtain ⟨cn, hd⟩ := hd
    simp only at hs
    split at hs
    · rename_i b rest hdrop
      obtain ⟨hrc, hs⟩ := hs
      obtain ⟨h8, hs⟩ := cat8_of hs
      obtain ⟨hcp, hmp⟩ := capk_of hs h3
      refine goQ 5 rest _ (Value.ref (ad b) :: ((st.take n).reverse.map (tr ad))).toArray hcp hmp ?_
      intro Q' hMet
      have hcell := rcv_at (X := X) hK hKQ hCQ hMd hKd0 hP hS g1 g6 hrc
      obtain ⟨cC, hat⟩ := cal_at hK g1 g6
      have hF := hCQ.2.2.2.1 x hxF
      rw [hx1, hx2] at hF
      have hmh := FQ_mh x hxF
      have hG : GoodIn tbG (va_wsF M.y.cls idx (rcN rc) x.2.1 M'.y (wsM M')) := by
        intro w hw
        unfold va_wsF at hw
        rcases List.mem_append.mp hw with hw | hw
        · simp only [List.mem_cons, List.mem_nil_iff, or_false] at hw
          rcases hw with rfl | rfl | rfl | rfl
          · exact tbG_good _ hlink
          · exact tbG_good _ hsel
          · exact tbG_good _ hinst
          · exact tbG_good _ hM'.2.1
        · exact hwsM w hw
      exact va_runF (g := F0 m pc lsA (st.map (tr ad))) (C := rcN rc) (x := x.2.1) (y := M'.y) (bytes := M'.b) (maxL := M'.nl) (ret := M'.ret) (n := n) (b := ad b) (As := (st.take n).reverse.map (tr ad)) (rest := rest.map (tr ad)) (Ts := tbG) hat hS0 hMet (va_cwF n hts hG (by unfold wsM; rw [hhead]) rfl rfl hF ⟨hmh.1, hmh.2, by rw [hxd]; exact e6⟩ hR) ⟨(hpre _).1, hcell, fun U hU hWU => (hpre (.ref b :: (st.take n).reverse)).2 U hU hWU⟩ rfl (by rw [List.length_map, List.length_reverse]; exact dropL _ _ hdrop) hl.1 (stE _ _ hdrop) (lv_room (by rw [cat_tr]; exact h8)) hd (hcap hcp)
    · cases hs
  | 9, hd, hKd, hs =>
    obtain ⟨hfl, hsk, hlink, hcls⟩ := hKd
    rw [hsk] at hx3
    have hRM : (rmM M').frames + 1 ≤ R.frames ∧ 8 + (M'.nl + 11) + (rmM M').locals ≤ R.locals := hR
    simp only at hs
    split at hs
    · rename_i b rest hdrop
      obtain ⟨rfl, hs⟩ := hs
      obtain ⟨h8, hs⟩ := cat8_of hs
      obtain ⟨hcp, hmp⟩ := capk_of hs h3
      have hpm := fun (As : List Value) => pcm_start (As := As) hfl hC0 hP hD hS
      have hcell : ∃ cell : Cell, H[ad 0]? = some cell ∧ cell.vm.isStatics = false ∧ s.vm.findClass M'.y.cls = some cell.cls := by
        rw [hcls]
        have eX := (hfX hfl).1
        rw [eX] at hP
        have hw := wd_get (ad := ad) (cA := cA) (h := h) (a := 0) (by decide)
        exact va_recv hK hP (ci := 8) (q := pmCl[8]) rfl ((List.getElem?_append_left (List.getElem?_eq_some_iff.mp hw).1).trans hw)
      refine bc_runC (M' := M') (rest := rest.map (tr ad)) (a := (Value.ref (ad 0) :: ((st.take n).reverse.map (tr ad))).toArray) hfl hC0 hP hD hS hKd0 hMd (vx_runV (g := F0 m pc lsA (st.map (tr ad))) (C := M'.y.cls) (y := M'.y) (bytes := M'.b) (maxL := M'.nl) (ret := M'.ret) (n := n) (b := ad 0) (As := (st.take n).reverse.map (tr ad)) (rest := rest.map (tr ad)) (Ts := tbG) hS0 (hmp l ad cA D h 0 H.size hst) ⟨callB_of n hts hwsM (by unfold wsM; rw [hhead]) rfl rfl hini (hts _ hlink) hdd hRM, hts _ hx3.1, hts _ hx3.2⟩ ⟨(hpm _).1, hcell, fun U hU hWU => (hpm (.ref 0 :: (st.take n).reverse)).2 U hU hWU⟩ rfl (by rw [List.length_map, List.length_reverse]; exact dropL _ _ hdrop) hl.1 (stE _ _ hdrop) (lv_room (by rw [cat_tr]; exact h8)) hd ⟨(hcap hcp).1, by omega⟩) (fun x h' => conq_inr x h') ?_
      intro v h' H1 locs1 hq hHi hW1
      have hq1 := conq_inl (kk := fun vs h' => Hi h h' → k (pc + 3) (c + M'.cap) ls (vs ++ rest) h') hq hHi
      have := hk _ _ _ _ _ hq1 H1 locs1 (cells + M'.cap) (slots + 6 * M'.cap) lsA hW1 hl (by omega) (by omega) hcp
      rw [List.map_append, ← tr_toList] at this
      exact this
    · cases hs
  | 13, hd, hKd, hs =>
    obtain ⟨hsk, hlink, hsame, hz, g1, g6⟩ := hKd
    rw [hsk] at hx3
    simp only at hs
    split at hs
    · rename_i b rest hdrop
      obtain ⟨hrc, hs⟩ := hs
      obtain ⟨h8, hs⟩ := cat8_of hs
      obtain ⟨hcp, hmp⟩ := capk_of hs h3
      refine goQ 3 rest _ (Value.ref (ad b) :: ((st.take n).reverse.map (tr ad))).toArray hcp hmp ?_
      intro Q' hMet
      have hcell := rcv_at (X := X) hK hKQ hCQ hMd hKd0 hP hS g1 g6 hrc
      obtain ⟨cC, hat⟩ := cal_at hK g1 g6
      have hcode := hts _ hM'.1
      rw [hhead] at hcode
      have hcu : va_CU R s args M.y.cls (rcN rc) M'.y.cls idx M'.y M'.y M'.b M'.nl M'.ret (wsM M') (rmQ M') M'.cap (12 * M'.cap) n := by
        refine ⟨⟨rfl, rfl, hR.1, hR.2, pay_in hts hwsM, by unfold wsM; rw [hhead]; exact List.mem_cons_self⟩, hcode, hini, ⟨e4, e5⟩, fun sig h => ?_, hts _ hlink, hts _ hsame, va_Decl.of (hts _ hx3) hcode, va_Nw.use rfl (hCQ.2.1 _ hz), hts _ hx3⟩
        have h2 := e6
        rw [h] at h2
        exact (Option.some.inj h2).symm
      exact va_runU (g := F0 m pc lsA (st.map (tr ad))) (C := rcN rc) (owner := M'.y.cls) (x := M'.y) (y := M'.y) (bytes := M'.b) (maxL := M'.nl) (ret := M'.ret) (n := n) (b := ad b) (As := (st.take n).reverse.map (tr ad)) (rest := rest.map (tr ad)) (Ts := tbG) hS0 hMet hcu ⟨(hpre _).1, hcell, fun U hU hWU => (hpre (.ref b :: (st.take n).reverse)).2 U hU hWU⟩ rfl (by rw [List.length_map, List.length_reverse]; exact dropL _ _ hdrop) hl.1 (stE _ _ hdrop) (lv_room (by rw [cat_tr]; exact h8)) hd (hcap hcp)
    · cases hs
  | 14, hd, hKd, hs =>
    obtain ⟨hsk, ⟨x, b0, m0, r0, hlink, hsame, hix, hsel, hcx, hxd, x4, x5⟩, g1, g6⟩ := hKd
    rw [hsk] at hx3
    simp only at hs
    split at hs
    · rename_i b rest hdrop
      obtain ⟨hrc, hs⟩ := hs
      obtain ⟨h8, hs⟩ := cat8_of hs
      obtain ⟨hcp, hmp⟩ := capk_of hs h3
      refine goQ 3 rest _ (Value.ref (ad b) :: ((st.take n).reverse.map (tr ad))).toArray hcp hmp ?_
      intro Q' hMet
      have hcell := rcv_at (X := X) hK hKQ hCQ hMd hKd0 hP hS g1 g6 hrc
      have hG : GoodIn tbG (va_wsO M.y.cls idx (rcN rc) x.cls x M'.y (wsM M')) := by
        intro w hw
        unfold va_wsO at hw
        rcases List.mem_append.mp hw with hw | hw
        · simp only [List.mem_cons, List.mem_nil_iff, or_false] at hw
          rcases hw with rfl | rfl | rfl | rfl | rfl | rfl
          · exact tbG_good _ hlink
          · exact tbG_good _ hsame
          · exact tbG_good _ hix
          · exact tbG_good _ hsel
          · exact tbG_good _ hx3
          · exact tbG_good _ hM'.2.1
        · exact hwsM w hw
      exact va_runU (g := F0 m pc lsA (st.map (tr ad))) (C := rcN rc) (owner := x.cls) (x := x) (y := M'.y) (bytes := M'.b) (maxL := M'.nl) (ret := M'.ret) (n := n) (b := ad b) (As := (st.take n).reverse.map (tr ad)) (rest := rest.map (tr ad)) (Ts := tbG) hS0 hMet (va_cwO n hts hG (by unfold wsM; rw [hhead]) rfl rfl hcx ⟨x4, x5, by rw [hxd]; exact e6⟩ hR) ⟨(hpre _).1, hcell, fun U hU hWU => (hpre (.ref b :: (st.take n).reverse)).2 U hU hWU⟩ rfl (by rw [List.length_map, List.length_reverse]; exact dropL _ _ hdrop) hl.1 (stE _ _ hdrop) (lv_room (by rw [cat_tr]; exact h8)) hd (hcap hcp)
    · cases hs
  | 8, _, hKd, _ => exact hKd.elim
  | 10, _, hKd, _ => exact hKd.elim
  | 11, _, hKd, _ => exact hKd.elim
  | 12, _, hKd, _ => exact hKd.elim
  | k9 + 15, _, hKd, _ => exact hKd.elim
end
