/-! ===== calls and the JDK's own; the soundness of a step ===== -/
section
variable {M : MI} {Q : Res → PH → Prop} {Z : State → Prop} {p : Program} {l : Launch} {e : Env} {R : Room} {s : State} {m : MethodId} {args : Array Value} {below : List Frame} {meth : Method} {cc : Code} {ad : Nat → Nat} {cA : Nat → ClassId} {D : va_G} {A : Nat → Prop} {xs : Nat → Int32} {L : Nat} {k : KT} {pc c : Nat} {ls : Lc} {st : List Value} {h : PH}
theorem len9_of {n : Nat} {st : List Value} {P : Prop} (h : len9 n st P) : n ≤ st.length ∧ P := by
  unfold len9 at h
  split at h
  · rename_i hb; exact ⟨Nat.le_of_ble_eq_true hb, h⟩
  · cases h
theorem nfw7 : nativeFrameWords "java/lang/System" "arraycopy" 5 = 7 := by decide +kernel
theorem take_tr (ad : Nat → Nat) (st : List Value) (n : Nat) : ((st.take n).reverse).map (tr ad) = ((st.map (tr ad)).take n).reverse := by
  rw [List.map_reverse, List.map_take]
theorem st_split (ad : Nat → Nat) (st : List Value) (n : Nat) : st.map (tr ad) = (((st.take n).reverse).map (tr ad)).reverse ++ (st.drop n).map (tr ad) := by
  rw [List.map_reverse, List.reverse_reverse, ← List.map_append, List.take_append_drop]
theorem ac_stc (hC : Cx M Q Z p l e R s m args below meth cc ad cA D A xs L) {a : KT} (ha : ∀ pc c ls st h, a pc c ls st h → AtC M Z p l e R s m args below meth cc ad cA D A xs L pc c ls st h) (hk : ∀ pc c ls st h, k pc c ls st h → AtC M Z p l e R s m args below meth cc ad cA D A xs L pc c ls st h)
    {idx kind n rt rc mcv : Nat} {hs : List Nat} {M' : MI} (hM' : MOK M')
    (hd : match kind with
      | 0 => decode M.b pc = .ok (.invokevirtual idx, 3)
      | _ => decode M.b pc = .ok (.invokestatic idx, 3))
    (hB : calB M M' n mcv rt = true) (hH : okI.hsOk M pc hs = true)
    (hKd : match kind with
      | 0 => M'.sk = 0 ∧ Cond.methodLink M.y.cls idx M'.y ∈ tbG ∧ ∃ (C : String) (T : u_T) (N : Nat), pmCl[rc]? = some (C, T, N) ∧ M'.y.cls = C
      | 1 => M'.sk = 1 ∧ Cond.methodLink M.y.cls idx M'.y ∈ tbG
      | 3 => M'.sk = 2 ∧ Cond.methodLink M.y.cls idx M'.y ∈ tbG
      | 2 => M'.sk = 1 ∧ Cond.methodLinkNest M.y.cls idx M'.y RX11 ∈ XW
      | _ => False)
    (hs9 : stc MetPM M Q a k pc M' kind n rt rc mcv hs c ls st h) : AtC M Z p l e R s m args below meth cc ad cA D A xs L pc c ls st h := by
  intro H locs cells slots lsA hW hl h1 h2 h3
  have hC0 := hC
  obtain ⟨⟨hx, hb, hml, hown, hts⟩, hK, hA, hCF, hxw, hst, hroom, htab, hend, hthr, hprop⟩ := hC
  obtain ⟨e1, e2, e3, e4, e5, e6⟩ := calB_of hB
  subst e1
  have hR : (rmM M').frames + 1 ≤ R.frames ∧ 8 + (M'.nl + 11) + (rmM M').locals ≤ R.locals := ⟨by show M'.fr + 1 ≤ _; omega, by show 8 + (M'.nl + 11) + M'.lo ≤ _; omega⟩
  have hcap : c + M'.cap ≤ M.cap → cells + M'.cap ≤ R.cells ∧ slots + 6 * M'.cap ≤ R.slots := fun h9 => ⟨by omega, by omega⟩
  have hini : (Cond.initialized M'.y.cls).before args s = true := hts _ hM'.2.1
  have hcode0 : headM M' ∈ tbG := hM'.1
  have goW : ∀ (rest : List Value) (as : List Value) (aa : Array Value), c + M'.cap ≤ M.cap → MetPM M' as h (conk rt (hnd Q a (c + M'.cap) ls hs) (fun vs h' => k (pc + 3) (c + M'.cap) ls (vs ++ rest) h')) →
      (∀ (Q' : Res → PH → Prop), MetPM M' as h Q' → vx_Run p l e R s m args below meth cc H locs cells slots M'.cap (6 * M'.cap) (F0 m pc lsA (st.map (tr ad))) (rest.map (tr ad)) (QcM ad cA D xs L H.size Q' aa) (XcM ad cA D xs L H.size Q') (adA ad H.size)) →
      W p l e R s m args below meth cc H locs cells slots Z (F0 m pc lsA (st.map (tr ad))) := by
    intro rest as aa hcp hmp hrun
    refine ac_run (M' := M') hA hW (hrun _ hmp) ?_ ?_
    · intro x h' H1 locs1 q ce hq hW1 hce hcv hcl
      exact ac_hnd hC0 ha hH (conk_inr hq) hW1 hl (by omega) (by omega) hcp hce hcv hcl
    · intro v h' H1 locs1 hq hW1
      have hq1 : k (pc + 3) (c + M'.cap) ls (v.toList ++ rest) h' := conk_inl (kk := fun vs h' => k (pc + 3) (c + M'.cap) ls (vs ++ rest) h') hq
      have := hk _ _ _ _ _ hq1 H1 locs1 (cells + M'.cap) (slots + 6 * M'.cap) lsA hW1 hl (by omega) (by omega) hcp
      rw [List.map_append, ← tr_toList] at this
      exact this
  have hmet : ∀ (as : List Value) (Q' : Res → PH → Prop), MetPM M' as h Q' → vx_Met l M'.y (wsM M') (rmM M') (va_Pc (as.map (tr ad)) (PcM ad cA D xs L H.size h)) (QcM ad cA D xs L H.size Q') (XcM ad cA D xs L H.size Q') M'.cap (6 * M'.cap) (adA ad H.size) := fun as Q' hmp => hmp l ad cA D xs L H.size hst
  have hpre := fun (As : List Value) => pc_start (As := As) hK hA hCF hxw hW
  unfold stc at hs9
  match kind, hd, hKd, hs9 with
  | 0, hd, hKd, hs9 =>
    obtain ⟨hsk, hlink, C, T, N, hci, hcls⟩ := hKd
    obtain ⟨-, -, -, hx3⟩ := id hM'
    rw [hsk] at hx3
    obtain ⟨hhh, hinst, hsel⟩ := hx3
    have hhead : headM M' = Cond.code M'.y M'.b M'.nl M'.ret := by unfold headM; rw [hhh]
    simp only at hs9
    split at hs9
    · rename_i b rest hdrop
      have hlen : (st.take n).length = n := by
        rw [List.length_take]
        have h9 := congrArg List.length hdrop
        rw [List.length_drop, List.length_cons] at h9
        omega
      split at hs9
      · rename_i hob
        obtain ⟨rs, hkd⟩ := obC_of hob
        obtain ⟨h8, hs9⟩ := cat8_of hs9
        obtain ⟨hcp, hmp⟩ := capk_of hs9 h3
        refine goW rest _ (Value.ref (ad b) :: ((st.take n).reverse.map (tr ad))).toArray hcp hmp ?_
        intro Q' hQ'
        have hst9 : st.map (tr ad) = ((st.take n).reverse.map (tr ad)).reverse ++ Value.ref (ad b) :: rest.map (tr ad) := by
          rw [st_split ad st n, hdrop]
          rfl
        refine vx_runV (g := F0 m pc lsA (st.map (tr ad))) (C := M'.y.cls) (y := M'.y) (bytes := M'.b) (maxL := M'.nl) (ret := M'.ret) (n := n) (b := ad b) (As := (st.take n).reverse.map (tr ad)) (rest := rest.map (tr ad)) (Ts := tbG) ⟨hx, hb, hml, hown, hts⟩ (hmet _ _ hQ') ⟨callB_of n hts (wsM_good hM') (by unfold wsM; rw [hhead]) rfl rfl hini (hts _ hlink) ⟨e4, e5, e6⟩ hR, hts _ hinst, hts _ hsel⟩ ⟨(hpre _).1, ?_, fun U hU hWU => (hpre (.ref b :: (st.take n).reverse)).2 U hU hWU⟩ rfl (by rw [List.length_map, List.length_reverse]; exact hlen) hl.1 hst9 (lv_room (by rw [cat_tr]; exact h8)) hd (hcap hcp)
        have hrecv := va_recv (q := (C, T, N)) hK hW.1 (ci := rc) (q0 := b) hci (wd_ob hkd)
        rw [hcls]
        exact hrecv
      · cases hs9
    · cases hs9
  | 1, hd, hKd, hs9 =>
    obtain ⟨hsk, hlink⟩ := hKd
    obtain ⟨-, -, -, hx3⟩ := id hM'
    rw [hsk] at hx3
    obtain ⟨hhh, hstat⟩ := hx3
    have hhead : headM M' = Cond.code M'.y M'.b M'.nl M'.ret := by unfold headM; rw [hhh]
    simp only at hs9
    obtain ⟨hlen0, hs9⟩ := len9_of hs9
    have hlen : (st.take n).length = n := by rw [List.length_take]; omega
    obtain ⟨h8, hs9⟩ := cat8_of hs9
    obtain ⟨hcp, hmp⟩ := capk_of hs9 h3
    refine goW (st.drop n) _ ((st.take n).reverse.map (tr ad)).toArray hcp hmp ?_
    intro Q' hQ'
    exact vx_runS (g := F0 m pc lsA (st.map (tr ad))) (y := M'.y) (bytes := M'.b) (maxL := M'.nl) (ret := M'.ret) (n := n) (As := (st.take n).reverse.map (tr ad)) (rest := (st.drop n).map (tr ad)) (Ts := tbG) ⟨hx, hb, hml, hown, hts⟩ (hmet _ _ hQ') ⟨callB_of n hts (wsM_good hM') (by unfold wsM; rw [hhead]) rfl rfl hini (hts _ hlink) ⟨e4, e5, e6⟩ hR, hts _ hstat⟩ (hpre _) rfl (by rw [List.length_map, List.length_reverse]; exact hlen) hl.1 (st_split ad st n) (lv_room (by rw [cat_tr]; exact h8)) hd (hcap hcp)
  | 2, hd, hKd, hs9 =>
    obtain ⟨hsk, hlink⟩ := hKd
    obtain ⟨-, -, -, hx3⟩ := id hM'
    rw [hsk] at hx3
    obtain ⟨hhh, hstat⟩ := hx3
    have hhead : headM M' = Cond.code M'.y M'.b M'.nl M'.ret := by unfold headM; rw [hhh]
    simp only at hs9
    obtain ⟨hlen0, hs9⟩ := len9_of hs9
    have hlen : (st.take n).length = n := by rw [List.length_take]; omega
    obtain ⟨h8, hs9⟩ := cat8_of hs9
    obtain ⟨hcp, hmp⟩ := capk_of hs9 h3
    refine goW (st.drop n) _ ((st.take n).reverse.map (tr ad)).toArray hcp hmp ?_
    intro Q' hQ'
    exact pm_runSN (g := F0 m pc lsA (st.map (tr ad))) (host := RX11) (y := M'.y) (bytes := M'.b) (maxL := M'.nl) (ret := M'.ret) (n := n) (As := (st.take n).reverse.map (tr ad)) (rest := (st.drop n).map (tr ad)) (Ts := tbG) ⟨hx, hb, hml, hown, hts⟩ (hmet _ _ hQ') ⟨va_cnB n hts (wsM_good hM') (by unfold wsM; rw [hhead]) rfl rfl (hxw _ hlink) hini ⟨e4, e5, e6⟩ hR, hts _ hstat⟩ (hpre _) rfl (by rw [List.length_map, List.length_reverse]; exact hlen) hl.1 (st_split ad st n) (lv_room (by rw [cat_tr]; exact h8)) hd (hcap hcp)
  | 3, hd, hKd, hs9 =>
    obtain ⟨hsk, hlink⟩ := hKd
    obtain ⟨-, -, -, hx3⟩ := id hM'
    rw [hsk] at hx3
    obtain ⟨hhh, hstat⟩ := hx3
    have hhead : headM M' = Cond.codeWith M'.y M'.b M'.nl M'.ret M'.hh := by
      unfold headM
      split
      · rename_i h9; exact absurd h9 hhh
      · rfl
    simp only at hs9
    obtain ⟨hlen0, hs9⟩ := len9_of hs9
    have hlen : (st.take n).length = n := by rw [List.length_take]; omega
    obtain ⟨h8, hs9⟩ := cat8_of hs9
    obtain ⟨hcp, hmp⟩ := capk_of hs9 h3
    refine goW (st.drop n) _ ((st.take n).reverse.map (tr ad)).toArray hcp hmp ?_
    intro Q' hQ'
    have hT : GoodIn tbG (va_wsS M.y.cls idx M'.y (wsM M')) := by
      intro w hw
      unfold va_wsS at hw
      rcases List.mem_append.mp hw with hw | hw
      · simp only [List.mem_cons, List.mem_nil_iff, or_false] at hw
        rcases hw with rfl | rfl | rfl
        · exact tbG_good _ hlink
        · exact tbG_good _ hstat
        · exact tbG_good _ hM'.2.1
      · exact wsM_good hM' w hw
    exact vx_runSX (hh := M'.hh) (g := F0 m pc lsA (st.map (tr ad))) (y := M'.y) (bytes := M'.b) (maxL := M'.nl) (ret := M'.ret) (n := n) (As := (st.take n).reverse.map (tr ad)) (rest := (st.drop n).map (tr ad)) (Ts := tbG) ⟨hx, hb, hml, hown, hts⟩ (hmet _ _ hQ') (vx_cwSW n hts hT (by unfold wsM; rw [hhead]) rfl rfl ⟨e4, e5, e6⟩ hR) (hpre _) rfl (by rw [List.length_map, List.length_reverse]; exact hlen) hl.1 (st_split ad st n) (lv_room (by rw [cat_tr]; exact h8)) hd (hcap hcp)
  | k9 + 4, hd, hKd, hs9 => exact hKd.elim
theorem ac_stb (hC : Cx M Q Z p l e R s m args below meth cc ad cA D A xs L) (hk : ∀ pc c ls st h, k pc c ls st h → AtC M Z p l e R s m args below meth cc ad cA D A xs L pc c ls st h) {idx kind : Nat} (hd : decode M.b pc = .ok (.invokestatic idx, 3)) (hR : okI.jdkR M = true)
    (hKd : match kind with
      | 10 => Cond.methodLink M.y.cls idx Lib.Math.min.name ∈ tbG
      | 11 => Cond.methodLink M.y.cls idx Lib.Math.max.name ∈ tbG
      | 12 => Cond.methodLink M.y.cls idx Lib.Math.abs.name ∈ tbG
      | _ => Cond.methodLink M.y.cls idx arraycopyName ∈ tbG)
    (hs : stb M k pc kind c ls st h) : AtC M Z p l e R s m args below meth cc ad cA D A xs L pc c ls st h := by
  intro H locs cells slots lsA hW hl h1 h2 h3
  obtain ⟨⟨hx, hb, hml, hown, hts⟩, hK, hA, hCF, hxw, hst, hroom, htab, hend, hthr, hprop⟩ := hC
  simp only [okI.jdkR, Bool.and_eq_true] at hR
  have r1 := Nat.le_of_ble_eq_true hR.1
  have r2 := Nat.le_of_ble_eq_true hR.2
  have hsz : cc.maxLocals = lsA.size := by rw [hml, hl.1]
  unfold stb at hs
  split at hs
  · split at hs
    · rename_i y x r
      obtain ⟨h8, hs⟩ := cat8_of hs
      exact va_mmin hx hb hsz hown (hts _ hKd) (hts _ mm_min.1) (hts _ mm_min.2.1) (hts _ mm_min.2.2) (by omega) (by rw [cat_tr]; omega) (by omega) (by omega) hd (hk _ _ _ _ _ hs H locs cells slots lsA hW hl h1 h2 h3)
    · cases hs
  · split at hs
    · rename_i y x r
      obtain ⟨h8, hs⟩ := cat8_of hs
      exact va_mmax hx hb hsz hown (hts _ hKd) (hts _ mm_max.1) (hts _ mm_max.2.1) (hts _ mm_max.2.2) (by omega) (by rw [cat_tr]; omega) (by omega) (by omega) hd (hk _ _ _ _ _ hs H locs cells slots lsA hW hl h1 h2 h3)
    · cases hs
  · split at hs
    · rename_i x r
      obtain ⟨h8, hs⟩ := cat8_of hs
      exact va_mabs hx hb hsz hown (hts _ hKd) (hts _ mm_abs.1) (hts _ mm_abs.2.1) (hts _ mm_abs.2.2) (by omega) (by rw [cat_tr]; omega) (by omega) (by omega) hd (hk _ _ _ _ _ hs H locs cells slots lsA hW hl h1 h2 h3)
    · cases hs
  · split at hs
    · rename_i n dp b sp a r
      split at hs
      · rename_i n0 n1 g0 g1
        obtain ⟨h8, hs⟩ := cat8_of hs
        obtain ⟨⟨u1, u2, u3, u4, u5⟩, hs⟩ := hs
        have k0 := arN_of g0
        have k1 := arN_of g1
        refine va_copyi hx hb hsz hown (hts _ hKd) (hts _ mm_cpy.1) (hts _ mm_cpy.2.1) (hts _ mm_cpy.2.2) hK hW.1 hW.2.1 hW.2.2.1 a b 0 0 (wd_ar k0) (wd_ar k1) (ty_at cA).1 (ty_at cA).1 rfl u1 u2 u3 u4 u5 (fun i _ => rfl) (by omega) (by rw [cat_tr, nfw7]; omega) hd ?_
        intro H1 locs1 hP hD hS
        have e9 := wd_cpi (ad := ad) (cA := cA) (h := h) (a := a) (sp := sp.toNatClampNeg) (dp := dp.toNatClampNeg) (m := n.toNatClampNeg) k1
        have hP' : va_P D pmCl (wd ad cA (cpi h a sp.toNatClampNeg b dp.toNatClampNeg n.toNatClampNeg)) H1 := by rw [← e9]; exact hP
        have hD' : va_D A (wd ad cA (cpi h a sp.toNatClampNeg b dp.toNatClampNeg n.toNatClampNeg)) := by rw [← e9]; exact hD
        exact hk _ _ _ _ _ hs H1 locs1 cells slots lsA ⟨hP', hD', hS, scr_cpi (kd_lt k1) hW.2.2.2⟩ hl h1 h2 h3
      · cases hs
    · cases hs
  · split at hs
    · rename_i n dp b sp a r
      split at hs
      · rename_i n0 n1 g0 g1
        obtain ⟨h8, hs⟩ := cat8_of hs
        obtain ⟨⟨u1, u2, u3, u4, u5⟩, hs⟩ := hs
        have k0 := arN_of g0
        have k1 := arN_of g1
        refine va_copyl hx hb hsz hown (hts _ hKd) (hts _ mm_cpy.1) (hts _ mm_cpy.2.1) (hts _ mm_cpy.2.2) hK hW.1 hW.2.1 hW.2.2.1 a b 2 2 (wd_ar k0) (wd_ar k1) (ty_at cA).2.2.1 (ty_at cA).2.2.1 rfl u1 u2 u3 u4 u5 (fun i _ => rfl) (by omega) (by rw [cat_tr, nfw7]; omega) hd ?_
        intro H1 locs1 hP hD hS
        have e9 := wd_cpl (ad := ad) (cA := cA) (h := h) (a := a) (sp := sp.toNatClampNeg) (dp := dp.toNatClampNeg) (m := n.toNatClampNeg) k1
        have hP' : va_P D pmCl (wd ad cA (cpl h a sp.toNatClampNeg b dp.toNatClampNeg n.toNatClampNeg)) H1 := by rw [← e9]; exact hP
        have hD' : va_D A (wd ad cA (cpl h a sp.toNatClampNeg b dp.toNatClampNeg n.toNatClampNeg)) := by rw [← e9]; exact hD
        exact hk _ _ _ _ _ hs H1 locs1 cells slots lsA ⟨hP', hD', hS, hW.2.2.2⟩ hl h1 h2 h3
      · cases hs
    · cases hs
  · cases hs
theorem exI {x : Nat} (h : x < 3) : Cond.initialized (exN x) ∈ tbG := by
  match x, h with
  | 0, _ => exact tbG_at (p := 14) (by decide +kernel)
  | 1, _ => exact tbG_at (p := 15) (by decide +kernel)
  | 2, _ => exact tbG_at (p := 27) (by decide +kernel)
theorem beq_of {a b : Nat} (h : Nat.beq a b = true) : a = b := Nat.eq_of_beq_eq_true h
theorem stp_atC (hC : Cx M Q Z p l e R s m args below meth cc ad cA D A xs L) {a : KT} (ha : ∀ pc c ls st h, a pc c ls st h → AtC M Z p l e R s m args below meth cc ad cA D A xs L pc c ls st h) (hk : ∀ pc c ls st h, k pc c ls st h → AtC M Z p l e R s m args below meth cc ad cA D A xs L pc c ls st h)
    {en : En} (hE : okE M en = true) (hms : ∀ M' ∈ en.2.2.2.2, MOK M') (hs : stp MetPM M Q a k en c ls st h) : AtC M Z p l e R s m args below meth cc ad cA D A xs L en.1 c ls st h := by
  obtain ⟨pc, i, len, ax, ms⟩ := en
  have hC0 := hC
  obtain ⟨⟨hx, hb, hml, hown, hts⟩, hK, hA, hCF, hxw, hst, hroom, htab, hend, hthr, hprop⟩ := hC
  simp only [okE, Bool.and_eq_true, decide_eq_true_eq] at hE
  obtain ⟨hd, hI⟩ := hE
  show AtC M Z p l e R s m args below meth cc ad cA D A xs L pc c ls st h
  have one : ∀ {st' : List Value} {h' : PH} {d : Nat}, k (pc + d) c ls st' h' → h' = h → ∀ (H : Heap) (locs : List Loc) (cells slots : Nat) (lsA : Array Slot), WH ad cA D xs L A h s s.heap H locs → lv_has lsA M.nl (tl ad ls) → cells ≤ c → slots ≤ 6 * c → c ≤ M.cap → W p l e R s m args below meth cc H locs cells slots Z (F0 m (pc + d) lsA (st'.map (tr ad))) := by
    intro st' h' d h9 he H locs cells slots lsA hW hl h1 h2 h3
    subst he
    exact hk _ _ _ _ _ h9 H locs cells slots lsA hW hl h1 h2 h3
  cases i with
  | iconst n =>
    obtain rfl := beq_of hI
    intro H locs cells slots lsA hW hl h1 h2 h3
    exact lv_iconst hx hb hd (cI_ofInt n) (one (d := 1) hs rfl H locs cells slots lsA hW hl h1 h2 h3)
  | bipush n =>
    simp only [okI, Bool.and_eq_true, decide_eq_true_eq] at hI
    obtain ⟨hI, hv⟩ := hI
    obtain rfl := beq_of hI
    intro H locs cells slots lsA hW hl h1 h2 h3
    exact lv_bipush hx hb hd hv (one (d := 2) hs rfl H locs cells slots lsA hW hl h1 h2 h3)
  | sipush n =>
    simp only [okI, Bool.and_eq_true, decide_eq_true_eq] at hI
    obtain ⟨hI, hv⟩ := hI
    obtain rfl := beq_of hI
    intro H locs cells slots lsA hW hl h1 h2 h3
    exact lv_sipush hx hb hd hv (one (d := 3) hs rfl H locs cells slots lsA hW hl h1 h2 h3)
  | lconst n =>
    obtain rfl := beq_of hI
    intro H locs cells slots lsA hW hl h1 h2 h3
    exact lv_lconst hx hb hd rfl (one (d := 1) hs rfl H locs cells slots lsA hW hl h1 h2 h3)
  | fconst f =>
    simp only [okI, Bool.and_eq_true, decide_eq_true_eq] at hI
    obtain ⟨hI, rfl⟩ := hI
    obtain rfl := beq_of hI
    intro H locs cells slots lsA hW hl h1 h2 h3
    exact lv_fconst0 hx hb hd (one (d := 1) hs rfl H locs cells slots lsA hW hl h1 h2 h3)
  | dconst f =>
    simp only [okI, Bool.and_eq_true, decide_eq_true_eq] at hI
    obtain ⟨hI, rfl⟩ := hI
    obtain rfl := beq_of hI
    intro H locs cells slots lsA hW hl h1 h2 h3
    exact lv_dconst0 hx hb hd (one (d := 1) hs rfl H locs cells slots lsA hW hl h1 h2 h3)
  | ldc idx =>
    simp only [okI, Bool.and_eq_true] at hI
    obtain ⟨hI, hv⟩ := hI
    obtain rfl := beq_of hI
    simp only [stp] at hs
    split at hs
    · rename_i n pl
      simp only at hv
      intro H locs cells slots lsA hW hl h1 h2 h3
      exact lv_ldc hx hb hown (hts _ (tbG_at hv)) hd (one (d := 2) hs rfl H locs cells slots lsA hW hl h1 h2 h3)
    · exact hs.elim
  | ldc2_w idx =>
    simp only [okI, Bool.and_eq_true] at hI
    obtain ⟨hI, hv⟩ := hI
    obtain rfl := beq_of hI
    simp only [stp] at hs
    split at hs
    · rename_i n pl
      simp only at hv
      intro H locs cells slots lsA hW hl h1 h2 h3
      exact lv_ldc2 hx hb hown (hts _ (tbG_at hv)) hd (one (d := 3) hs rfl H locs cells slots lsA hW hl h1 h2 h3)
    · exact hs.elim
  | aconst_null =>
    obtain rfl := beq_of hI
    intro H locs cells slots lsA hW hl h1 h2 h3
    exact lv_null hx hb hd (one (d := 1) hs rfl H locs cells slots lsA hW hl h1 h2 h3)
  | iload n =>
    obtain rfl := beq_of hI
    exact ac_stl hx hb hk (q := 0) (n := n) hd hs
  | iload_n n =>
    obtain rfl := beq_of hI
    exact ac_stl_n hx hb hk (q := 0) (n := n) hd hs
  | istore n =>
    obtain rfl := beq_of hI
    exact ac_sts hx hb hk (q := 0) (n := n) hd hs
  | istore_n n =>
    obtain rfl := beq_of hI
    exact ac_sts_n hx hb hk (q := 0) (n := n) hd hs
  | lload n =>
    obtain rfl := beq_of hI
    exact ac_stl hx hb hk (q := 1) (n := n) hd hs
  | lload_n n =>
    obtain rfl := beq_of hI
    exact ac_stl_n hx hb hk (q := 1) (n := n) hd hs
  | lstore n =>
    obtain rfl := beq_of hI
    exact ac_sts hx hb hk (q := 1) (n := n) hd hs
  | lstore_n n =>
    obtain rfl := beq_of hI
    exact ac_sts_n hx hb hk (q := 1) (n := n) hd hs
  | fload n =>
    obtain rfl := beq_of hI
    exact ac_stl hx hb hk (q := 2) (n := n) hd hs
  | fload_n n =>
    obtain rfl := beq_of hI
    exact ac_stl_n hx hb hk (q := 2) (n := n) hd hs
  | fstore n =>
    obtain rfl := beq_of hI
    exact ac_sts hx hb hk (q := 2) (n := n) hd hs
  | fstore_n n =>
    obtain rfl := beq_of hI
    exact ac_sts_n hx hb hk (q := 2) (n := n) hd hs
  | dload n =>
    obtain rfl := beq_of hI
    exact ac_stl hx hb hk (q := 3) (n := n) hd hs
  | dload_n n =>
    obtain rfl := beq_of hI
    exact ac_stl_n hx hb hk (q := 3) (n := n) hd hs
  | dstore n =>
    obtain rfl := beq_of hI
    exact ac_sts hx hb hk (q := 3) (n := n) hd hs
  | dstore_n n =>
    obtain rfl := beq_of hI
    exact ac_sts_n hx hb hk (q := 3) (n := n) hd hs
  | aload n =>
    obtain rfl := beq_of hI
    exact ac_stl hx hb hk (q := 4) (n := n) hd hs
  | aload_n n =>
    obtain rfl := beq_of hI
    exact ac_stl_n hx hb hk (q := 4) (n := n) hd hs
  | astore n =>
    obtain rfl := beq_of hI
    exact ac_sts hx hb hk (q := 4) (n := n) hd hs
  | astore_n n =>
    obtain rfl := beq_of hI
    exact ac_sts_n hx hb hk (q := 4) (n := n) hd hs
  | iinc n v =>
    simp only [okI, Bool.and_eq_true] at hI
    obtain rfl := beq_of hI
    simp only [stp] at hs
    split at hs
    · rename_i x hg hn
      intro H locs cells slots lsA hW hl h1 h2 h3
      obtain ⟨k9, hk9⟩ := List.getElem?_of_mem (tl_mem (ad := ad) (ls := ls) (q := (n, Value.int x)) |>.mpr ⟨.int x, hg, rfl⟩)
      exact lv_iinc (v := x + cI v) hx hb hd hl hk9 (by rw [cI_ofInt]) (blt_of hn) rfl (fun ls' hl' => hk _ _ _ _ _ hs H locs cells slots ls' hW (lv_mono hl' tl_put1) h1 h2 h3)
    · exact hs.elim
  | iadd =>
    obtain rfl := beq_of hI
    exact ac_a2i hk (fun x y H locs cells slots lsA rest kk => lv_iadd hx hb hd kk) hs
  | isub =>
    obtain rfl := beq_of hI
    exact ac_a2i hk (fun x y H locs cells slots lsA rest kk => lv_isub hx hb hd kk) hs
  | imul =>
    obtain rfl := beq_of hI
    exact ac_a2i hk (fun x y H locs cells slots lsA rest kk => lv_imul hx hb hd kk) hs
  | iand =>
    obtain rfl := beq_of hI
    exact ac_a2i hk (fun x y H locs cells slots lsA rest kk => lv_iand hx hb hd kk) hs
  | ior =>
    obtain rfl := beq_of hI
    exact ac_a2i hk (fun x y H locs cells slots lsA rest kk => lv_ior hx hb hd kk) hs
  | ixor =>
    obtain rfl := beq_of hI
    exact ac_a2i hk (fun x y H locs cells slots lsA rest kk => lv_ixor hx hb hd kk) hs
  | ishl =>
    obtain rfl := beq_of hI
    exact ac_a2i hk (fun x y H locs cells slots lsA rest kk => lv_ishl hx hb hd kk) hs
  | ishr =>
    obtain rfl := beq_of hI
    exact ac_a2i hk (fun x y H locs cells slots lsA rest kk => lv_ishr hx hb hd kk) hs
  | iushr =>
    obtain rfl := beq_of hI
    exact ac_a2i hk (fun x y H locs cells slots lsA rest kk => lv_iushr hx hb hd rfl kk) hs
  | land =>
    obtain rfl := beq_of hI
    exact ac_a2l hk (fun x y H locs cells slots lsA rest kk => lv_land hx hb hd kk) hs
  | lor =>
    obtain rfl := beq_of hI
    exact ac_a2l hk (fun x y H locs cells slots lsA rest kk => lv_lor hx hb hd kk) hs
  | idiv =>
    obtain rfl := beq_of hI
    simp only [stp] at hs
    split at hs
    · intro H locs cells slots lsA hW hl h1 h2 h3
      exact lv_idiv hx hb hd hs.1 (one (d := 1) hs.2 rfl H locs cells slots lsA hW hl h1 h2 h3)
    · exact hs.elim
  | irem =>
    obtain rfl := beq_of hI
    simp only [stp] at hs
    split at hs
    · intro H locs cells slots lsA hW hl h1 h2 h3
      exact lv_irem hx hb hd hs.1 (one (d := 1) hs.2 rfl H locs cells slots lsA hW hl h1 h2 h3)
    · exact hs.elim
  | lshl =>
    obtain rfl := beq_of hI
    simp only [stp] at hs
    split at hs
    · intro H locs cells slots lsA hW hl h1 h2 h3
      exact lv_lshl hx hb hd rfl (one (d := 1) hs rfl H locs cells slots lsA hW hl h1 h2 h3)
    · exact hs.elim
  | lshr =>
    obtain rfl := beq_of hI
    simp only [stp] at hs
    split at hs
    · intro H locs cells slots lsA hW hl h1 h2 h3
      exact lv_lshr hx hb hd rfl (one (d := 1) hs rfl H locs cells slots lsA hW hl h1 h2 h3)
    · exact hs.elim
  | lcmp =>
    obtain rfl := beq_of hI
    simp only [stp] at hs
    split at hs
    · intro H locs cells slots lsA hW hl h1 h2 h3
      exact W.lcmp hx hb hd (one (d := 1) hs rfl H locs cells slots lsA hW hl h1 h2 h3)
    · exact hs.elim
  | i2l =>
    obtain rfl := beq_of hI
    simp only [stp] at hs
    split at hs
    · intro H locs cells slots lsA hW hl h1 h2 h3
      exact lv_i2l hx hb hd rfl (one (d := 1) hs rfl H locs cells slots lsA hW hl h1 h2 h3)
    · exact hs.elim
  | l2i =>
    obtain rfl := beq_of hI
    simp only [stp] at hs
    split at hs
    · intro H locs cells slots lsA hW hl h1 h2 h3
      exact lv_l2i hx hb hd rfl (one (d := 1) hs rfl H locs cells slots lsA hW hl h1 h2 h3)
    · exact hs.elim
  | i2b =>
    obtain rfl := beq_of hI
    simp only [stp] at hs
    split at hs
    · intro H locs cells slots lsA hW hl h1 h2 h3
      exact lv_i2b hx hb hd rfl (one (d := 1) hs rfl H locs cells slots lsA hW hl h1 h2 h3)
    · exact hs.elim
  | i2f =>
    obtain rfl := beq_of hI
    simp only [stp] at hs
    split at hs
    · intro H locs cells slots lsA hW hl h1 h2 h3
      exact lv_i2f hx hb hd (one (d := 1) hs rfl H locs cells slots lsA hW hl h1 h2 h3)
    · exact hs.elim
  | i2d =>
    obtain rfl := beq_of hI
    simp only [stp] at hs
    split at hs
    · intro H locs cells slots lsA hW hl h1 h2 h3
      exact lv_i2d hx hb hd (one (d := 1) hs rfl H locs cells slots lsA hW hl h1 h2 h3)
    · exact hs.elim
  | fdiv =>
    obtain rfl := beq_of hI
    simp only [stp] at hs
    split at hs
    · intro H locs cells slots lsA hW hl h1 h2 h3
      exact lv_fdiv hx hb hd hs.1 (one (d := 1) hs.2 rfl H locs cells slots lsA hW hl h1 h2 h3)
    · exact hs.elim
  | ddiv =>
    obtain rfl := beq_of hI
    simp only [stp] at hs
    split at hs
    · intro H locs cells slots lsA hW hl h1 h2 h3
      exact lv_ddiv hx hb hd hs.1 (one (d := 1) hs.2 rfl H locs cells slots lsA hW hl h1 h2 h3)
    · exact hs.elim
  | f2d =>
    obtain rfl := beq_of hI
    simp only [stp] at hs
    split at hs
    · intro H locs cells slots lsA hW hl h1 h2 h3
      exact lv_f2d hx hb hd hs.1 (one (d := 1) hs.2 rfl H locs cells slots lsA hW hl h1 h2 h3)
    · exact hs.elim
  | dup =>
    obtain rfl := beq_of hI
    simp only [stp] at hs
    split at hs
    · split at hs
      · rename_i hc
        intro H locs cells slots lsA hW hl h1 h2 h3
        exact lv_dup hx hb hd (by rw [tr_cat]; exact hc) (one (d := 1) hs rfl H locs cells slots lsA hW hl h1 h2 h3)
      · exact hs.elim
    · exact hs.elim
  | dup2 =>
    obtain rfl := beq_of hI
    simp only [stp] at hs
    split at hs
    · split at hs
      · rename_i hc1 hc2
        intro H locs cells slots lsA hW hl h1 h2 h3
        exact lv_dup2_11 hx hb hd (by rw [tr_cat]; exact hc1) (by rw [tr_cat]; exact hc2) (one (d := 1) hs rfl H locs cells slots lsA hW hl h1 h2 h3)
      · exact hs.elim
    · exact hs.elim
  | pop =>
    obtain rfl := beq_of hI
    simp only [stp] at hs
    split at hs
    · split at hs
      · rename_i hc
        intro H locs cells slots lsA hW hl h1 h2 h3
        exact lv_pop hx hb hd (by rw [tr_cat]; exact hc) (one (d := 1) hs rfl H locs cells slots lsA hW hl h1 h2 h3)
      · exact hs.elim
    · exact hs.elim
  | goto off =>
    simp only [okI, Bool.and_eq_true] at hI
    obtain ⟨hI, hv⟩ := hI
    obtain rfl := beq_of hI
    simp only [stp] at hs
    split at hs
    · rename_i t
      simp only [decide_eq_true_eq] at hv
      intro H locs cells slots lsA hW hl h1 h2 h3
      exact lv_goto hx hb hd hv (hk _ _ _ _ _ hs H locs cells slots lsA hW hl h1 h2 h3)
    · exact hs.elim
  | ifCond cd off =>
    simp only [okI, Bool.and_eq_true] at hI
    obtain ⟨hI, hv⟩ := hI
    obtain rfl := beq_of hI
    simp only [stp] at hs
    split at hs
    · rename_i t
      simp only [decide_eq_true_eq] at hv
      split at hs
      · exact ac_if hx hb hk hd hv hs
      · exact hs.elim
    · exact hs.elim
  | if_icmp cd off =>
    simp only [okI, Bool.and_eq_true] at hI
    obtain ⟨hI, hv⟩ := hI
    obtain rfl := beq_of hI
    simp only [stp] at hs
    split at hs
    · rename_i t
      simp only [decide_eq_true_eq] at hv
      split at hs
      · exact ac_icmp hx hb hk hd hv hs
      · exact hs.elim
    · exact hs.elim
  | ifnull off =>
    simp only [okI, Bool.and_eq_true] at hI
    obtain ⟨hI, hv⟩ := hI
    obtain rfl := beq_of hI
    simp only [stp] at hs
    split at hs
    · rename_i t
      simp only [decide_eq_true_eq] at hv
      split at hs
      · intro H locs cells slots lsA hW hl h1 h2 h3
        exact lv_ifnullN hx hb hd hv (hk _ _ _ _ _ hs H locs cells slots lsA hW hl h1 h2 h3)
      · intro H locs cells slots lsA hW hl h1 h2 h3
        exact lv_ifnull hx hb hd (hk _ _ _ _ _ hs H locs cells slots lsA hW hl h1 h2 h3)
      · exact hs.elim
    · exact hs.elim
  | ifnonnull off =>
    simp only [okI, Bool.and_eq_true] at hI
    obtain ⟨hI, hv⟩ := hI
    obtain rfl := beq_of hI
    simp only [stp] at hs
    split at hs
    · rename_i t
      simp only [decide_eq_true_eq] at hv
      split at hs
      · intro H locs cells slots lsA hW hl h1 h2 h3
        exact lv_ifnonnullN hx hb hd (hk _ _ _ _ _ hs H locs cells slots lsA hW hl h1 h2 h3)
      · intro H locs cells slots lsA hW hl h1 h2 h3
        exact lv_ifnonnull hx hb hd hv (hk _ _ _ _ _ hs H locs cells slots lsA hW hl h1 h2 h3)
      · exact hs.elim
    · exact hs.elim
  | tableswitch d lo hi offs =>
    simp only [stp] at hs
    split at hs
    · rename_i dt l0 ts
      simp only [okI, Bool.and_eq_true, decide_eq_true_eq] at hI
      obtain ⟨⟨⟨⟨q1, q2⟩, q3⟩, q4⟩, q5⟩ := hI
      split at hs
      · exact ac_sw hx hb hk hd q1 q2 q3 q4 (blt_of q5) hs
      · exact hs.elim
    · exact hs.elim
  | getfield idx =>
    simp only [okI, Bool.and_eq_true] at hI
    obtain ⟨hI, hv⟩ := hI
    obtain rfl := beq_of hI
    simp only [stp] at hs
    split at hs
    · simp only at hv
      exact ac_stg hx hb hown hts hK hk hd hv hs
    · exact hs.elim
  | putfield idx =>
    simp only [okI, Bool.and_eq_true] at hI
    obtain ⟨hI, hv⟩ := hI
    obtain rfl := beq_of hI
    simp only [stp] at hs
    split at hs
    · simp only [Bool.and_eq_true] at hv
      exact ac_put hx hb hown hts hK hk hd hv.1 hv.2 hs
    · exact hs.elim
  | iaload =>
    obtain rfl := beq_of hI
    exact ac_sta hx hb hK hk (q := 0) hd (by decide) hs
  | baload =>
    obtain rfl := beq_of hI
    exact ac_sta hx hb hK hk (q := 1) hd (by decide) hs
  | laload =>
    obtain rfl := beq_of hI
    exact ac_sta hx hb hK hk (q := 2) hd (by decide) hs
  | daload =>
    obtain rfl := beq_of hI
    exact ac_sta hx hb hK hk (q := 3) hd (by decide) hs
  | aaload =>
    simp only [okI, Bool.and_eq_true] at hI
    obtain ⟨hI, hv⟩ := hI
    obtain rfl := beq_of hI
    simp only [stp] at hs
    split at hs
    · rename_i q
      simp only [Bool.or_eq_true] at hv
      rcases hv with hv | hv <;> obtain rfl := beq_of hv
      · exact ac_sta hx hb hK hk (q := 4) hd (by decide) hs
      · exact ac_sta hx hb hK hk (q := 5) hd (by decide) hs
    · exact hs.elim
  | iastore =>
    obtain rfl := beq_of hI
    exact ac_stq hx hb hK hk (q := 0) hd hs
  | bastore =>
    obtain rfl := beq_of hI
    exact ac_stq hx hb hK hk (q := 1) hd hs
  | lastore =>
    obtain rfl := beq_of hI
    exact ac_stq hx hb hK hk (q := 2) hd hs
  | dastore =>
    obtain rfl := beq_of hI
    exact ac_stq hx hb hK hk (q := 3) hd hs
  | arraylength =>
    obtain rfl := beq_of hI
    simp only [stp] at hs
    split at hs
    · split at hs
      · rename_i n hn
        exact ac_alen hx hb hK hk hd hn hs
      · exact hs.elim
    · exact hs.elim
  | return_ =>
    simp only [okI, Bool.and_eq_true, decide_eq_true_eq] at hI
    obtain ⟨hI, hr⟩ := hI
    obtain rfl := beq_of hI
    exact ac_str hC0 (rt := 0) hd (fun v hv => ⟨hv, hr⟩) hs
  | ireturn =>
    simp only [okI, Bool.and_eq_true] at hI
    obtain ⟨hI, hr⟩ := hI
    obtain rfl := beq_of hI
    simp only [stp] at hs
    split at hr
    · simp only [decide_eq_true_eq] at hr
      exact ac_str hC0 (rt := 1) hd (fun v hv => by obtain ⟨x, rfl⟩ := hv; exact ⟨x, .int, rfl, hr, rfl⟩) hs
    · simp only [decide_eq_true_eq] at hr
      exact ac_str hC0 (rt := 6) hd (fun v hv => by
        obtain ⟨x, rfl, hB⟩ := hv
        refine ⟨x, .boolean, rfl, hr, ?_⟩
        rcases hB with rfl | rfl <;> rfl) hs
    · cases hr
  | lreturn =>
    simp only [okI, Bool.and_eq_true, decide_eq_true_eq] at hI
    obtain ⟨hI, hr⟩ := hI
    obtain rfl := beq_of hI
    exact ac_str hC0 (rt := 2) hd (fun v hv => by obtain ⟨x, rfl⟩ := hv; exact ⟨x, rfl, hr⟩) hs
  | freturn =>
    simp only [okI, Bool.and_eq_true, decide_eq_true_eq] at hI
    obtain ⟨hI, hr⟩ := hI
    obtain rfl := beq_of hI
    exact ac_str hC0 (rt := 3) hd (fun v hv => by obtain ⟨x, rfl⟩ := hv; exact ⟨x, rfl, hr⟩) hs
  | dreturn =>
    simp only [okI, Bool.and_eq_true, decide_eq_true_eq] at hI
    obtain ⟨hI, hr⟩ := hI
    obtain rfl := beq_of hI
    exact ac_str hC0 (rt := 4) hd (fun v hv => by obtain ⟨x, rfl⟩ := hv; exact ⟨x, rfl, hr⟩) hs
  | areturn =>
    simp only [okI, Bool.and_eq_true] at hI
    obtain ⟨hI, hr⟩ := hI
    obtain rfl := beq_of hI
    split at hr
    · rename_i nm hret
      exact ac_str hC0 (rt := 5) hd (fun v hv => ⟨Or.inl ⟨nm, hret⟩, hv⟩) hs
    · cases hr
  | new ik =>
    simp only [stp] at hs
    split at hs
    · rename_i x axr
      obtain ⟨h8, hcap, hq⟩ := cat8_of hs
      simp only [okI, Bool.and_eq_true] at hI
      obtain ⟨hI, hv⟩ := hI
      obtain rfl := beq_of hI
      split at hv
      · rename_i x' ic p1 p2 hax
        cases hax
        simp only [Bool.and_eq_true, decide_eq_true_eq] at hv
        obtain ⟨⟨⟨⟨⟨⟨⟨f1, f2⟩, f3⟩, q1⟩, q2⟩, q3⟩, q4⟩, q5⟩ := hv
        exact ac_new hC0 (ik := ik) (ic := ic) (x := x) ⟨hd, q1, q2, q3, Nat.le_of_ble_eq_true f1, Nat.le_of_ble_eq_true f2, blt_of f3, exI (blt_of f3), tbG_at q4, tbG_at q5⟩ h8 hcap hq
      · cases hv
    · exact hs.elim
  | invokevirtual idx =>
    simp only [stp] at hs
    split at hs
    · rename_i kind n rt rc mcv pl hs0 M'
      simp only [okI, Bool.and_eq_true] at hI
      obtain ⟨hI, hv⟩ := hI
      obtain rfl := beq_of hI
      split at hv
      · rename_i n' rt' rc' mcv' p' hs' M'' e1 e2
        cases e1; cases e2
        simp only [Bool.and_eq_true] at hv
        obtain ⟨⟨⟨⟨q1, q2⟩, q3⟩, q4⟩, q5⟩ := hv
        refine ac_stc hC0 ha hk (kind := 0) (hms M' (by simp)) hd q1 q5 ⟨beq_of q2, tbG_at q3, ?_⟩ hs
        split at q4
        · rename_i C T N hc
          exact ⟨C, T, N, hc, of_decide_eq_true q4⟩
        · cases q4
      · cases hv
    · exact hs.elim
  | invokestatic idx =>
    simp only [okI, Bool.and_eq_true] at hI
    obtain ⟨hI, hv⟩ := hI
    obtain rfl := beq_of hI
    simp only [stp] at hs
    split at hv
    · rename_i kind n rt z mcv p' hs' M'
      simp only at hs
      simp only [Bool.and_eq_true] at hv
      obtain ⟨⟨q1, q2⟩, q3⟩ := hv
      split at q2
      · simp only [Bool.and_eq_true] at q2
        exact ac_stc hC0 ha hk (kind := 1) (hms M' (by simp)) hd q1 q3 ⟨beq_of q2.1, tbG_at q2.2⟩ hs
      · simp only [Bool.and_eq_true] at q2
        exact ac_stc hC0 ha hk (kind := 3) (hms M' (by simp)) hd q1 q3 ⟨beq_of q2.1, tbG_at q2.2⟩ hs
      · simp only [Bool.and_eq_true] at q2
        refine ac_stc hC0 ha hk (kind := 2) (hms M' (by simp)) hd q1 q3 ⟨beq_of q2.1, ?_⟩ hs
        have q4 := q2.2
        split at q4
        · rename_i w hw
          rw [← of_decide_eq_true q4]
          exact List.mem_of_getElem? hw
        · cases q4
      · cases q2
    · simp only [Bool.and_eq_true] at hv
      exact ac_stb hC0 hk (kind := 10) hd hv.2 (tbG_at hv.1) hs
    · simp only [Bool.and_eq_true] at hv
      exact ac_stb hC0 hk (kind := 11) hd hv.2 (tbG_at hv.1) hs
    · simp only [Bool.and_eq_true] at hv
      exact ac_stb hC0 hk (kind := 12) hd hv.2 (tbG_at hv.1) hs
    · simp only [Bool.and_eq_true] at hv
      exact ac_stb hC0 hk (kind := 15) hd hv.2 (tbG_at hv.1) hs
    · simp only [Bool.and_eq_true] at hv
      exact ac_stb hC0 hk (kind := 16) hd hv.2 (tbG_at hv.1) hs
    · cases hv
  | _ => exact hs.elim
end
