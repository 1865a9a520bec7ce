/-! ===== the law's steps: writes, new cells, arrays ===== -/
/-- a new object's fields -/
def dflQ (ci : Nat) : List Value := (fsq ci).map (fun so => match so with
  | 0 => .int 0
  | 1 => .long 0
  | _ => .null)
theorem dflQ_ok : ((List.range 15).all (fun ci => Nat.blt ci 9 || (match pmCl[ci]? with
  | some (_, T, N) => Nat.beq (dflQ ci).length N && (List.range N).all (fun j => decide ((parseFieldDescriptor (T j).2.2.1).map defaultValue = some (vp_V (dflQ ci) j)))
  | none => false))) = true := by decide +kernel
theorem dflQ_nw {ad : Nat → Nat} {h : PH} {q kd n ci : Nat} : fvqs ad (nw h q kd n) q ci = dflQ ci := by
  unfold fvqs dflQ
  apply List.ext_getElem?
  intro j
  rw [List.getElem?_map, List.getElem?_map]
  by_cases hl : j < (fsq ci).length
  · rw [List.getElem?_range hl, List.getElem?_eq_getElem hl]
    simp only [Option.map_some]
    rw [List.getD_eq_getElem?_getD, List.getElem?_eq_getElem hl]
    simp only [Option.getD_some]
    generalize (fsq ci)[j] = so
    unfold fvq gi gl gr nw
    simp only [if_true]
    match so with
    | 0 => rfl
    | 1 => rfl
    | _ + 2 => rfl
  · rw [List.getElem?_eq_none (by simpa using hl), List.getElem?_eq_none (by simpa using hl)]
    rfl
theorem cap_ci {ci : Nat} {q : vw_C} (hc : pmCl[ci]? = some q) : ci < 15 := by
  rcases Nat.lt_or_ge ci 15 with w | w
  · exact w
  · exfalso
    rw [List.getElem?_eq_none (by show 15 ≤ ci; exact w)] at hc
    cases hc
/-- what cells of n slots and an array's class need -/
theorem cstO_ok {ci N : Nat} {C : String} {T : u_T} (h9 : 9 ≤ ci) (hc : pmCl[ci]? = some (C, T, N)) : 1 ≤ cstO ci ∧ N ≤ 12 * cstO ci := by
  have hl := cap_ci hc
  match ci, h9, hl with
  | 9, _, _ => cases hc; decide
  | 10, _, _ => cases hc; decide
  | 11, _, _ => cases hc; decide
  | 12, _, _ => cases hc; decide
  | 13, _, _ => cases hc; decide
  | 14, _, _ => cases hc; decide
section
variable {M : MI} {Q : Res → PH → Prop} {Z : State → Prop} {p : Program} {l : Launch} {e : Env} {R : Room} {s : State} {m : MethodId} {args : Array Value} {below : List Frame} {meth : Method} {cc : Code} {ad : Nat → Nat} {cA : Nat → ClassId} {D : va_G} {A : Nat → Prop} {X : PH → va_W} {h0 : PH} {k : KT} {pc c : Nat} {ls : Lc} {st : List Value} {h : PH}
theorem bc_put (hC : Cb M Q Z p l e R s m args below meth cc ad cA D A X h0) (hk : ∀ pc c ls st h, k pc c ls st h → BtC M Z p l e R s m args below meth cc ad cA D A X h0 pc c ls st h) {idx ci j so q : Nat} {nst : Nat}
    (hd : decode M.b pc = .ok (.putfield idx, 3)) (hf : fldQ M idx ci j so q nst = true) (h1n : Nat.beq nst 1 = false) (hfin : (match pmCl[ci]? with
      | some (_, T, _) => !(T j).2.2.2 || (decide (M.y.name = "<init>") && decide ((T j).1 = M.y.cls))
      | none => false) = true) (hs : qput k pc c ls st h ci j so) : BtC M Z p l e R s m args below meth cc ad cA D A X h0 pc c ls st h := by
  intro H locs cells slots lsA hW hl h1 h2 h3
  obtain ⟨⟨hx, hb, hml, hown, hts⟩, hK, hA, hKQ, hCQ, hX, hfl, hst, hroom, hnm0, hend⟩ := hC
  obtain ⟨C, T, N, hc, hci, hjN, hN, hlink, hso⟩ := fldQ_of hf
  obtain ⟨L, hP, hD, hS, hKd, hMd, hLw⟩ := hW
  rw [hc] at hfin
  simp only at hfin
  have hci2 := cap_ci hc
  obtain ⟨hin, ⟨ty0, hty⟩, hnm⟩ := cl_ok hc
  have hlk : ∃ ref, Cond.fieldLink M.y.cls idx ref (T j).2.1 (T j).2.2.1 ∈ tbG ∧ (ref = (T j).1 ∨ (ref = RJx4a65c ∧ (T j).1 = "java/util/AbstractList" ∧ (T j).2.1 = "modCount" ∧ (T j).2.2.1 = "I")) := by
    rcases hlink with w | ⟨w1, w2, w3, w4⟩
    · exact w
    · exfalso
      subst w2; subst w3; subst w4
      unfold fldQ at hf
      rw [hc] at hf
      cases hc
      have : Nat.beq nst 1 = true := by
        match nst, hf with
        | 0, hf =>
          simp only [Bool.and_eq_true] at hf
          have := tbG_at hf.1.2
          exfalso
          rw [w1] at this
          exact absurd this (by decide +kernel)
        | 1, _ => rfl
        | n + 2, hf =>
          simp only [Bool.and_eq_true] at hf
          exact absurd hf.1.2.1.2 (by decide)
      rw [this] at h1n; cases h1n
  obtain ⟨ref, w1, w2⟩ := hlk
  have hsame : ∀ x, s.fieldFound? (T j).1 (T j).2.1 (T j).2.2.1 = some x → s.fieldFound? ref (T j).2.1 (T j).2.2.1 = some x := by
    rcases w2 with w2 | ⟨w2, w3, w4, w5⟩
    · rw [w2]; exact fun _ h9 => h9
    · rw [w2, w3, w4, w5]; exact u_same (hts _ mod_same)
  have row : ∀ (n : Nat) (v : Value) (ty : FieldType) (h' : PH) (r : List Value), qkd h n + 8 = ci → parseFieldDescriptor (T j).2.2.1 = some ty → narrow ty v = v → fits ty v = true → Oth n h h' → qkd h' n = qkd h n →
      (fvqs ad h n ci).set j v = fvqs ad h' n ci → k (pc + 3) c ls r h' →
      W p l e R s m args below meth cc H locs cells slots Z (F0 m pc lsA (v :: .ref (ad n) :: r.map (tr ad))) := by
    intro n v ty h' r hkn hpd hn hfit ho hkd he hkk
    have g0 : ¬ qkd h n = 0 := by omega
    have g1 : qkd h n < 32 := by omega
    obtain ⟨i, hi⟩ := pq_get (X := X h) (ad := ad) (cA := cA) hKd g0 g1
    have hi0 := hi
    rw [celQ_ob (by omega) hkn] at hi
    have ea := ad_own hCQ (hKd.own g0 g1).1
    rw [ea]
    have go : ∀ (H1 : Heap) (locs1 : List Loc), va_P D pmCl ((X h ++ pq ad cA h L).set i (dq n, .inr (ci, (fvqs ad h n ci).set j v))) H1 → va_D A ((X h ++ pq ad cA h L).set i (dq n, .inr (ci, (fvqs ad h n ci).set j v))) → va_S A s.heap H1 locs1 → W p l e R s m args below meth cc H1 locs1 cells slots Z (F0 m (pc + 3) lsA (r.map (tr ad))) := by
      intro H1 locs1 hP1 hD1 hS1
      refine hk _ _ _ _ _ hkk H1 locs1 cells slots lsA (WL.set hX hKd hMd hLw g0 g1 hD hi0 ho hkd ?_ hP1 hD1 hS1) hl h1 h2 h3
      rw [celQ_ob (ci := ci) (by omega) (by rw [hkd]; exact hkn), he]
    have hlen : j < (fvqs ad h n ci).length := by rw [fvqs_len, ← hN]; exact hjN
    cases hff : (T j).2.2.2 with
    | false => exact va_put (D := D) (ci := ci) (v := v) (ty := ty) (C := C) (T := T) (N := N) hx hb hts hin ty0 hty hnm hown hK hP hD hS i hi hc j hjN (hts _ w1) hsame hff hpd hn hfit hlen hd go
    | true =>
      rw [hff] at hfin
      simp only [Bool.not_true, Bool.false_or, Bool.and_eq_true, decide_eq_true_eq] at hfin
      exact va_putF (D := D) (ci := ci) (v := v) (ty := ty) (C := C) (T := T) (N := N) hx hb hts hin ty0 hty hnm hown hK hP hD hS i hi hc j hjN (hts _ w1) hsame hff (hnm0.trans hfin.1) hfin.2 hpd hn hfit hlen hd go
  unfold qput at hs
  rcases hso with ⟨rfl, e1, e2⟩ | ⟨rfl, e1, e2⟩ | ⟨rfl, e1, e2⟩ | ⟨rfl, e1, e2⟩
  · simp only at hs
    split at hs
    · rename_i x n r
      exact row n (.int x) .int _ r (kP_old hs.1) (by rw [e2]; exact pd_I) rfl rfl (Oth.si _ _ _ _) rfl (fv_si e1) hs.2
    · cases hs
  · simp only at hs
    split at hs
    · rename_i x n r
      obtain ⟨q1, hB, q2⟩ := hs
      refine row n (.int x) .boolean _ r (kP_old q1) (by rw [e2]; exact pd_Z) ?_ ?_ (Oth.si _ _ _ _) rfl (fv_si e1) q2
      · rcases hB with rfl | rfl <;> rfl
      · rcases hB with rfl | rfl <;> rfl
    · cases hs
  · simp only at hs
    split at hs
    · rename_i x n r
      obtain ⟨q1, hB, q2⟩ := hs
      refine row n (.int x) .byte _ r (kP_old q1) (by rw [e2]; exact pd_B) ?_ ?_ (Oth.si _ _ _ _) rfl (fv_si e1) q2
      · rcases hB with rfl | rfl <;> decide
      · rcases hB with rfl | rfl <;> decide
    · cases hs
  · have hty2 : ∃ ty, parseFieldDescriptor (T j).2.2.1 = some ty ∧ (∀ v : Value, (v = .null ∨ ∃ b, v = .ref b) → narrow ty v = v ∧ fits ty v = true) := by
      rcases e2 with ⟨nn, e2⟩ | ⟨tt, e2⟩
      · refine ⟨_, e2, fun v hv => ?_⟩
        rcases hv with rfl | ⟨b, rfl⟩ <;> exact ⟨rfl, rfl⟩
      · refine ⟨_, e2, fun v hv => ?_⟩
        rcases hv with rfl | ⟨b, rfl⟩ <;> exact ⟨rfl, rfl⟩
    obtain ⟨ty, t1, t2⟩ := hty2
    simp only at hs
    split at hs
    · rename_i b n r
      exact row n (.ref (ad b)) ty _ r (kP_old hs.1) t1 (t2 _ (Or.inr ⟨_, rfl⟩)).1 (t2 _ (Or.inr ⟨_, rfl⟩)).2 (Oth.sr _ _ _ _) rfl (fv_sr (x := some b) e1) hs.2
    · rename_i n r
      exact row n .null ty _ r (kP_old hs.1) t1 (t2 _ (Or.inl rfl)).1 (t2 _ (Or.inl rfl)).2 (Oth.sr _ _ _ _) rfl (fv_sr (x := none) e1) hs.2
    · cases hs
theorem bc_new (hC : Cb M Q Z p l e R s m args below meth cc ad cA D A X h0) (hk : ∀ pc c ls st h, k pc c ls st h → BtC M Z p l e R s m args below meth cc ad cA D A X h0 pc c ls st h) {idx ci : Nat} {C : String} {T : u_T} {N : Nat} (h9 : 9 ≤ ci) (hc : pmCl[ci]? = some (C, T, N))
    (w1 : Cond.classLink M.y.cls idx C ∈ tbG) (w2 : Cond.instantiable C N ∈ tbG) (w3 : Cond.initialized C ∈ tbG) (hd : decode M.b pc = .ok (.new idx, 3)) (hs : qnew M k pc c ls st h ci) : BtC M Z p l e R s m args below meth cc ad cA D A X h0 pc c ls st h := by
  intro H locs cells slots lsA hW hl h1 h2 h3
  obtain ⟨⟨hx, hb, hml, hown, hts⟩, hK, hA, hKQ, hCQ, hX, hfl, hst, hroom, hnm0, hend⟩ := hC
  obtain ⟨L, hP, hD, hS, hKd, hMd, hLw⟩ := hW
  obtain ⟨hcap, hs⟩ := hs
  have hst2 := cstO_ok h9 hc
  have hci2 := cap_ci hc
  obtain ⟨hin2, ⟨ty0, hty⟩, hnm⟩ := cl_ok hc
  have hdf := List.all_eq_true.mp dflQ_ok ci (List.mem_range.mpr hci2)
  have hb9 : Nat.blt ci 9 = false := by
    cases e : Nat.blt ci 9
    · rfl
    · have := Nat.blt_eq.mp e; omega
  rw [hc, hb9] at hdf
  simp only [Bool.false_or, Bool.and_eq_true] at hdf
  have hKn := hK.1 ci _ hc
  refine W.newcK hx hb hown (hts _ w1) (hts _ w2) (hts _ w3) rfl hd (by omega) (by omega) hKn.2.1 rfl fun H1 kC hkC e1 z1 o1 => ?_
  obtain ⟨f1, f2⟩ := kd_free hP hKd (Nat.le_refl H.size)
  have hP1 : va_P D pmCl (X h ++ pq ad cA h L) H1 := hP.kept (fun k9 q hq => o1 q.1 (hP k9 q hq).lt)
  have e2 : va_at D pmCl (H.size, .inr (ci, dflQ ci)) H1 := by
    refine ⟨_, hc, ?_⟩
    refine (u_born ty0 hts hin2 hKn hkC e1 hty).to (fun j hj => ?_)
    have h9 := List.all_eq_true.mp hdf.2 j (List.mem_range.mpr hj)
    rw [hty j hj] at h9
    exact Option.some.inj (of_decide_eq_true h9)
  have hP2 : va_P D pmCl ((X h ++ pq ad cA h L) ++ [(H.size, .inr (ci, dflQ ci))]) H1 := hP1.app (fun k9 x hx9 => by
    have h0 : k9 < 1 := (List.getElem?_eq_some_iff.mp hx9).1
    rw [show k9 = 0 by omega] at hx9
    cases hx9
    exact e2)
  have hD2 : va_D A ((X h ++ pq ad cA h L) ++ [(H.size, .inr (ci, dflQ ci))]) := hD.push hP rfl (hA _ hS.1)
  have hS2 : va_S A s.heap H1 locs := ⟨by have := hS.1; omega, fun q q1 q2 => (o1 q (Nat.lt_of_lt_of_le q1 hS.1)).trans (hS.2.1 q q1 q2), hS.2.2⟩
  have hkd : qkd (nw h (uq H.size) (ci - 8) 0) (uq H.size) = ci - 8 := qkd_nw (uq_hi _)
  have hgo := hk _ _ _ _ _ (hs (uq H.size) (uq_ge _) f2) H1 locs (cells + 1) (slots + N) lsA (WL.push hX hKd hMd hLw f1 (Oth.nw _ _ _ _) (by rw [hkd]; omega) (by rw [hkd]; omega) (by rw [celQ_ob (ci := ci) (by omega) (by rw [hkd]; omega), dflQ_nw]) hP2 hD2 hS2) hl (by omega) (by omega) hcap
  have ea := ad_own hCQ (n := uq H.size) (uq_ge _)
  rw [dq_uq] at ea
  have e9 : ((Value.ref (uq H.size) :: st).map (tr ad)) = .ref H.size :: st.map (tr ad) := by
    show Value.ref (ad (uq H.size)) :: _ = _
    rw [ea]
  rw [e9] at hgo
  exact hgo
/-- a new array's content -/
def nwE (t : Nat) : (Nat → Int32) ⊕ (Nat → Int64) ⊕ (Nat → UInt32) ⊕ (Nat → UInt64) ⊕ (Nat → Option Nat) := match t with
  | 7 => .inr (.inr (.inr (.inr (fun _ => none))))
  | 8 => .inr (.inr (.inr (.inr (fun _ => none))))
  | _ => .inl (fun _ => 0)
/-- the classes of arrays -/
theorem cA_name {t : Nat} {ty : FieldType} (hK : va_K D pmCl (pmTy cA) s) (ht : (pmTy cA)[t]? = some (cA t, ty)) (ho : ∀ C, ty ≠ .object C) : s.vm.findClass ("[" ++ ty.toString) = some (cA t) := by
  have h := (hK.2 t _ ht).2
  unfold va_RA at h
  split at h
  · rename_i C heq; exact absurd heq (ho C)
  · exact h
theorem cA_nameO {t : Nat} {C : String} (hK : va_K D pmCl (pmTy cA) s) (ht : (pmTy cA)[t]? = some (cA t, .object C)) : s.vm.findClass ("[" ++ (FieldType.object C).toString) = some (cA t) := by
  obtain ⟨_, _, -, -, -, h9⟩ := (hK.2 t _ ht).2
  exact h9
theorem aeq_nw {h : PH} {q kd n t : Nat} : aeq ad (nw h q kd n) q t = nwE t := by
  have e1 : (nw h q kd n).1 q = fun _ => 0 := if_pos rfl
  have e3 : (nw h q kd n).2.2.1 q = fun _ => none := if_pos rfl
  unfold aeq
  rw [e1, e3]
  match t with
  | 0 => rfl
  | 1 => rfl
  | 2 => rfl
  | 3 => rfl
  | 4 => rfl
  | 5 => rfl
  | 6 => rfl
  | 7 => rfl
  | 8 => rfl
  | _ + 9 => rfl
/-- what a new array's cell leads to -/
theorem bc_arr {H H1 : Heap} {locs : List Loc} {L : List Nat} {t n : Nat} (hA : ∀ q, s.heap.size ≤ q → A q) (hX : ∀ x y, Lw x y → X y = X x) (hP : va_P D pmCl (X h ++ pq ad cA h L) H) (hD : va_D A (X h ++ pq ad cA h L)) (hS : va_S A s.heap H locs) (hKd : KdOk h L) (hMd : Md h0 h) (hLw : flQ M = false → Lw h0 h) (ht : t < 16)
    (e1 : H1[H.size]? = some (vp_cell (cA t) (n, nwE t))) (z1 : H1.size = H.size + 1) (o1 : ∀ q, q < H.size → H1[q]? = H[q]?) : WL (flQ M) ad cA D X h0 A (nw h (uq H.size) (16 + t) n) s s.heap H1 locs := by
  obtain ⟨f1, f2⟩ := kd_free hP hKd (Nat.le_refl H.size)
  have hP1 : va_P D pmCl (X h ++ pq ad cA h L) H1 := hP.kept (fun k9 q hq => o1 q.1 (hP k9 q hq).lt)
  have hkd : qkd (nw h (uq H.size) (16 + t) n) (uq H.size) = 16 + t := qkd_nw (uq_hi _)
  have hc : celQ ad cA (nw h (uq H.size) (16 + t) n) (uq H.size) = .inl (cA t, n, nwE t) := by
    rw [celQ_ar hkd, qln_nw, aeq_nw]
  refine WL.push hX hKd hMd hLw f1 (Oth.nw _ _ _ _) (by rw [hkd]; omega) (by rw [hkd]; omega) rfl (hP1.app (fun k9 x hx9 => ?_)) (hD.push hP rfl (hA _ hS.1)) ⟨by have := hS.1; omega, fun q q1 q2 => (o1 q (Nat.lt_of_lt_of_le q1 hS.1)).trans (hS.2.1 q q1 q2), hS.2.2⟩
  have h0 : k9 < 1 := (List.getElem?_eq_some_iff.mp hx9).1
  rw [show k9 = 0 by omega] at hx9
  rw [hc] at hx9
  cases hx9
  exact e1
theorem ref_top {H : Heap} (hCQ : CQ ad A s s.heap) (r : List Value) : ((Value.ref (uq H.size) :: r).map (tr ad)) = .ref H.size :: r.map (tr ad) := by
  have ea := ad_own hCQ (n := uq H.size) (uq_ge _)
  rw [dq_uq] at ea
  show Value.ref (ad (uq H.size)) :: _ = _
  rw [ea]
theorem bc_newa (hC : Cb M Q Z p l e R s m args below meth cc ad cA D A X h0) (hk : ∀ pc c ls st h, k pc c ls st h → BtC M Z p l e R s m args below meth cc ad cA D A X h0 pc c ls st h) {at' : ArrayType} {t : Nat} (ht : (t = 0 ∧ newarray.typeOf at' = .int) ∨ (t = 1 ∧ newarray.typeOf at' = .byte)) (w1 : Cond.arrayClass (newarray.typeOf at') ∈ tbG)
    (hd : decode M.b pc = .ok (.newarray at', 2)) (hs : qnewa M k pc 2 c ls st h t) : BtC M Z p l e R s m args below meth cc ad cA D A X h0 pc c ls st h := by
  intro H locs cells slots lsA hW hl h1 h2 h3
  obtain ⟨⟨hx, hb, hml, hown, hts⟩, hK, hA, hKQ, hCQ, hX, hfl, hst, hroom, hnm0, hend⟩ := hC
  obtain ⟨L, hP, hD, hS, hKd, hMd, hLw⟩ := hW
  unfold qnewa at hs
  split at hs
  · rename_i n r
    obtain ⟨⟨hn, hn2⟩, hcap, hs⟩ := hs
    have hbytes : n.toNatClampNeg * componentBytes (newarray.typeOf at') ≤ 536870912 := by
      have h8 : componentBytes (newarray.typeOf at') ≤ 8 := by
        rcases ht with ⟨-, q⟩ | ⟨-, q⟩ <;> rw [q] <;> decide
      exact Nat.le_trans (Nat.mul_le_mul hn2 h8) (Nat.le_of_ble_eq_true rfl)
    refine va_newaK hx hb (hts _ w1) rfl hd rfl hn rfl hbytes (by omega) (by omega) rfl fun H1 cA1 e1 z1 o1 hAr hNm => ?_
    have hWL : WL (flQ M) ad cA D X h0 A (nw h (uq H.size) (16 + t) n.toNatClampNeg) s s.heap H1 locs := by
      refine bc_arr hA hX hP hD hS hKd hMd hLw (by rcases ht with ⟨q, -⟩ | ⟨q, -⟩ <;> omega) ?_ z1 o1
      rcases ht with ⟨rfl, q⟩ | ⟨rfl, q⟩
      · rw [q] at e1 hNm
        rw [show cA1 = cA 0 from Option.some.inj (hNm.symm.trans (cA_name hK (t := 0) rfl (by intro C; exact nofun)))] at e1
        exact e1
      · rw [q] at e1 hNm
        rw [show cA1 = cA 1 from Option.some.inj (hNm.symm.trans (cA_name hK (t := 1) rfl (by intro C; exact nofun)))] at e1
        exact e1
    have hgo := hk _ _ _ _ _ (hs (uq H.size) (uq_ge _) (kd_free hP hKd (Nat.le_refl H.size)).2) H1 locs (cells + 1) (slots + n.toNatClampNeg) lsA hWL hl (by omega) (by omega) hcap
    rw [ref_top hCQ] at hgo
    exact hgo
  · cases hs
theorem bc_newq (hC : Cb M Q Z p l e R s m args below meth cc ad cA D A X h0) (hk : ∀ pc c ls st h, k pc c ls st h → BtC M Z p l e R s m args below meth cc ad cA D A X h0 pc c ls st h) {idx : Nat} (w1 : Cond.classLink M.y.cls idx "java/lang/Object" ∈ tbG)
    (hd : decode M.b pc = .ok (.anewarray idx, 3)) (hs : qnewa M k pc 3 c ls st h 7) : BtC M Z p l e R s m args below meth cc ad cA D A X h0 pc c ls st h := by
  intro H locs cells slots lsA hW hl h1 h2 h3
  obtain ⟨⟨hx, hb, hml, hown, hts⟩, hK, hA, hKQ, hCQ, hX, hfl, hst, hroom, hnm0, hend⟩ := hC
  obtain ⟨L, hP, hD, hS, hKd, hMd, hLw⟩ := hW
  unfold qnewa at hs
  split at hs
  · rename_i n r
    obtain ⟨⟨hn, hn2⟩, hcap, hs⟩ := hs
    refine W.anew hx hb hown (hts _ w1) (va_AO.use hCQ.2.2.2.2.2.2.2.1) rfl hd rfl hn (by omega) (by omega) (by omega) fun cA1 kA comp f1 f2 f3 f4 => ?_
    generalize hH1 : H.push ({ cls := cA1, slots := Array.replicate n.toNatClampNeg .null, vm := .none } : Cell) = H1
    have z1 : H1.size = H.size + 1 := by rw [← hH1, Array.size_push]
    have o1 : ∀ q : Nat, q < H.size → H1[q]? = H[q]? := fun q hq => by rw [← hH1, Array.getElem?_push, if_neg (Nat.ne_of_lt hq)]
    have hWL : WL (flQ M) ad cA D X h0 A (nw h (uq H.size) (16 + 7) n.toNatClampNeg) s s.heap H1 locs := by
      refine bc_arr hA hX hP hD hS hKd hMd hLw (by decide) ?_ z1 o1
      rw [← hH1, Array.getElem?_push_size, arrV_new]
      rw [show cA1 = cA 7 from Option.some.inj (f1.symm.trans (cA_nameO hK (t := 7) rfl))]
      rfl
    have hgo := hk _ _ _ _ _ (hs (uq H.size) (uq_ge _) (kd_free hP hKd (Nat.le_refl H.size)).2) H1 locs (cells + 1) (slots + n.toNatClampNeg) lsA hWL hl (by omega) (by omega) hcap
    rw [ref_top hCQ] at hgo
    exact hgo
  · cases hs
end
