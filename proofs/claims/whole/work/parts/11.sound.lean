/-! ===== the soundness of one step ===== -/
theorem law_e13 : Cond.classLink RL 13 (exN 0) ∈ tbG := tbG_at (p := 677) (by decide +kernel)
theorem law_e19 : Cond.classLink RL 19 (exN 1) ∈ tbG := tbG_at (p := 752) (by decide +kernel)
theorem law_e35 : Cond.classLink RL 35 (exN 2) ∈ tbG := tbG_at (p := 1112) (by decide +kernel)
theorem mm_min : Cond.static Lib.Math.min.name ∈ tbG ∧ Cond.initialized "java/lang/Math" ∈ tbG ∧ Cond.code Lib.Math.min.name Lib.Math.min.code 2 (some .int) ∈ tbG := ⟨tbG_at (p := 431) (by decide +kernel), tbG_at (p := 23) (by decide +kernel), tbG_at (p := 432) (by decide +kernel)⟩
theorem mm_max : Cond.static Lib.Math.max.name ∈ tbG ∧ Cond.initialized "java/lang/Math" ∈ tbG ∧ Cond.code Lib.Math.max.name Lib.Math.max.code 2 (some .int) ∈ tbG := ⟨tbG_at (p := 424) (by decide +kernel), tbG_at (p := 23) (by decide +kernel), tbG_at (p := 425) (by decide +kernel)⟩
theorem mm_abs : Cond.static Lib.Math.abs.name ∈ tbG ∧ Cond.initialized "java/lang/Math" ∈ tbG ∧ Cond.code Lib.Math.abs.name Lib.Math.abs.code 1 (some .int) ∈ tbG := ⟨tbG_at (p := 489) (by decide +kernel), tbG_at (p := 23) (by decide +kernel), tbG_at (p := 490) (by decide +kernel)⟩
theorem mm_cpy : Cond.native arraycopyName ∈ tbG ∧ Cond.static arraycopyName ∈ tbG ∧ Cond.initialized "java/lang/System" ∈ tbG := ⟨tbG_at (p := 558) (by decide +kernel), tbG_at (p := 557) (by decide +kernel), tbG_at (p := 24) (by decide +kernel)⟩
theorem conk_inl {rt : Nat} {q : Nat → PH → Prop} {kk : List Value → PH → Prop} {v : Option Value} {h : PH} (hc : conk rt q kk (.inl v) h) : kk v.toList h := by
  unfold conk at hc
  split at hc
  · rcases v with _ | v
    · exact hc
    · cases hc
  · rcases v with _ | v
    · cases hc
    · cases v <;> first | exact hc | cases hc
  · rcases v with _ | v
    · cases hc
    · cases v <;> first | exact hc | cases hc
  · rcases v with _ | v
    · cases hc
    · cases v <;> first | exact hc | cases hc
  · rcases v with _ | v
    · cases hc
    · cases v <;> first | exact hc | cases hc
  · rcases v with _ | v
    · cases hc
    · cases v <;> first | exact hc | cases hc
theorem conk_inr {rt : Nat} {q : Nat → PH → Prop} {kk : List Value → PH → Prop} {x : Nat} {h : PH} (hc : conk rt q kk (.inr x) h) : q x h := by
  unfold conk at hc
  split at hc <;> exact hc
theorem tr_toList (ad : Nat → Nat) (v : Option Value) : (v.map (tr ad)).toList = v.toList.map (tr ad) := by cases v <;> rfl
theorem cat8_of {st : List Value} {P : Prop} (h : cat8 st P) : (st.map (fun v => v.category)).sum ≤ 8 ∧ P := by
  unfold cat8 at h
  split at h
  · rename_i hb; exact ⟨Nat.le_of_ble_eq_true hb, h⟩
  · cases h
theorem cat_tr (ad : Nat → Nat) (st : List Value) : (st.map (tr ad)).map (fun v => v.category) = st.map (fun v => v.category) := by
  rw [List.map_map]
  apply List.map_congr_left
  intro v _
  exact tr_cat ad v
theorem capk_of {c mcv cap : Nat} {P : Prop} (h : capk c mcv cap P) (hc : c ≤ cap) : c + mcv ≤ cap ∧ P := by
  unfold capk at h
  split at h
  · exact ⟨hc, h⟩
  · exact h
theorem retC_rt {rt : Nat} {r : Option FieldType} (h : retC rt r = true) : True := trivial
theorem calB_of {M M' : MI} {n mcv rt : Nat} (h : calB M M' n mcv rt = true) : mcv = M'.cap ∧ M'.fr + 1 ≤ M.fr ∧ 8 + (M'.nl + 11) + M'.lo ≤ M.lo ∧ M'.y.cls ≠ "java/lang/invoke/MethodHandle" ∧ M'.y.cls ≠ "java/lang/invoke/VarHandle" ∧ (parseMethodDescriptor M'.y.desc).map (fun d => d.parameters.length) = some n := by
  simp only [calB, Bool.and_eq_true, decide_eq_true_eq] at h
  obtain ⟨⟨⟨⟨h1, h2⟩, h3⟩, -⟩, h4⟩ := h
  exact ⟨Nat.eq_of_beq_eq_true h1, Nat.le_of_ble_eq_true h2, Nat.le_of_ble_eq_true h3, h4⟩
section
variable {M : MI} {Q : Res → PH → Prop} {Z : State → Prop} {p : Program} {l : Launch} {e : Env} {R : Room} {s : State} {m : MethodId} {args : Array Value} {below : List Frame} {meth : Method} {cc : Code} {ad : Nat → Nat} {cA : Nat → ClassId} {D : va_G} {A : Nat → Prop} {xs : Nat → Int32} {L : Nat} {k : KT} {pc c : Nat} {ls : Lc} {st : List Value} {h : PH}
theorem ac_str (hC : Cx M Q Z p l e R s m args below meth cc ad cA D A xs L) {i : Instr} {rt : Nat} (hd : decode M.b pc = .ok (i, 1))
    (hok : ∀ v : Option Value, (match rt with
      | 0 => v = none
      | 1 => ∃ x, v = some (.int x)
      | 2 => ∃ x, v = some (.long x)
      | 3 => ∃ x, v = some (.float x)
      | 4 => ∃ x, v = some (.double x)
      | 5 => v = some .null ∨ ∃ a, v = some (.ref a)
      | 6 => ∃ x, v = some (.int x) ∧ isB x
      | 7 => ∃ x, v = some (.int x) ∧ narrow .byte (.int x) = .int x
      | _ => ∃ x, v = some (.int x) ∧ narrow .char (.int x) = .int x) → rtOk M.ret i v) (hs : str Q rt st h) : AtC M Z p l e R s m args below meth cc ad cA D A xs L pc c ls st h := by
  intro H locs cells slots lsA hW hl h1 h2 h3
  obtain ⟨-, -, -, -, -, -, -, -, -, hend, -, -⟩ := hC
  have fin : ∀ v : Option Value, st = v.toList → rtOk M.ret i v → Q (.inl v) h → W p l e R s m args below meth cc H locs cells slots Z (F0 m pc lsA (st.map (tr ad))) := by
    intro v hv hr hq
    have := hend v h H locs cells slots pc i lsA hd hr hq hW (by omega) (by omega)
    rw [tr_toList, ← hv] at this
    exact this
  unfold str at hs
  split at hs
  · split at hs
    · exact fin none rfl (hok none rfl) hs
    · cases hs
  · split at hs
    · exact fin (some _) rfl (hok _ ⟨_, rfl⟩) hs
    · cases hs
  · split at hs
    · exact fin (some _) rfl (hok _ ⟨_, rfl⟩) hs
    · cases hs
  · split at hs
    · exact fin (some _) rfl (hok _ ⟨_, rfl⟩) hs
    · cases hs
  · split at hs
    · exact fin (some _) rfl (hok _ ⟨_, rfl⟩) hs
    · cases hs
  · split at hs
    · exact fin (some _) rfl (hok _ (Or.inr ⟨_, rfl⟩)) hs
    · exact fin (some _) rfl (hok _ (Or.inl rfl)) hs
    · cases hs
  · split at hs
    · exact fin (some _) rfl (hok _ ⟨_, rfl, hs.1⟩) hs.2
    · cases hs
  · split at hs
    · exact fin (some _) rfl (hok _ ⟨_, rfl, hs.1⟩) hs.2
    · cases hs
  · rename_i r0 r1 r2 r3 r4 r5 r6 r7
    split at hs
    · exact fin (some _) rfl (hok _ (by
        split
        · exact absurd rfl r0
        · exact ⟨_, rfl⟩
        · exact absurd rfl r2
        · exact absurd rfl r3
        · exact absurd rfl r4
        · exact absurd rfl r5
        · exact absurd rfl r6
        · exact absurd rfl r7
        · exact ⟨_, rfl, hs.1⟩)) hs.2
    · cases hs
theorem ac_new (hC : Cx M Q Z p l e R s m args below meth cc ad cA D A xs L) {ik ic x : Nat} (hth : thOk M pc ik ic x) (h8 : (st.map (fun v => v.category)).sum ≤ 8) (hcap : c + 1 ≤ M.cap) (hq : Q (.inr x) h) : AtC M Z p l e R s m args below meth cc ad cA D A xs L pc c ls st h := by
  intro H locs cells slots lsA hW hl h1 h2 h3
  obtain ⟨-, -, -, -, -, -, -, -, -, -, hthr, -⟩ := hC
  exact hthr x h H locs cells slots pc ik ic lsA _ hth hq hW (by omega) (by omega) hl.1 (by rw [cat_tr]; exact h8)
theorem wl_mono {H : Heap} {locs : List Loc} {cells slots : Nat} {g : JFrame} (hk : ∀ (pc c : Nat) (ls : Lc) (st : List Value) (h : PH), k pc c ls st h → AtC M Z p l e R s m args below meth cc ad cA D A xs L pc c ls st h) : True := trivial
/-- an exception of a call: to the handler, or out -/
theorem ac_hnd (hC : Cx M Q Z p l e R s m args below meth cc ad cA D A xs L) {a : KT} (ha : ∀ pc c ls st h, a pc c ls st h → AtC M Z p l e R s m args below meth cc ad cA D A xs L pc c ls st h) {hs : List Nat} (hok : okI.hsOk M pc hs = true)
    {x c' : Nat} {h' : PH} (hh : hnd Q a c' ls hs x h') {H1 : Heap} {locs1 : List Loc} {cells1 slots1 : Nat} {lsA : Array Slot} {rest : List Value} {q : Addr} {ce : Cell} (hW : WH ad cA D xs L A h' s s.heap H1 locs1) (hl : lv_has lsA M.nl (tl ad ls)) (h1 : cells1 ≤ c') (h2 : slots1 ≤ 6 * c') (h3 : c' ≤ M.cap)
    (hce : H1[q]? = some ce) (hcv : ce.vm = .none) (hcl : s.vm.findClass (exN x) = some ce.cls) : vx_W p l e R s m args below meth cc H1 locs1 cells1 slots1 Z (F0 m pc lsA rest) q := by
  obtain ⟨⟨hx, hb, hml, hown, hts⟩, hK, hA, hCF, hxw, hsc, hst, hroom, htab, hend, hthr, hprop⟩ := hC
  have out : Q (.inr x) h' → vx_W p l e R s m args below meth cc H1 locs1 cells1 slots1 Z (F0 m pc lsA rest) q := fun hq =>
    hprop x h' H1 locs1 cells1 slots1 pc lsA rest q ce hq hW (by omega) (by omega) hce hcv hcl
  unfold hnd at hh
  split at hh
  · exact out hh
  · rename_i hne
    split at hh
    · exact out hh
    · rename_i hane
      have hok2 : (Nat.beq hs.length 6 && decide (M.y.cls = RL) && M.hh.all (fun q => decide (q.2.2.2 = 13 ∨ q.2.2.2 = 19 ∨ q.2.2.2 = 35)) && (List.range 3).all (fun e => Nat.beq (hs.getD (2 * e) 0) 0 || okI.hdOk M pc e (hs.getD (2 * e) 0) (hs.getD (2 * e + 1) 0))) = true := by
        cases hs with
        | nil => exact absurd rfl hne
        | cons _ _ => exact hok
      simp only [Bool.and_eq_true, decide_eq_true_eq] at hok2
      obtain ⟨⟨⟨hlen6, hRL⟩, hcts⟩, hall⟩ := hok2
      by_cases hx3 : x < 3
      · have h9 := List.all_eq_true.mp hall x (List.mem_range.mpr hx3)
        simp only [Bool.or_eq_true] at h9
        rcases h9 with h9 | h9
        · exact absurd (Nat.eq_of_beq_eq_true h9) hane
        · unfold okI.hdOk at h9
          split at h9
          · rename_i i hfi
            split at h9
            · rename_i qr hqr
              simp only [Bool.and_eq_true] at h9
              obtain ⟨⟨⟨⟨b1, b2⟩, b3⟩, b4⟩, b5⟩ := h9
              have hi := List.findIdx?_eq_some_iff_getElem.mp hfi
              obtain ⟨hil, hct, -⟩ := hi
              have hqe : M.hh[i] = qr := by
                rw [List.getElem?_eq_getElem hil] at hqr
                exact Option.some.inj hqr
              rw [hqe] at hct
              have hct' : okI.ctE qr.2.2.2 = x := Nat.eq_of_beq_eq_true hct
              have hqin : qr ∈ M.hh := by rw [← hqe]; exact List.getElem_mem hil
              have hsplit : cc.exceptionTable.toList = (tableOf (M.hh.take i)) ++ ⟨qr.1, qr.2.1, qr.2.2.1, qr.2.2.2⟩ :: tableOf (M.hh.drop (i + 1)) := by
                rw [htab]
                have : M.hh = M.hh.take i ++ qr :: M.hh.drop (i + 1) := by
                  rw [← hqe, List.getElem_cons_drop hil, List.take_append_drop]
                conv => lhs; rw [this]
                simp [tableOf]
              have cls_of : ∀ z ∈ M.hh, (Cond.classLink M.y.cls z.2.2.2 (exN (okI.ctE z.2.2.2))).before args s = true ∧ z.2.2.2 ≠ 0 := by
                intro z hz
                have h5 := List.all_eq_true.mp hcts z hz
                simp only [decide_eq_true_eq] at h5
                rw [hRL]
                rcases h5 with h5 | h5 | h5 <;> rw [h5]
                · exact ⟨hts _ law_e13, by decide⟩
                · exact ⟨hts _ law_e19, by decide⟩
                · exact ⟨hts _ law_e35, by decide⟩
              have hcast : (Cond.castable (exN x) (exN x)).before args s = true := by
                match x, hx3 with
                | 0, _ => exact va_Nw.use rfl (hxw.1 (.castable (exN 0) (exN 0)) (by decide +kernel))
                | 1, _ => exact va_Nw.use rfl (hxw.1 (.castable (exN 1) (exN 1)) (by decide +kernel))
                | 2, _ => exact va_Nw.use rfl (hxw.1 (.castable (exN 2) (exN 2)) (by decide +kernel))
              have hnc : ∀ y, y < 3 → x < y → va_Nc (exN x) (exN y) s := by
                intro y hy hxy
                obtain ⟨-, ⟨n1, n2, n3⟩, -⟩ := hCF
                match x, y, hy, hxy with
                | 0, 1, _, _ => exact n3
                | 0, 2, _, _ => exact n2
                | 1, 2, _, _ => exact n1
                | 2, y, hy, hxy => omega
              have hcte : ∀ ct, okI.ctE ct < 3 := by
                intro ct
                unfold okI.ctE
                split <;> decide
              refine vx_catch (pc := pc) (E := exN x) (ce := ce) hown (tableOf (M.hh.take i)) ⟨qr.1, qr.2.1, qr.2.2.1, qr.2.2.2⟩ (tableOf (M.hh.drop (i + 1))) hsplit ?_ ?_ (cls_of qr hqin).2 (by have := (cls_of qr hqin).1; rw [hct'] at this; exact this) hcast hce hcv hcl ?_
              · intro z hz
                right
                simp only [tableOf, List.mem_map] at hz
                obtain ⟨z0, hz0, rfl⟩ := hz
                have hz1 : z0 ∈ M.hh := List.mem_of_mem_take hz0
                have hz2 := List.all_eq_true.mp b3 z0 hz0
                exact ⟨(cls_of z0 hz1).2, _, (cls_of z0 hz1).1, hnc _ (hcte _) (blt_of hz2)⟩
              · have c1 := Nat.le_of_ble_eq_true b1
                have c2 := blt_of b2
                simp [covers, c1, c2]
              · have hj := blt_of b4
                simp only [Bool.or_eq_true, decide_eq_true_eq] at b5
                rcases b5 with b5 | b5
                · obtain ⟨d1, d2⟩ := b5
                  refine lv_astore hx hb d1 hl hj rfl (fun ls' hl' => ?_)
                  have hgo := ha _ _ _ _ _ hh H1 locs1 cells1 slots1 ls' hW (lv_mono hl' tl_put0) h1 h2 h3
                  rw [d2] at hgo
                  exact hgo
                · obtain ⟨f, -, b5⟩ := List.any_eq_true.mp b5
                  simp only [decide_eq_true_eq] at b5
                  obtain ⟨d0, d1, d2⟩ := b5
                  refine lv_astore_n hx hb d1 d0 hl hj rfl (fun ls' hl' => ?_)
                  have hgo := ha _ _ _ _ _ hh H1 locs1 cells1 slots1 ls' hW (lv_mono hl' tl_put0) h1 h2 h3
                  rw [d2] at hgo
                  exact hgo
            · cases h9
          · cases h9
      · exfalso
        apply hane
        rw [List.getD_eq_getElem?_getD, List.getElem?_eq_none (by rw [Nat.eq_of_beq_eq_true hlen6]; omega)]
        rfl
end
