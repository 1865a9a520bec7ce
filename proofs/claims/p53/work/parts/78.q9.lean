/-! ===== the law's steps: the JDK's natives ===== -/
section
variable {p : Program} {l : Launch} {e : Env} {R : Room} {s : State} {m : MethodId} {args : Array Value} {below : List Frame} {meth : Method} {c : Code} {H : Heap} {locs : List Loc} {cells slots : Nat} {Q : State → Prop} {cc : ByteArray} {pc : Nat} {ls : Array Slot} {rest : List Value} {D : va_G} {cl : List vw_C} {A : Nat → Prop} {a : Nat} {tys : List (ClassId × FieldType)} {ws : va_W}
/-- bytes out of a constant's array (after the kit's va_copyx) -/
theorem cpy_cst (hexec : p.tables.exec = Jvm.exec) (hb : c.code = cc) (hml : c.maxLocals = ls.size) {own : String} {index : Nat} (hown : s.vm.findClass own = some m.cls) (hlink : (Cond.methodLink own index arraycopyName).before args s = true) (hnat : (Cond.native arraycopyName).before args s = true) (hstat : (Cond.static arraycopyName).before args s = true) (hini : (Cond.initialized "java/lang/System").before args s = true)
    (hK : va_K D cl tys s) (hP : va_P D cl ws H) (hD : va_D A ws) (hS : va_S A s.heap H locs) {b0 n0 : Nat} {f : Nat → Int32} (hX : va_T .byte b0 n0 (fun j => .int (f j)) A s s.heap) (q1 t1 : Nat) {c1 : ClassId} {n1 : Nat} {g : Nat → Int32} (ha1 : ws[q1]? = some (a, .inl (c1, n1, .inl g))) (ht1 : tys[t1]? = some (c1, .byte))
    {sp dp n : Int32} (h1 : ¬ sp < 0) (h2 : ¬ dp < 0) (h3 : ¬ n < 0) (h4 : sp.toNatClampNeg + n.toNatClampNeg ≤ n0) (h5 : dp.toNatClampNeg + n.toNatClampNeg ≤ n1) (hfit : ∀ i, i < n.toNatClampNeg → fits .byte (.int (f (sp.toNatClampNeg + i))) = true)
    (hframes : 1 ≤ R.frames) (hlocals : (rest.map fun v => v.category).sum + (nativeFrameWords "java/lang/System" "arraycopy" 5 + 11) ≤ R.locals) (hdg : decode cc pc = .ok (.invokestatic index, 3))
    (kk : ∀ (H1 : Heap) (locs1 : List Loc), va_P D cl (ws.set q1 (a, .inl (c1, n1, .inl (va_cpy f g sp.toNatClampNeg dp.toNatClampNeg n.toNatClampNeg)))) H1 → va_D A (ws.set q1 (a, .inl (c1, n1, .inl (va_cpy f g sp.toNatClampNeg dp.toNatClampNeg n.toNatClampNeg)))) → va_S A s.heap H1 locs1 → W p l e R s m args below meth c H1 locs1 cells slots Q (F0 m (pc + 3) ls rest)) : W p l e R s m args below meth c H locs cells slots Q (F0 m pc ls (.int n :: .int dp :: .ref a :: .int sp :: .ref b0 :: rest)) := by
  have nn : ∀ z : Int32, ¬ z < 0 → z.toInt = (z.toNatClampNeg : Int) := by
    intro z hz
    have hz0 : (0 : Int) ≤ z.toInt := by
      have := Int32.not_lt.mp hz
      simpa using Int32.le_iff_toInt_le.mp this
    show z.toInt = ((z.toInt.toNat : Nat) : Int)
    omega
  intro T hT X
  obtain ⟨scr, hs1, hs2, hs3, hs4, -, hs5, hbA⟩ := hX
  have hbl : b0 < s.heap.size := (Array.getElem?_eq_some_iff.mp hs1).1
  have hc0 : H[b0]? = some scr := by rw [hS.2.1 b0 hbl hbA]; exact hs1
  have hc1 : H[a]? = some (vp_cell c1 (n1, .inl g)) := hP q1 _ ha1
  obtain ⟨hs6, k0, hk0, cm0, hkk0⟩ := hs2
  obtain ⟨-, k1, hk1, cm1, hkk1⟩ := (hK.2 t1 _ ht1).1 n1 (fun j => .int (g j))
  obtain ⟨vm', X', step⟩ := X.arraycopy hexec hown hlink hnat hstat hini (src := b0) (dst := a) (cs := scr) (cd := vp_cell c1 (n1, .inl g)) (srcPos := sp) (destPos := dp) (n := n) (by rw [hT]; exact hc0) (by rw [hT]; exact hc1)
    hs6 (fun _ h => by cases h) hs3 (fun h => by cases h) hk0 hk1 hkk0 hkk1 (by simp [refKind]) h1 h2 h3
    (by rw [nn sp h1, nn n h3]; omega)
    (by rw [nn dp h2, nn n h3]; show ¬ _ > ((arrV c1 n1 (fun j => .int (g j))).slots.size : Int); rw [arrV_size]; omega)
    (fun vm₁ _ i hi => by
      have e : scr.slots.getD (sp.toNatClampNeg + i) .null = .int (f (sp.toNatClampNeg + i)) := by
        rw [Array.getD_eq_getD_getElem?, hs5 _ (by omega)]
        rfl
      refine ⟨?_, ?_⟩
      · rw [e]
        exact hfit i hi
      · rw [e]
        exact trivial)
    (g := F0 m pc ls (.int n :: .int dp :: .ref a :: .int sp :: .ref b0 :: rest)) rfl (by rw [hml]) (rest := rest) rfl (by rw [hb]; exact hdg) hframes (by show 2 * 0 + _ + _ ≤ _; omega)
  have e1 : copied scr (vp_cell c1 (n1, .inl g)) sp dp n = vp_cell c1 (n1, .inl (va_cpy f g sp.toNatClampNeg dp.toNatClampNeg n.toNatClampNeg)) := va_copiedX (fun z => .int z) scr c1 f g hs5 h4
  rw [e1] at X' step
  have hl : a < H.size := (Array.getElem?_eq_some_iff.mp hc1).1
  have hheap : ((T.setVm vm').setCell a (vp_cell c1 (n1, .inl (va_cpy f g sp.toNatClampNeg dp.toNatClampNeg n.toNatClampNeg)))).heap = H.setIfInBounds a (vp_cell c1 (n1, .inl (va_cpy f g sp.toNatClampNeg dp.toNatClampNeg n.toNatClampNeg))) := by rw [← hT]; rfl
  have oq : ∀ q : Nat, q ≠ a → (H.setIfInBounds a (vp_cell c1 (n1, .inl (va_cpy f g sp.toNatClampNeg dp.toNatClampNeg n.toNatClampNeg))))[q]? = H[q]? := fun q hq => by simp [Array.getElem?_setIfInBounds, Ne.symm hq]
  obtain ⟨t, a1, b1⟩ := kk _ _ (hP.set hD ha1 (show (H.setIfInBounds a _)[a]? = some _ by simp [Array.getElem?_setIfInBounds, hl]) oq) (hD.set ha1) ⟨by simp; exact hS.1, fun q g1 g2 => by
      rw [oq q (fun e => g2 (by rw [e]; exact hD.2 q1 _ ha1))]
      exact hS.2.1 q g1 g2, fun q hq => by
      rcases List.mem_append.mp hq with h | h
      · exact hS.2.2 q h
      · obtain ⟨z, -, hz⟩ := List.mem_map.mp h
        rw [← hz]
        exact hD.2 q1 _ ha1⟩ _ hheap X'
  exact ⟨t, step t a1, b1⟩
end
theorem gc_ok : Cond.native ⟨"java/lang/Object", "getClass", "()Ljava/lang/Class;"⟩ ∈ tbG ∧ Cond.instanceMethod ⟨"java/lang/Object", "getClass", "()Ljava/lang/Class;"⟩ ∈ tbG ∧ Cond.selects "[Ljava/lang/Object;" ⟨"java/lang/Object", "getClass", "()Ljava/lang/Class;"⟩ ⟨"java/lang/Object", "getClass", "()Ljava/lang/Class;"⟩ ∈ tbG := ⟨tbG_at (p := 1272) (by decide +kernel), tbG_at (p := 1251) (by decide +kernel), tbG_at (p := 1833) (by decide +kernel)⟩
theorem oi_ok : Cond.instanceMethod Lib.objectInit ∈ tbG ∧ Cond.code Lib.objectInit ⟨#[0xb1]⟩ 1 none ∈ tbG := ⟨tbG_at (p := 44) (by decide +kernel), tbG_at (p := 45) (by decide +kernel)⟩
theorem rf_tr (ad : Nat → Nat) (x : Nat) : (Value.ref (ad x) : Value) = va_rf (some (ad x)) := rfl
section
variable {M : MI} {Q : Res → PH → Prop} {Z : State → Prop} {p : Program} {l : Launch} {e : Env} {R : Room} {s : State} {m : MethodId} {args : Array Value} {below : List Frame} {meth : Method} {cc : Code} {ad : Nat → Nat} {cA : Nat → ClassId} {D : va_G} {A : Nat → Prop} {X : PH → va_W} {h0 : PH} {k : KT} {pc c : Nat} {ls : Lc} {st : List Value} {h : PH}
theorem cst_A (hKQ : KQ ad A s s.heap h0) (hMd : Md h0 h) {L : List Nat} (hKd : KdOk h L) {n : Nat} (hn : 32 ≤ qkd h n) : ¬ A (ad n) := by
  have hkq := (hKQ.of hMd hKd) n
  unfold kqF at hkq
  split at hkq
  · obtain ⟨-, ⟨_, -, -, -, q⟩, -⟩ := hkq; exact q
  · obtain ⟨-, _, -, -, -, -, -, -, q⟩ := hkq; exact q
  · obtain ⟨-, _, -, -, -, -, -, -, q⟩ := hkq; exact q
  · obtain ⟨-, _, -, -, -, -, -, -, q⟩ := hkq; exact q
  · omega
theorem bc_acmp (hC : Cb M Q Z p l e R s m args below meth cc ad cA D A X h0) (hk : ∀ pc c ls st h, k pc c ls st h → BtC M Z p l e R s m args below meth cc ad cA D A X h0 pc c ls st h) {cd : ACond} {off : Int} {t : Nat}
    (hd : decode M.b pc = .ok (.if_acmp cd off, 3)) (ht : (pc : Int) + off = (t : Int)) (hs : qacmp k pc t c cd ls st h) : BtC M Z p l e R s m args below meth cc ad cA D A X h0 pc c ls st h := by
  intro H locs cells slots lsA hW hl h1 h2 h3
  obtain ⟨⟨hx, hb, hml, hown, hts⟩, hK, hA, hKQ, hCQ, hX, hfl, hst, hroom, hnm0, hend⟩ := hC
  have hW0 := hW
  obtain ⟨L, hP, hD, hS, hKd, hMd, hLw⟩ := hW
  unfold qacmp at hs
  split at hs
  · rename_i y x r
    obtain ⟨hxy, hs⟩ := hs
    have inj : ad x = ad y → x = y := by
      intro ea
      rcases hxy with q | ⟨q1, q2, q3, q4⟩
      · exact q
      · exfalso
        have hn := cst_A hKQ hMd hKd q4
        apply hn
        rw [← ea]
        have q5 : qkd h x < 32 := by
          rcases hKd x q2 with ⟨-, -, z⟩ | ⟨z, -⟩
          · exact z
          · exact absurd q1 (Nat.not_le.mpr z)
        obtain ⟨i, hi⟩ := pq_get (X := X h) (ad := ad) (cA := cA) hKd q2 q5
        rw [ad_own hCQ q1]
        exact hD.2 i _ hi
    have go : ∀ pc' : Nat, k pc' c ls r h → W p l e R s m args below meth cc H locs cells slots Z (F0 m pc' lsA (r.map (tr ad))) := fun pc' h9 => hk _ _ _ _ _ h9 H locs cells slots lsA hW0 hl h1 h2 h3
    have e1 : ∀ {u v : Nat}, some (ad u) = some (ad v) → ad u = ad v := fun h => Option.some.inj h
    cases cd
    · exact lv_acmp_eq (rx := some (ad x)) (ry := some (ad y)) hx hb hd ht (fun q => go _ (hs.1 (inj (e1 q)))) (fun q => go _ (hs.2 (fun z => q (by rw [z]))))
    · exact lv_acmp_ne (rx := some (ad x)) (ry := some (ad y)) hx hb hd ht (fun q => go _ (hs.1 (fun z => q (by rw [z])))) (fun q => go _ (hs.2 (inj (e1 q))))
  · cases hs
theorem bc_nat (hC : Cb M Q Z p l e R s m args below meth cc ad cA D A X h0) (hk : ∀ pc c ls st h, k pc c ls st h → BtC M Z p l e R s m args below meth cc ad cA D A X h0 pc c ls st h) {idx kind : Nat} (hR : 1 ≤ M.fr ∧ 60 ≤ M.lo)
    (hd : match kind with
      | 17 => decode M.b pc = .ok (.invokevirtual idx, 3)
      | 18 => decode M.b pc = .ok (.invokespecial idx, 3)
      | _ => decode M.b pc = .ok (.invokestatic idx, 3))
    (hw : match kind with
      | 10 => Cond.methodLink M.y.cls idx Lib.Math.min.name ∈ tbG
      | 11 => Cond.methodLink M.y.cls idx Lib.Math.max.name ∈ tbG
      | 12 => Cond.methodLink M.y.cls idx Lib.Math.abs.name ∈ tbG
      | 15 => Cond.methodLink M.y.cls idx arraycopyName ∈ tbG
      | 16 => Cond.methodLink M.y.cls idx arraycopyName ∈ tbG
      | 17 => Cond.methodLink M.y.cls idx ⟨"java/lang/Object", "getClass", "()Ljava/lang/Class;"⟩ ∈ tbG
      | _ => Cond.methodLink M.y.cls idx Lib.objectInit ∈ tbG)
    (hs : qnat k pc kind c ls st h) : BtC M Z p l e R s m args below meth cc ad cA D A X h0 pc c ls st h := by
  intro H locs cells slots lsA hW hl h1 h2 h3
  obtain ⟨⟨hx, hb, hml, hown, hts⟩, hK, hA, hKQ, hCQ, hX, hfl, hst, ⟨r1, r2, r3, r4⟩, hnm0, hend⟩ := hC
  have hW0 := hW
  obtain ⟨L, hP, hD, hS, hKd, hMd, hLw⟩ := hW
  have hsz : cc.maxLocals = lsA.size := hml.trans hl.1.symm
  have go : ∀ (st' : List Value), k (pc + 3) c ls st' h → W p l e R s m args below meth cc H locs cells slots Z (F0 m (pc + 3) lsA (st'.map (tr ad))) := fun st' h9 => hk _ _ _ _ _ h9 H locs cells slots lsA hW0 hl h1 h2 h3
  have own : ∀ n t, qkd h n = 16 + t → t < 16 → ad n = dq n := fun n t ht h16 => ad_own hCQ (hKd.own (by omega) (by omega)).1
  unfold qnat at hs
  match kind, hd, hw, hs with
  | 10, hd, hw, hs =>
    simp only at hs
    split at hs
    · rename_i y x r _
      obtain ⟨h8, hs⟩ := cat8_of hs
      exact va_mmin hx hb hsz hown (hts _ hw) (hts _ mm_min.1) (hts _ mm_min.2.1) (hts _ mm_min.2.2) (by omega) (by rw [cat_tr]; omega) (by omega) (by omega) hd (go _ hs)
    · cases hs
  | 11, hd, hw, hs =>
    simp only at hs
    split at hs
    · rename_i y x r _
      obtain ⟨h8, hs⟩ := cat8_of hs
      exact va_mmax hx hb hsz hown (hts _ hw) (hts _ mm_max.1) (hts _ mm_max.2.1) (hts _ mm_max.2.2) (by omega) (by rw [cat_tr]; omega) (by omega) (by omega) hd (go _ hs)
    · cases hs
  | 12, hd, hw, hs =>
    simp only at hs
    split at hs
    · rename_i x r _
      obtain ⟨h8, hs⟩ := cat8_of hs
      exact va_mabs hx hb hsz hown (hts _ hw) (hts _ mm_abs.1) (hts _ mm_abs.2.1) (hts _ mm_abs.2.2) (by omega) (by rw [cat_tr]; omega) (by omega) (by omega) hd (go _ hs)
    · cases hs
  | 15, hd, hw, hs =>
    simp only at hs
    split at hs
    · rename_i n dp b sp a r _
      obtain ⟨h8, hs⟩ := cat8_of hs
      obtain ⟨⟨ka, kb⟩, ⟨u1, u2, u3, u4, u5⟩, hfit, hs⟩ := hs
      obtain ⟨-, -, ib, hib⟩ := arr_at (X := X) (ad := ad) (cA := cA) hKd (t := 1) kb (by decide)
      have hib0 : (X h ++ pq ad cA h L)[ib]? = some (dq b, celQ ad cA h b) := by rw [hib, celQ_ar (t := 1) kb]
      have fin : ∀ (H1 : Heap) (locs1 : List Loc), va_P D pmCl ((X h ++ pq ad cA h L).set ib (dq b, .inl (cA 1, qln h b, .inl (va_cpy (h.1 a) (h.1 b) sp.toNatClampNeg dp.toNatClampNeg n.toNatClampNeg)))) H1 → va_D A ((X h ++ pq ad cA h L).set ib (dq b, .inl (cA 1, qln h b, .inl (va_cpy (h.1 a) (h.1 b) sp.toNatClampNeg dp.toNatClampNeg n.toNatClampNeg)))) → va_S A s.heap H1 locs1 → W p l e R s m args below meth cc H1 locs1 cells slots Z (F0 m (pc + 3) lsA (r.map (tr ad))) := by
        intro H1 locs1 hP1 hD1 hS1
        refine hk _ _ _ _ _ hs H1 locs1 cells slots lsA (WL.set hX hKd hMd hLw (by omega) (by omega) hD hib0 (Oth.cpi h a sp.toNatClampNeg b dp.toNatClampNeg n.toNatClampNeg) rfl ?_ hP1 hD1 hS1) hl h1 h2 h3
        rw [celQ_ar (h := cpi h a sp.toNatClampNeg b dp.toNatClampNeg n.toNatClampNeg) (t := 1) kb]
        show _ = Sum.inl (cA 1, qln h b, Sum.inl (if b = b then va_cpy (h.1 a) (h.1 b) sp.toNatClampNeg dp.toNatClampNeg n.toNatClampNeg else h.1 b))
        rw [if_pos rfl]
      show W p l e R s m args below meth cc H locs cells slots Z (F0 m pc lsA (.int n :: .int dp :: .ref (ad b) :: .int sp :: .ref (ad a) :: r.map (tr ad)))
      rw [own b 1 kb (by decide)]
      rcases ka with ka | ka
      · obtain ⟨-, -, ia, hia⟩ := arr_at (X := X) (ad := ad) (cA := cA) hKd (t := 1) ka (by decide)
        rw [own a 1 ka (by decide)]
        exact va_copyi hx hb hsz hown (hts _ hw) (hts _ mm_cpy.1) (hts _ mm_cpy.2.1) (hts _ mm_cpy.2.2) hK hP hD hS ia ib 1 1 hia hib rfl rfl rfl u1 u2 u3 u4 u5 hfit (by omega) (by rw [cat_tr, nfw7]; omega) hd fin
      · exact cpy_cst hx hb hsz hown (hts _ hw) (hts _ mm_cpy.1) (hts _ mm_cpy.2.1) (hts _ mm_cpy.2.2) hK hP hD hS ((cst_T hKQ hMd hKd a).2.1 ka) ib 1 hib rfl u1 u2 u3 u4 u5 hfit (by omega) (by rw [cat_tr, nfw7]; omega) hd fin
    · cases hs
  | 16, hd, hw, hs =>
    simp only at hs
    split at hs
    · rename_i n dp b sp a r _
      obtain ⟨h8, hs⟩ := cat8_of hs
      obtain ⟨⟨ka, kb⟩, ⟨u1, u2, u3, u4, u5⟩, ⟨g, hg, hel⟩, hs⟩ := hs
      obtain ⟨-, -, ia, hia⟩ := arr_at (X := X) (ad := ad) (cA := cA) hKd (t := 7) ka (by decide)
      obtain ⟨-, -, ib, hib⟩ := arr_at (X := X) (ad := ad) (cA := cA) hKd (t := 7) kb (by decide)
      have hib0 : (X h ++ pq ad cA h L)[ib]? = some (dq b, celQ ad cA h b) := by rw [hib, celQ_ar (t := 7) kb]
      have ec : va_cpy (fun j => (h.2.2.1 a j).map ad) (fun j => (h.2.2.1 b j).map ad) sp.toNatClampNeg dp.toNatClampNeg n.toNatClampNeg = fun j => ((cpr h a sp.toNatClampNeg b dp.toNatClampNeg n.toNatClampNeg).2.2.1 b j).map ad := by
        funext j
        show _ = ((if b = b then va_cpy (h.2.2.1 a) (h.2.2.1 b) sp.toNatClampNeg dp.toNatClampNeg n.toNatClampNeg else h.2.2.1 b) j).map ad
        rw [if_pos rfl]
        unfold va_cpy
        split <;> rfl
      show W p l e R s m args below meth cc H locs cells slots Z (F0 m pc lsA (.int n :: .int dp :: .ref (ad b) :: .int sp :: .ref (ad a) :: r.map (tr ad)))
      rw [own b 7 kb (by decide), own a 7 ka (by decide)]
      refine va_copyq (C := if g = 1 then RX12 else "[I") hx hb hsz hown (hts _ hw) (hts _ mm_cpy.1) (hts _ mm_cpy.2.1) (hts _ mm_cpy.2.2) hK hP hD hS ia ib 7 7 hia hib rfl rfl u1 u2 u3 u4 u5 ?_ (cls_asg hCQ hg) (by omega) (by rw [cat_tr, nfw7]; omega) hd ?_
      · intro i hi y hy
        have hy2 : (gr h a (sp.toNatClampNeg + i)).map ad = some y := hy
        cases hz : gr h a (sp.toNatClampNeg + i) with
        | none => rw [hz] at hy2; cases hy2
        | some z =>
          rw [hz] at hy2
          cases hy2
          exact cls_own (X := X) hK hCQ hKd hP hg (hel i hi z hz)
      · intro H1 locs1 hP1 hD1 hS1
        refine hk _ _ _ _ _ hs H1 locs1 cells slots lsA (WL.set hX hKd hMd hLw (by omega) (by omega) hD hib0 (Oth.cpr h a sp.toNatClampNeg b dp.toNatClampNeg n.toNatClampNeg) rfl ?_ hP1 hD1 hS1) hl h1 h2 h3
        rw [celQ_ar (h := cpr h a sp.toNatClampNeg b dp.toNatClampNeg n.toNatClampNeg) (t := 7) kb, ec]
        rfl
    · cases hs
  | 17, hd, hw, hs =>
    simp only at hs
    split at hs
    · rename_i a r _
      obtain ⟨h8, hs⟩ := cat8_of hs
      obtain ⟨ka, hs⟩ := hs
      obtain ⟨-, -, ia, hia⟩ := arr_at (X := X) (ad := ad) (cA := cA) hKd (t := 7) ka (by decide)
      show W p l e R s m args below meth cc H locs cells slots Z (F0 m pc lsA (.ref (ad a) :: r.map (tr ad)))
      rw [own a 7 ka (by decide)]
      exact va_getC hx hb hsz hown (hts _ hw) (va_Nw.use rfl (hCQ.2.1 _ (by decide +kernel))) (hts _ gc_ok.2.2) (hts _ gc_ok.2.1) (hts _ gc_ok.1) hCQ.2.2.2.2.2.2.1 ⟨_, hP ia _ hia, rfl, cA_nameO hK (t := 7) rfl⟩ (by omega) (by rw [cat_tr]; omega) hd (go _ hs)
    · cases hs
  | 18, hd, hw, hs =>
    simp only at hs
    split at hs
    · rename_i a r _
      obtain ⟨h8, hs⟩ := cat8_of hs
      exact W.objInit hx hb hown (hts _ hw) (hts _ oi_ok.1) (hts _ oi_ok.2) (g := F0 m pc lsA ((Value.ref a :: r).map (tr ad))) rfl hsz.symm rfl hd (by omega) (by show 2 * 0 + _ + 12 ≤ _; rw [cat_tr]; omega) (go _ hs)
    · cases hs
  | 0, _, _, hs => exact hs.elim
  | 1, _, _, hs => exact hs.elim
  | 2, _, _, hs => exact hs.elim
  | 3, _, _, hs => exact hs.elim
  | 4, _, _, hs => exact hs.elim
  | 5, _, _, hs => exact hs.elim
  | 6, _, _, hs => exact hs.elim
  | 7, _, _, hs => exact hs.elim
  | 8, _, _, hs => exact hs.elim
  | 9, _, _, hs => exact hs.elim
  | 13, _, _, hs => exact hs.elim
  | 14, _, _, hs => exact hs.elim
  | _ + 19, _, _, hs => exact hs.elim
end
