/-! ===== steps that write, arrays, switches ===== -/
theorem pd_I : parseFieldDescriptor "I" = some .int := by decide +kernel
theorem pd_Z : parseFieldDescriptor "Z" = some .boolean := by decide +kernel
theorem pd_J : parseFieldDescriptor "J" = some .long := by decide +kernel
theorem scr_si {xs : PH} {L a j : Nat} {x : Int32} {h : PH} (ha : a < NK) (hs : scr xs L h) : scr xs L (si h a j x) := by
  have hN : NK = 130 := rfl
  intro b hb
  obtain ⟨e1, e2, e3, e4⟩ := hs b hb
  exact ⟨(up2_a _ _ _ (by omega)).trans e1, e2, e3, e4⟩
theorem scr_sl {xs : PH} {L a j : Nat} {x : Int64} {h : PH} (ha : a < NK) (hs : scr xs L h) : scr xs L (sl h a j x) := by
  have hN : NK = 130 := rfl
  intro b hb
  obtain ⟨e1, e2, e3, e4⟩ := hs b hb
  exact ⟨e1, (up2_a _ _ _ (by omega)).trans e2, e3, e4⟩
theorem scr_sr {xs : PH} {L a j : Nat} {x : Option Nat} {h : PH} (ha : a < NK) (hs : scr xs L h) : scr xs L (sr h a j x) := by
  have hN : NK = 130 := rfl
  intro b hb
  obtain ⟨e1, e2, e3, e4⟩ := hs b hb
  exact ⟨e1, e2, (up2_a _ _ _ (by omega)).trans e3, e4⟩
theorem scr_cpi {xs : PH} {L a sp b dp n : Nat} {h : PH} (hb : b < NK) (hs : scr xs L h) : scr xs L (cpi h a sp b dp n) := by
  have hN : NK = 130 := rfl
  intro d hd
  obtain ⟨e1, e2, e3, e4⟩ := hs d hd
  exact ⟨(if_neg (by omega : ¬ d = b)).trans e1, e2, e3, e4⟩
theorem scr_cpl {xs : PH} {L a sp b dp n : Nat} {h : PH} (hb : b < NK) (hs : scr xs L h) : scr xs L (cpl h a sp b dp n) := by
  have hN : NK = 130 := rfl
  intro d hd
  obtain ⟨e1, e2, e3, e4⟩ := hs d hd
  exact ⟨e1, (if_neg (by omega : ¬ d = b)).trans e2, e3, e4⟩
section
variable {M : MI} {Q : Res → PH → Prop} {Z : State → Prop} {p : Program} {l : Launch} {e : Env} {R : Room} {s : State} {m : MethodId} {args : Array Value} {below : List Frame} {meth : Method} {cc : Code} {ad : Nat → Nat} {cA : Nat → ClassId} {D : va_G} {A : Nat → Prop} {xs : PH} {L : Nat} {k : KT} {pc c : Nat} {ls : Lc} {st : List Value} {h : PH}
theorem ac_put (hx : p.tables.exec = Jvm.exec) (hb : cc.code = M.b) (hown : s.vm.findClass M.y.cls = some m.cls) (hts : ∀ w ∈ tbG, w.before args s = true) (hK : va_K D pmCl (pmTy cA) s) (hk : ∀ pc c ls st h, k pc c ls st h → AtC M Z p l e R s m args below meth cc ad cA D A xs L pc c ls st h) {idx ci j so q : Nat}
    (hd : decode M.b pc = .ok (.putfield idx, 3)) (hf : fldOk M idx ci j so q = true) (hfin : (match pmCl[ci]? with
      | some (_, T, _) => !(T j).2.2.2
      | none => false) = true) (hs : stp0 k pc c ls st h ci j so) : AtC M Z p l e R s m args below meth cc ad cA D A xs L pc c ls st h := by
  intro H locs cells slots lsA hW hl h1 h2 h3
  obtain ⟨C, T, N, hc, hjN, hw, hN, hso⟩ := fld_of hf
  rw [hc] at hfin
  have hfin2 : (T j).2.2.2 = false := by
    have h9 : (!(T j).2.2.2) = true := hfin
    simpa using h9
  obtain ⟨hin, ⟨ty0, hty⟩, hnm⟩ := cl_ok hc
  have row : ∀ (a : Nat) (rs : List (Option Nat)) (v : Value) (ty : FieldType) (h' : PH) (r : List Value), kd a = some (.inl (ci, rs)) → parseFieldDescriptor (T j).2.2.1 = some ty → narrow ty v = v → fits ty v = true →
      (wd ad cA h).set a (ad a, .inr (ci, (fvs ad h a ci rs).set j v)) = wd ad cA h' → scr xs L h' → k (pc + 3) c ls r h' →
      W p l e R s m args below meth cc H locs cells slots Z (F0 m pc lsA (v :: .ref (ad a) :: r.map (tr ad))) := by
    intro a rs v ty h' r hkd hpd hn hfit he hsc hkk
    refine va_put (D := D) (ci := ci) (v := v) (ty := ty) (C := C) (T := T) (N := N) hx hb hts hin ty0 hty hnm hown hK hW.1 hW.2.1 hW.2.2.1 a (wd_ob hkd) hc j hjN (hts _ hw) (fun _ h9 => h9) hfin2 hpd hn hfit (by rw [fvs_len, ← hN]; exact hjN) hd ?_
    intro H1 locs1 hP hD hS
    rw [he] at hP hD
    exact hk _ _ _ _ _ hkk H1 locs1 cells slots lsA ⟨hP, hD, hS, hsc⟩ hl h1 h2 h3
  unfold stp0 at hs
  rcases hso with ⟨rfl, e1, e2⟩ | ⟨rfl, e1, e2⟩ | ⟨rfl, e1, e2⟩ | ⟨rfl, e1⟩
  · simp only at hs
    split at hs
    · rename_i x a r
      split at hs
      · rename_i hob
        obtain ⟨rs, hkd⟩ := obC_of hob
        exact row a rs (.int x) .int _ r hkd (by rw [e2]; exact pd_I) rfl rfl (wd_si hkd e1) (scr_si (kd_lt hkd) hW.2.2.2) hs
      · cases hs
    · cases hs
  · simp only at hs
    split at hs
    · rename_i x a r
      split at hs
      · rename_i hob
        obtain ⟨rs, hkd⟩ := obC_of hob
        obtain ⟨hB, hs⟩ := hs
        refine row a rs (.int x) .boolean _ r hkd (by rw [e2]; exact pd_Z) ?_ ?_ (wd_si hkd e1) (scr_si (kd_lt hkd) hW.2.2.2) hs
        · rcases hB with rfl | rfl <;> rfl
        · rcases hB with rfl | rfl <;> rfl
      · cases hs
    · cases hs
  · simp only at hs
    split at hs
    · rename_i x a r
      split at hs
      · rename_i hob
        obtain ⟨rs, hkd⟩ := obC_of hob
        exact row a rs (.long x) .long _ r hkd (by rw [e2]; exact pd_J) rfl rfl (wd_sl hkd e1) (scr_sl (kd_lt hkd) hW.2.2.2) hs
      · cases hs
    · cases hs
  · exact absurd hs (by simp)
theorem ty_at (cA : Nat → ClassId) : (pmTy cA)[0]? = some (cA 0, .int) ∧ (pmTy cA)[1]? = some (cA 1, .byte) ∧ (pmTy cA)[2]? = some (cA 2, .long) ∧ (pmTy cA)[3]? = some (cA 3, .long) ∧ (pmTy cA)[4]? = some (cA 4, .object RX8) ∧ (pmTy cA)[5]? = some (cA 5, .object "WaveUpgrade$Command") := ⟨rfl, rfl, rfl, rfl, rfl, rfl⟩
theorem rf_map (ad : Nat → Nat) (o : Option Nat) : va_rf (o.map ad) = tr ad (rf1 o) := by cases o <;> rfl
theorem ac_sta (hx : p.tables.exec = Jvm.exec) (hb : cc.code = M.b) (hK : va_K D pmCl (pmTy cA) s) (hk : ∀ pc c ls st h, k pc c ls st h → AtC M Z p l e R s m args below meth cc ad cA D A xs L pc c ls st h) {q : Nat}
    (hd : match q with
      | 0 => decode M.b pc = .ok (.iaload, 1)
      | 1 => decode M.b pc = .ok (.baload, 1)
      | 2 => decode M.b pc = .ok (.laload, 1)
      | 3 => decode M.b pc = .ok (.daload, 1)
      | _ => decode M.b pc = .ok (.aaload, 1)) (hq : q ≤ 5) (hs : sta k q pc c ls st h) : AtC M Z p l e R s m args below meth cc ad cA D A xs L pc c ls st h := by
  intro H locs cells slots lsA hW hl h1 h2 h3
  unfold sta at hs
  split at hs
  · rename_i i a r
    split at hs
    · rename_i n hn
      have hkd := arN_of hn
      obtain ⟨hin, hs⟩ := hs
      have t := ty_at cA
      have go : ∀ (pc' : Nat) (st' : List Value), k pc' c ls st' h → W p l e R s m args below meth cc H locs cells slots Z (F0 m pc' lsA (st'.map (tr ad))) := fun pc' st' h9 => hk _ _ _ _ _ h9 H locs cells slots lsA hW hl h1 h2 h3
      match q, hd, hs, hkd, hq with
      | 0, hd, hs, hkd, _ => exact va_iald hx hb hK hW.1 a 0 (wd_ar hkd) t.1 hin hd (go _ _ hs)
      | 1, hd, hs, hkd, _ => exact va_bald hx hb hK hW.1 a 1 (wd_ar hkd) t.2.1 hin hd (go _ _ hs)
      | 2, hd, hs, hkd, _ => exact va_lald hx hb hK hW.1 a 2 (wd_ar hkd) t.2.2.1 hin hd (go _ _ hs)
      | 3, hd, hs, hkd, _ => exact hs.elim
      | 4, hd, hs, hkd, _ =>
        refine va_aldq hx hb hK hW.1 a 4 (wd_ar hkd) t.2.2.2.2.1 hin hd ?_
        show W p l e R s m args below meth cc H locs cells slots Z (F0 m (pc + 1) lsA (va_rf ((gr h a i.toNatClampNeg).map ad) :: r.map (tr ad)))
        cases hg : gr h a i.toNatClampNeg with
        | none => exact go _ _ (hs.2 hg)
        | some b => exact go _ _ (hs.1 b hg)
      | 5, hd, hs, hkd, _ =>
        refine va_aldq hx hb hK hW.1 a 5 (wd_ar hkd) t.2.2.2.2.2 hin hd ?_
        show W p l e R s m args below meth cc H locs cells slots Z (F0 m (pc + 1) lsA (va_rf ((gr h a i.toNatClampNeg).map ad) :: r.map (tr ad)))
        cases hg : gr h a i.toNatClampNeg with
        | none => exact go _ _ (hs.2 hg)
        | some b => exact go _ _ (hs.1 b hg)
      | q + 6, _, _, _, hq => omega
    · cases hs
  · cases hs
theorem ac_stq (hx : p.tables.exec = Jvm.exec) (hb : cc.code = M.b) (hK : va_K D pmCl (pmTy cA) s) (hk : ∀ pc c ls st h, k pc c ls st h → AtC M Z p l e R s m args below meth cc ad cA D A xs L pc c ls st h) {q : Nat}
    (hd : match q with
      | 0 => decode M.b pc = .ok (.iastore, 1)
      | 1 => decode M.b pc = .ok (.bastore, 1)
      | 2 => decode M.b pc = .ok (.lastore, 1)
      | _ => decode M.b pc = .ok (.dastore, 1)) (hs : stq k q pc c ls st h) : AtC M Z p l e R s m args below meth cc ad cA D A xs L pc c ls st h := by
  intro H locs cells slots lsA hW hl h1 h2 h3
  have t := ty_at cA
  have go : ∀ (r : List Value) (h' : PH) (w' : va_W), k (pc + 1) c ls r h' → w' = wd ad cA h' → scr xs L h' → ∀ (H1 : Heap) (locs1 : List Loc), va_P D pmCl w' H1 → va_D A w' → va_S A s.heap H1 locs1 → W p l e R s m args below meth cc H1 locs1 cells slots Z (F0 m (pc + 1) lsA (r.map (tr ad))) := by
    intro r h' w' hkk he hsc H1 locs1 hP hD hS
    subst he
    exact hk _ _ _ _ _ hkk H1 locs1 cells slots lsA ⟨hP, hD, hS, hsc⟩ hl h1 h2 h3
  unfold stq at hs
  match q, hd, hs with
  | 0, hd, hs =>
    simp only at hs
    split at hs
    · rename_i x i a r _
      split at hs
      · rename_i n hn
        have hkd := arN_of hn
        exact va_iast hx hb hK hW.1 hW.2.1 hW.2.2.1 a 0 (wd_ar hkd) t.1 hs.1 hd (go _ _ _ hs.2 (wd_sai hkd (Or.inl rfl)) (scr_si (kd_lt hkd) hW.2.2.2))
      · cases hs
    · cases hs
  | 1, hd, hs =>
    simp only at hs
    split at hs
    · rename_i x i a r _
      split at hs
      · rename_i n hn
        have hkd := arN_of hn
        exact va_bast hx hb hK hW.1 hW.2.1 hW.2.2.1 a 1 (wd_ar hkd) t.2.1 hs.1 hd (go _ _ _ hs.2 (by rw [vp_nar_byte]; exact wd_sai hkd (Or.inr rfl)) (scr_si (kd_lt hkd) hW.2.2.2))
      · cases hs
    · cases hs
  | 2, hd, hs =>
    simp only at hs
    split at hs
    · rename_i x i a r _
      split at hs
      · rename_i n hn
        have hkd := arN_of hn
        exact va_last hx hb hK hW.1 hW.2.1 hW.2.2.1 a 2 (wd_ar hkd) t.2.2.1 hs.1 hd (go _ _ _ hs.2 (wd_sal hkd) (scr_sl (kd_lt hkd) hW.2.2.2))
      · cases hs
    · cases hs
  | q + 3, _, hs => exact absurd hs (by simp)
theorem ac_alen (hx : p.tables.exec = Jvm.exec) (hb : cc.code = M.b) (hK : va_K D pmCl (pmTy cA) s) (hk : ∀ pc c ls st h, k pc c ls st h → AtC M Z p l e R s m args below meth cc ad cA D A xs L pc c ls st h) {a n : Nat} {r : List Value}
    (hd : decode M.b pc = .ok (.arraylength, 1)) (hn : arL a = some n) (hs : k (pc + 1) c ls (.int (nI n) :: r) h) : AtC M Z p l e R s m args below meth cc ad cA D A xs L pc c ls (.ref a :: r) h := by
  intro H locs cells slots lsA hW hl h1 h2 h3
  obtain ⟨t, hkd⟩ := arL_of hn
  have go := hk _ _ _ _ _ hs H locs cells slots lsA hW hl h1 h2 h3
  have ht : ∃ ty, (pmTy cA)[t]? = some (cA t, ty) := by
    have hall : (List.range NK).all (fun a => match kd a with
      | some (.inr (t, _)) => Nat.blt t 6
      | _ => true) = true := by decide +kernel
    have h5 := List.all_eq_true.mp hall a (List.mem_range.mpr (kd_lt hkd))
    rw [hkd] at h5
    have h6 : t < 6 := blt_of h5
    match t, h6 with
    | 0, _ => exact ⟨_, rfl⟩
    | 1, _ => exact ⟨_, rfl⟩
    | 2, _ => exact ⟨_, rfl⟩
    | 3, _ => exact ⟨_, rfl⟩
    | 4, _ => exact ⟨_, rfl⟩
    | 5, _ => exact ⟨_, rfl⟩
    | t + 6, h6 => omega
  obtain ⟨ty, ht⟩ := ht
  exact va_alen hx hb hK hW.1 a t (wd_ar hkd) ht rfl hd go
theorem swc_get {x : Int32} {r : List Value} : ∀ (ts : List Nat) (v i t : Nat), swc k x c ls r h v ts → ts[i]? = some t → x = nI (v + i) → k t c ls r h := by
  intro ts
  induction ts with
  | nil => intro v i t _ h9; simp at h9
  | cons u us ih =>
    intro v i t hs hi hxv
    cases i with
    | zero =>
      simp at hi
      subst hi
      exact hs.1 hxv
    | succ i =>
      simp at hi
      exact ih (v + 1) i t hs.2 hi (by rw [hxv]; congr 1; omega)
theorem ac_sw (hx : p.tables.exec = Jvm.exec) (hb : cc.code = M.b) (hk : ∀ pc c ls st h, k pc c ls st h → AtC M Z p l e R s m args below meth cc ad cA D A xs L pc c ls st h) {d lo hi : Int} {offs : Array Int} {len dt l0 : Nat} {ts : List Nat} {x : Int32} {r : List Value}
    (hd : decode M.b pc = .ok (.tableswitch d lo hi offs, len)) (e1 : (pc : Int) + d = (dt : Int)) (e2 : lo = (l0 : Int)) (e3 : hi + 1 = (l0 : Int) + (ts.length : Int)) (e4 : offs.toList.map (fun o => (pc : Int) + o) = ts.map (fun t => ((t : Nat) : Int))) (e5 : l0 + ts.length < 100000)
    (hs : ((∀ j : Nat, l0 ≤ j → j < l0 + ts.length → ¬ x = nI j) → k dt c ls r h) ∧ swc k x c ls r h l0 ts) : AtC M Z p l e R s m args below meth cc ad cA D A xs L pc c ls (.int x :: r) h := by
  intro H locs cells slots lsA hW hl h1 h2 h3
  have go : ∀ pc' : Nat, k pc' c ls r h → W p l e R s m args below meth cc H locs cells slots Z (F0 m pc' lsA (r.map (tr ad))) := fun pc' h9 => hk _ _ _ _ _ h9 H locs cells slots lsA hW hl h1 h2 h3
  by_cases hin : lo ≤ x.toInt ∧ x.toInt ≤ hi
  · obtain ⟨q1, q2⟩ := hin
    have hlen : offs.toList.length = ts.length := by
      have := congrArg List.length e4
      simpa using this
    have hj : (x.toInt - lo).toNat < ts.length := by omega
    obtain ⟨t, ht⟩ : ∃ t, ts[(x.toInt - lo).toNat]? = some t := ⟨_, List.getElem?_eq_getElem hj⟩
    obtain ⟨o, ho⟩ : ∃ o, offs.toList[(x.toInt - lo).toNat]? = some o := ⟨_, List.getElem?_eq_getElem (by rw [hlen]; exact hj)⟩
    have hto : (pc : Int) + o = (t : Int) := by
      have h9 := congrArg (fun l => l[(x.toInt - lo).toNat]?) e4
      simp only [List.getElem?_map, ho, ht, Option.map_some, Option.some.injEq] at h9
      exact h9
    have hxv : x = nI (l0 + (x.toInt - lo).toNat) := by
      have h7 : x.toInt = ((l0 + (x.toInt - lo).toNat : Nat) : Int) := by omega
      apply Int32.toInt_inj.mp
      rw [nI_toInt (by omega)]
      exact h7
    exact lv_tableIn hx hb hd (by omega) (by omega) (by rw [← Array.getElem?_toList]; exact ho) hto (go _ (swc_get ts l0 _ t hs.2 ht hxv))
  · refine lv_tableOut hx hb hd (by omega) e1 (go _ (hs.1 ?_))
    intro j hj1 hj2 he
    apply hin
    rw [he, nI_toInt (by omega)]
    omega
end
