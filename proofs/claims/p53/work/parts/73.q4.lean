/-! ===== pure steps of the law's machine ===== -/
def pureI : Instr → Bool
  | .iconst _ => true
  | .bipush _ => true
  | .sipush _ => true
  | .aconst_null => true
  | .iload _ => true
  | .iload_n _ => true
  | .istore _ => true
  | .istore_n _ => true
  | .aload _ => true
  | .aload_n _ => true
  | .astore _ => true
  | .astore_n _ => true
  | .iinc _ _ => true
  | .iadd => true
  | .isub => true
  | .imul => true
  | .iand => true
  | .ior => true
  | .ishl => true
  | .ishr => true
  | .iushr => true
  | .idiv => true
  | .irem => true
  | .i2b => true
  | .i2c => true
  | .dup => true
  | .dup2 => true
  | .pop => true
  | .goto _ => true
  | .ifCond _ _ => true
  | .if_icmp _ _ => true
  | .ifnull _ => true
  | .ifnonnull _ => true
  | .tableswitch _ _ _ _ => true
  | .return_ => true
  | .ireturn => true
  | .areturn => true
  | .ldc_w _ => true
  | _ => false
section
variable {M : MI} {Q : Res → PH → Prop} {Z : State → Prop} {p : Program} {l : Launch} {e : Env} {R : Room} {s : State} {m : MethodId} {args : Array Value} {below : List Frame} {meth : Method} {cc : Code} {ad : Nat → Nat} {cA : Nat → ClassId} {D : va_G} {A : Nat → Prop} {X : PH → va_W} {h0 : PH} {k : KT} {pc c : Nat} {ls : Lc} {st : List Value} {h : PH}
theorem bc_stl (hx : p.tables.exec = Jvm.exec) (hb : cc.code = M.b) (hk : ∀ pc c ls st h, k pc c ls st h → BtC M Z p l e R s m args below meth cc ad cA D A X h0 pc c ls st h) {q n : Nat}
    (hd : match q with
      | 0 => decode M.b pc = .ok (.iload n, 2)
      | 1 => decode M.b pc = .ok (.lload n, 2)
      | 2 => decode M.b pc = .ok (.fload n, 2)
      | 3 => decode M.b pc = .ok (.dload n, 2)
      | _ => decode M.b pc = .ok (.aload n, 2)) (hs : stl k q (pc + 2) c ls st h n) : BtC M Z p l e R s m args below meth cc ad cA D A X h0 pc c ls st h := by
  intro H locs cells slots lsA hW hl h1 h2 h3
  unfold stl at hs
  split at hs
  · split at hs
    · rename_i x hg; exact lv_iload hx hb hd (tl_get hl hg) (hk _ _ _ _ _ hs H locs cells slots lsA hW hl h1 h2 h3)
    · cases hs
  · split at hs
    · rename_i x hg; exact lv_lload hx hb hd (tl_get hl hg) (hk _ _ _ _ _ hs H locs cells slots lsA hW hl h1 h2 h3)
    · cases hs
  · split at hs
    · rename_i x hg; exact lv_fload hx hb hd (tl_get hl hg) (hk _ _ _ _ _ hs H locs cells slots lsA hW hl h1 h2 h3)
    · cases hs
  · split at hs
    · rename_i x hg; exact lv_dload hx hb hd (tl_get hl hg) (hk _ _ _ _ _ hs H locs cells slots lsA hW hl h1 h2 h3)
    · cases hs
  · rename_i q0 q1 q2 q3
    split at hs
    · rename_i x hg; exact lv_aload hx hb (by simpa [q0, q1, q2, q3] using hd) (tl_get hl hg) (hk _ _ _ _ _ hs H locs cells slots lsA hW hl h1 h2 h3)
    · rename_i hg; exact lv_aloadN hx hb (by simpa [q0, q1, q2, q3] using hd) (tl_get hl hg) (hk _ _ _ _ _ hs H locs cells slots lsA hW hl h1 h2 h3)
    · cases hs
theorem bc_stl_n (hx : p.tables.exec = Jvm.exec) (hb : cc.code = M.b) (hk : ∀ pc c ls st h, k pc c ls st h → BtC M Z p l e R s m args below meth cc ad cA D A X h0 pc c ls st h) {q : Nat} {n : Fin 4}
    (hd : match q with
      | 0 => decode M.b pc = .ok (.iload_n n, 1)
      | 1 => decode M.b pc = .ok (.lload_n n, 1)
      | 2 => decode M.b pc = .ok (.fload_n n, 1)
      | 3 => decode M.b pc = .ok (.dload_n n, 1)
      | _ => decode M.b pc = .ok (.aload_n n, 1)) (hs : stl k q (pc + 1) c ls st h n.val) : BtC M Z p l e R s m args below meth cc ad cA D A X h0 pc c ls st h := by
  intro H locs cells slots lsA hW hl h1 h2 h3
  unfold stl at hs
  split at hs
  · split at hs
    · rename_i x hg; exact lv_iload_n hx hb hd rfl (tl_get hl hg) (hk _ _ _ _ _ hs H locs cells slots lsA hW hl h1 h2 h3)
    · cases hs
  · split at hs
    · rename_i x hg; exact lv_lload_n hx hb hd rfl (tl_get hl hg) (hk _ _ _ _ _ hs H locs cells slots lsA hW hl h1 h2 h3)
    · cases hs
  · split at hs
    · rename_i x hg; exact lv_fload_n hx hb hd rfl (tl_get hl hg) (hk _ _ _ _ _ hs H locs cells slots lsA hW hl h1 h2 h3)
    · cases hs
  · split at hs
    · rename_i x hg; exact lv_dload_n hx hb hd rfl (tl_get hl hg) (hk _ _ _ _ _ hs H locs cells slots lsA hW hl h1 h2 h3)
    · cases hs
  · rename_i q0 q1 q2 q3
    split at hs
    · rename_i x hg; exact lv_aload_n hx hb (by simpa [q0, q1, q2, q3] using hd) rfl (tl_get hl hg) (hk _ _ _ _ _ hs H locs cells slots lsA hW hl h1 h2 h3)
    · rename_i hg; exact lv_aload_nN hx hb (by simpa [q0, q1, q2, q3] using hd) rfl (tl_get hl hg) (hk _ _ _ _ _ hs H locs cells slots lsA hW hl h1 h2 h3)
    · cases hs
theorem bc_sts (hx : p.tables.exec = Jvm.exec) (hb : cc.code = M.b) (hk : ∀ pc c ls st h, k pc c ls st h → BtC M Z p l e R s m args below meth cc ad cA D A X h0 pc c ls st h) {q n : Nat}
    (hd : match q with
      | 0 => decode M.b pc = .ok (.istore n, 2)
      | 1 => decode M.b pc = .ok (.lstore n, 2)
      | 2 => decode M.b pc = .ok (.fstore n, 2)
      | 3 => decode M.b pc = .ok (.dstore n, 2)
      | _ => decode M.b pc = .ok (.astore n, 2)) (hs : sts M.nl k q (pc + 2) c ls st h n) : BtC M Z p l e R s m args below meth cc ad cA D A X h0 pc c ls st h := by
  intro H locs cells slots lsA hW hl h1 h2 h3
  unfold sts at hs
  split at hs
  · split at hs
    · rename_i x r hn; exact lv_istore hx hb hd hl (blt_of hn) rfl (fun ls' hl' => hk _ _ _ _ _ hs H locs cells slots ls' hW (lv_mono hl' tl_put1) h1 h2 h3)
    · cases hs
  · split at hs
    · rename_i x r hn; exact lv_lstore hx hb hd hl (blt_of hn) rfl (fun ls' hl' => hk _ _ _ _ _ hs H locs cells slots ls' hW (lv_mono hl' tl_put2) h1 h2 h3)
    · cases hs
  · split at hs
    · rename_i x r hn; exact lv_fstore hx hb hd hl (blt_of hn) rfl (fun ls' hl' => hk _ _ _ _ _ hs H locs cells slots ls' hW (lv_mono hl' tl_put1) h1 h2 h3)
    · cases hs
  · split at hs
    · rename_i x r hn; exact lv_dstore hx hb hd hl (blt_of hn) rfl (fun ls' hl' => hk _ _ _ _ _ hs H locs cells slots ls' hW (lv_mono hl' tl_put2) h1 h2 h3)
    · cases hs
  · rename_i q0 q1 q2 q3
    split at hs
    · rename_i x r hn; exact lv_astore hx hb (by simpa [q0, q1, q2, q3] using hd) hl (blt_of hn) rfl (fun ls' hl' => hk _ _ _ _ _ hs H locs cells slots ls' hW (lv_mono hl' tl_put1) h1 h2 h3)
    · rename_i r hn; exact lv_astoreN hx hb (by simpa [q0, q1, q2, q3] using hd) hl (blt_of hn) rfl (fun ls' hl' => hk _ _ _ _ _ hs H locs cells slots ls' hW (lv_mono hl' tl_put1) h1 h2 h3)
    · cases hs
theorem bc_sts_n (hx : p.tables.exec = Jvm.exec) (hb : cc.code = M.b) (hk : ∀ pc c ls st h, k pc c ls st h → BtC M Z p l e R s m args below meth cc ad cA D A X h0 pc c ls st h) {q : Nat} {n : Fin 4}
    (hd : match q with
      | 0 => decode M.b pc = .ok (.istore_n n, 1)
      | 1 => decode M.b pc = .ok (.lstore_n n, 1)
      | 2 => decode M.b pc = .ok (.fstore_n n, 1)
      | 3 => decode M.b pc = .ok (.dstore_n n, 1)
      | _ => decode M.b pc = .ok (.astore_n n, 1)) (hs : sts M.nl k q (pc + 1) c ls st h n.val) : BtC M Z p l e R s m args below meth cc ad cA D A X h0 pc c ls st h := by
  intro H locs cells slots lsA hW hl h1 h2 h3
  unfold sts at hs
  split at hs
  · split at hs
    · rename_i x r hn; exact lv_istore_n hx hb hd rfl hl (blt_of hn) rfl (fun ls' hl' => hk _ _ _ _ _ hs H locs cells slots ls' hW (lv_mono hl' tl_put1) h1 h2 h3)
    · cases hs
  · split at hs
    · rename_i x r hn; exact lv_lstore_n hx hb hd rfl hl (blt_of hn) rfl (fun ls' hl' => hk _ _ _ _ _ hs H locs cells slots ls' hW (lv_mono hl' tl_put2) h1 h2 h3)
    · cases hs
  · split at hs
    · rename_i x r hn; exact lv_fstore_n hx hb hd rfl hl (blt_of hn) rfl (fun ls' hl' => hk _ _ _ _ _ hs H locs cells slots ls' hW (lv_mono hl' tl_put1) h1 h2 h3)
    · cases hs
  · split at hs
    · rename_i x r hn; exact lv_dstore_n hx hb hd rfl hl (blt_of hn) rfl (fun ls' hl' => hk _ _ _ _ _ hs H locs cells slots ls' hW (lv_mono hl' tl_put2) h1 h2 h3)
    · cases hs
  · rename_i q0 q1 q2 q3
    split at hs
    · rename_i x r hn; exact lv_astore_n hx hb (by simpa [q0, q1, q2, q3] using hd) rfl hl (blt_of hn) rfl (fun ls' hl' => hk _ _ _ _ _ hs H locs cells slots ls' hW (lv_mono hl' tl_put1) h1 h2 h3)
    · rename_i r hn; exact lv_astore_nN hx hb (by simpa [q0, q1, q2, q3] using hd) rfl hl (blt_of hn) rfl (fun ls' hl' => hk _ _ _ _ _ hs H locs cells slots ls' hW (lv_mono hl' tl_put1) h1 h2 h3)
    · cases hs
theorem bc_a2i (hk : ∀ pc c ls st h, k pc c ls st h → BtC M Z p l e R s m args below meth cc ad cA D A X h0 pc c ls st h) {f : Int32 → Int32 → Int32}
    (row : ∀ (x y : Int32) (H : Heap) (locs : List Loc) (cells slots : Nat) (lsA : Array Slot) (rest : List Value), W p l e R s m args below meth cc H locs cells slots Z (F0 m (pc + 1) lsA (.int (f x y) :: rest)) → W p l e R s m args below meth cc H locs cells slots Z (F0 m pc lsA (.int y :: .int x :: rest)))
    (hs : a2i k pc c ls st h f) : BtC M Z p l e R s m args below meth cc ad cA D A X h0 pc c ls st h := by
  intro H locs cells slots lsA hW hl h1 h2 h3
  unfold a2i at hs
  split at hs
  · exact row _ _ _ _ _ _ _ _ (hk _ _ _ _ _ hs H locs cells slots lsA hW hl h1 h2 h3)
  · cases hs
theorem bc_if (hx : p.tables.exec = Jvm.exec) (hb : cc.code = M.b) (hk : ∀ pc c ls st h, k pc c ls st h → BtC M Z p l e R s m args below meth cc ad cA D A X h0 pc c ls st h) {cd : Jvm.ClassFile.Cond} {off : Int} {t : Nat} {x : Int32} {r : List Value}
    (hd : decode M.b pc = .ok (.ifCond cd off, 3)) (ht : (pc : Int) + off = (t : Int)) (hs : stcc cd x 0 (k t c ls r h) (k (pc + 3) c ls r h)) : BtC M Z p l e R s m args below meth cc ad cA D A X h0 pc c ls (.int x :: r) h := by
  intro H locs cells slots lsA hW hl h1 h2 h3
  have g1 : ∀ pc' : Nat, k pc' c ls r h → W p l e R s m args below meth cc H locs cells slots Z (F0 m pc' lsA (r.map (tr ad))) := fun pc' h9 => hk _ _ _ _ _ h9 H locs cells slots lsA hW hl h1 h2 h3
  cases cd
  · exact lv_if_eq hx hb hd ht (fun q => g1 _ (hs.1 q)) (fun q => g1 _ (hs.2 q))
  · exact lv_if_ne hx hb hd ht (fun q => g1 _ (hs.1 q)) (fun q => g1 _ (hs.2 q))
  · exact lv_if_lt hx hb hd ht (fun q => g1 _ (hs.1 q)) (fun q => g1 _ (hs.2 q))
  · exact lv_if_ge hx hb hd ht (fun q => g1 _ (hs.1 q)) (fun q => g1 _ (hs.2 q))
  · exact lv_if_gt hx hb hd ht (fun q => g1 _ (hs.1 q)) (fun q => g1 _ (hs.2 q))
  · exact lv_if_le hx hb hd ht (fun q => g1 _ (hs.1 q)) (fun q => g1 _ (hs.2 q))
theorem bc_icmp (hx : p.tables.exec = Jvm.exec) (hb : cc.code = M.b) (hk : ∀ pc c ls st h, k pc c ls st h → BtC M Z p l e R s m args below meth cc ad cA D A X h0 pc c ls st h) {cd : Jvm.ClassFile.Cond} {off : Int} {t : Nat} {x y : Int32} {r : List Value}
    (hd : decode M.b pc = .ok (.if_icmp cd off, 3)) (ht : (pc : Int) + off = (t : Int)) (hs : stcc cd x y (k t c ls r h) (k (pc + 3) c ls r h)) : BtC M Z p l e R s m args below meth cc ad cA D A X h0 pc c ls (.int y :: .int x :: r) h := by
  intro H locs cells slots lsA hW hl h1 h2 h3
  have g1 : ∀ pc' : Nat, k pc' c ls r h → W p l e R s m args below meth cc H locs cells slots Z (F0 m pc' lsA (r.map (tr ad))) := fun pc' h9 => hk _ _ _ _ _ h9 H locs cells slots lsA hW hl h1 h2 h3
  cases cd
  · exact lv_icmp_eq hx hb hd ht (fun q => g1 _ (hs.1 q)) (fun q => g1 _ (hs.2 q))
  · exact lv_icmp_ne hx hb hd ht (fun q => g1 _ (hs.1 q)) (fun q => g1 _ (hs.2 q))
  · exact lv_icmp_lt hx hb hd ht (fun q => g1 _ (hs.1 q)) (fun q => g1 _ (hs.2 q))
  · exact lv_icmp_ge hx hb hd ht (fun q => g1 _ (hs.1 q)) (fun q => g1 _ (hs.2 q))
  · exact lv_icmp_gt hx hb hd ht (fun q => g1 _ (hs.1 q)) (fun q => g1 _ (hs.2 q))
  · exact lv_icmp_le hx hb hd ht (fun q => g1 _ (hs.1 q)) (fun q => g1 _ (hs.2 q))
theorem bc_str (hC : Cb M Q Z p l e R s m args below meth cc ad cA D A X h0) {i : Instr} {rt : Nat} (hd : decode M.b pc = .ok (i, 1))
    (hok : ∀ v : Option Value, (match rt with
      | 0 => v = none
      | 1 => ∃ x, v = some (.int x)
      | 2 => ∃ x, v = some (.long x)
      | 3 => ∃ x, v = some (.float x)
      | 4 => ∃ x, v = some (.double x)
      | 5 => v = some .null ∨ ∃ a, v = some (.ref a)
      | 6 => ∃ x, v = some (.int x) ∧ isB x
      | 7 => ∃ x, v = some (.int x) ∧ narrow .byte (.int x) = .int x
      | _ => ∃ x, v = some (.int x) ∧ narrow .char (.int x) = .int x) → rtOk M.ret i v) (hs : str Q rt st h) : BtC M Z p l e R s m args below meth cc ad cA D A X h0 pc c ls st h := by
  intro H locs cells slots lsA hW hl h1 h2 h3
  obtain ⟨-, -, -, -, -, -, -, -, -, -, hend⟩ := hC
  have fin : ∀ v : Option Value, st = v.toList → rtOk M.ret i v → Q (.inl v) h → W p l e R s m args below meth cc H locs cells slots Z (F0 m pc lsA (st.map (tr ad))) := by
    intro v hv hr hq
    have := hend v h H locs cells slots pc i lsA hd hr hq hW (by omega) (by omega)
    rw [tr_toList, ← hv] at this
    exact this
  unfold str at hs
  split at hs
  · split at hs
    · exact fin none rfl (hok none rfl) hs
    · cases hs
  · split at hs
    · exact fin (some _) rfl (hok _ ⟨_, rfl⟩) hs
    · cases hs
  · split at hs
    · exact fin (some _) rfl (hok _ ⟨_, rfl⟩) hs
    · cases hs
  · split at hs
    · exact fin (some _) rfl (hok _ ⟨_, rfl⟩) hs
    · cases hs
  · split at hs
    · exact fin (some _) rfl (hok _ ⟨_, rfl⟩) hs
    · cases hs
  · split at hs
    · exact fin (some _) rfl (hok _ (Or.inr ⟨_, rfl⟩)) hs
    · exact fin (some _) rfl (hok _ (Or.inl rfl)) hs
    · cases hs
  · split at hs
    · exact fin (some _) rfl (hok _ ⟨_, rfl, hs.1⟩) hs.2
    · cases hs
  · split at hs
    · exact fin (some _) rfl (hok _ ⟨_, rfl, hs.1⟩) hs.2
    · cases hs
  · rename_i r0 r1 r2 r3 r4 r5 r6 r7
    split at hs
    · exact fin (some _) rfl (hok _ (by
        split
        · exact absurd rfl r0
        · exact ⟨_, rfl⟩
        · exact absurd rfl r2
        · exact absurd rfl r3
        · exact absurd rfl r4
        · exact absurd rfl r5
        · exact absurd rfl r6
        · exact absurd rfl r7
        · exact ⟨_, rfl, hs.1⟩)) hs.2
    · cases hs
theorem bc_sw (hx : p.tables.exec = Jvm.exec) (hb : cc.code = M.b) (hk : ∀ pc c ls st h, k pc c ls st h → BtC M Z p l e R s m args below meth cc ad cA D A X h0 pc c ls st h) {d lo hi : Int} {offs : Array Int} {len dt l0 : Nat} {ts : List Nat} {x : Int32} {r : List Value}
    (hd : decode M.b pc = .ok (.tableswitch d lo hi offs, len)) (e1 : (pc : Int) + d = (dt : Int)) (e2 : lo = (l0 : Int)) (e3 : hi + 1 = (l0 : Int) + (ts.length : Int)) (e4 : offs.toList.map (fun o => (pc : Int) + o) = ts.map (fun t => ((t : Nat) : Int))) (e5 : l0 + ts.length < 100000)
    (hs : ((∀ j : Nat, l0 ≤ j → j < l0 + ts.length → ¬ x = nI j) → k dt c ls r h) ∧ swc k x c ls r h l0 ts) : BtC M Z p l e R s m args below meth cc ad cA D A X h0 pc c ls (.int x :: r) h := by
  intro H locs cells slots lsA hW hl h1 h2 h3
  have go : ∀ pc' : Nat, k pc' c ls r h → W p l e R s m args below meth cc H locs cells slots Z (F0 m pc' lsA (r.map (tr ad))) := fun pc' h9 => hk _ _ _ _ _ h9 H locs cells slots lsA hW hl h1 h2 h3
  by_cases hin : lo ≤ x.toInt ∧ x.toInt ≤ hi
  · obtain ⟨q1, q2⟩ := hin
    have hlen : offs.toList.length = ts.length := by
      have := congrArg List.length e4
      simpa using this
    have hj : (x.toInt - lo).toNat < ts.length := by omega
    obtain ⟨t, ht⟩ : ∃ t, ts[(x.toInt - lo).toNat]? = some t := ⟨_, List.getElem?_eq_getElem hj⟩
    obtain ⟨o, ho⟩ : ∃ o, offs.toList[(x.toInt - lo).toNat]? = some o := ⟨_, List.getElem?_eq_getElem (by rw [hlen]; exact hj)⟩
    have hto : (pc : Int) + o = (t : Int) := by
      have h9 := congrArg (fun l => l[(x.toInt - lo).toNat]?) e4
      simp only [List.getElem?_map, ho, ht, Option.map_some, Option.some.injEq] at h9
      exact h9
    have hxv : x = nI (l0 + (x.toInt - lo).toNat) := by
      have h7 : x.toInt = ((l0 + (x.toInt - lo).toNat : Nat) : Int) := by omega
      apply Int32.toInt_inj.mp
      rw [nI_toInt (by omega)]
      exact h7
    exact lv_tableIn hx hb hd (by omega) (by omega) (by rw [← Array.getElem?_toList]; exact ho) hto (go _ (swc_get ts l0 _ t hs.2 ht hxv))
  · refine lv_tableOut hx hb hd (by omega) e1 (go _ (hs.1 ?_))
    intro j hj1 hj2 he
    apply hin
    rw [he, nI_toInt (by omega)]
    omega
set_option maxHeartbeats 4000000 in
theorem stp_btC (hC : Cb M Q Z p l e R s m args below meth cc ad cA D A X h0) {mp : MI → List Value → PH → (Res → PH → Prop) → Prop} {a : KT} (hk : ∀ pc c ls st h, k pc c ls st h → BtC M Z p l e R s m args below meth cc ad cA D A X h0 pc c ls st h)
    {en : En} (hE : okE M en = true) (hpu : pureI en.2.1 = true) (hs : stp mp M Q a k en c ls st h) : BtC M Z p l e R s m args below meth cc ad cA D A X h0 en.1 c ls st h := by
  obtain ⟨pc, i, len, ax, ms⟩ := en
  have hC0 := hC
  obtain ⟨⟨hx, hb, hml, hown, hts⟩, -⟩ := hC
  simp only [okE, Bool.and_eq_true, decide_eq_true_eq] at hE
  obtain ⟨hd, hI⟩ := hE
  show BtC M Z p l e R s m args below meth cc ad cA D A X h0 pc c ls st h
  have one : ∀ {st' : List Value} {h' : PH} {d : Nat}, k (pc + d) c ls st' h' → h' = h → ∀ (H : Heap) (locs : List Loc) (cells slots : Nat) (lsA : Array Slot), WL (flQ M) ad cA D X h0 A h s s.heap H locs → lv_has lsA M.nl (tl ad ls) → cells ≤ c → slots ≤ 12 * c → c ≤ M.cap → W p l e R s m args below meth cc H locs cells slots Z (F0 m (pc + d) lsA (st'.map (tr ad))) := by
    intro st' h' d h9 he H locs cells slots lsA hW hl h1 h2 h3
    subst he
    exact hk _ _ _ _ _ h9 H locs cells slots lsA hW hl h1 h2 h3
  cases i with
  | iconst n =>
    obtain rfl := beq_of hI
    intro H locs cells slots lsA hW hl h1 h2 h3
    exact lv_iconst hx hb hd (cI_ofInt n) (one (d := 1) hs rfl H locs cells slots lsA hW hl h1 h2 h3)
  | bipush n =>
    simp only [okI, Bool.and_eq_true, decide_eq_true_eq] at hI
    obtain ⟨hI, hv⟩ := hI
    obtain rfl := beq_of hI
    intro H locs cells slots lsA hW hl h1 h2 h3
    exact lv_bipush hx hb hd hv (one (d := 2) hs rfl H locs cells slots lsA hW hl h1 h2 h3)
  | sipush n =>
    simp only [okI, Bool.and_eq_true, decide_eq_true_eq] at hI
    obtain ⟨hI, hv⟩ := hI
    obtain rfl := beq_of hI
    intro H locs cells slots lsA hW hl h1 h2 h3
    exact lv_sipush hx hb hd hv (one (d := 3) hs rfl H locs cells slots lsA hW hl h1 h2 h3)
  | ldc_w idx =>
    simp only [okI, Bool.and_eq_true] at hI
    obtain ⟨hI, hv⟩ := hI
    obtain rfl := beq_of hI
    simp only [stp] at hs
    split at hs
    · rename_i n pl
      simp only at hv
      intro H locs cells slots lsA hW hl h1 h2 h3
      exact lv_ldcw hx hb hown (hts _ (tbG_at hv)) hd (one (d := 3) hs rfl H locs cells slots lsA hW hl h1 h2 h3)
    · exact hs.elim
  | aconst_null =>
    obtain rfl := beq_of hI
    intro H locs cells slots lsA hW hl h1 h2 h3
    exact lv_null hx hb hd (one (d := 1) hs rfl H locs cells slots lsA hW hl h1 h2 h3)
  | iload n =>
    obtain rfl := beq_of hI
    exact bc_stl hx hb hk (q := 0) (n := n) hd hs
  | iload_n n =>
    obtain rfl := beq_of hI
    exact bc_stl_n hx hb hk (q := 0) (n := n) hd hs
  | istore n =>
    obtain rfl := beq_of hI
    exact bc_sts hx hb hk (q := 0) (n := n) hd hs
  | istore_n n =>
    obtain rfl := beq_of hI
    exact bc_sts_n hx hb hk (q := 0) (n := n) hd hs
  | aload n =>
    obtain rfl := beq_of hI
    exact bc_stl hx hb hk (q := 4) (n := n) hd hs
  | aload_n n =>
    obtain rfl := beq_of hI
    exact bc_stl_n hx hb hk (q := 4) (n := n) hd hs
  | astore n =>
    obtain rfl := beq_of hI
    exact bc_sts hx hb hk (q := 4) (n := n) hd hs
  | astore_n n =>
    obtain rfl := beq_of hI
    exact bc_sts_n hx hb hk (q := 4) (n := n) hd hs
  | iinc n v =>
    simp only [okI, Bool.and_eq_true] at hI
    obtain rfl := beq_of hI
    simp only [stp] at hs
    split at hs
    · rename_i x hg hn
      intro H locs cells slots lsA hW hl h1 h2 h3
      obtain ⟨k9, hk9⟩ := List.getElem?_of_mem (tl_mem (ad := ad) (ls := ls) (q := (n, Value.int x)) |>.mpr ⟨.int x, hg, rfl⟩)
      exact lv_iinc (v := x + cI v) hx hb hd hl hk9 (by rw [cI_ofInt]) (blt_of hn) rfl (fun ls' hl' => hk _ _ _ _ _ hs H locs cells slots ls' hW (lv_mono hl' tl_put1) h1 h2 h3)
    · exact hs.elim
  | iadd =>
    obtain rfl := beq_of hI
    exact bc_a2i hk (fun x y H locs cells slots lsA rest kk => lv_iadd hx hb hd kk) hs
  | isub =>
    obtain rfl := beq_of hI
    exact bc_a2i hk (fun x y H locs cells slots lsA rest kk => lv_isub hx hb hd kk) hs
  | imul =>
    obtain rfl := beq_of hI
    exact bc_a2i hk (fun x y H locs cells slots lsA rest kk => lv_imul hx hb hd kk) hs
  | iand =>
    obtain rfl := beq_of hI
    exact bc_a2i hk (fun x y H locs cells slots lsA rest kk => lv_iand hx hb hd kk) hs
  | ior =>
    obtain rfl := beq_of hI
    exact bc_a2i hk (fun x y H locs cells slots lsA rest kk => lv_ior hx hb hd kk) hs
  | ishl =>
    obtain rfl := beq_of hI
    exact bc_a2i hk (fun x y H locs cells slots lsA rest kk => lv_ishl hx hb hd kk) hs
  | ishr =>
    obtain rfl := beq_of hI
    exact bc_a2i hk (fun x y H locs cells slots lsA rest kk => lv_ishr hx hb hd kk) hs
  | iushr =>
    obtain rfl := beq_of hI
    exact bc_a2i hk (fun x y H locs cells slots lsA rest kk => lv_iushr hx hb hd rfl kk) hs
  | idiv =>
    obtain rfl := beq_of hI
    simp only [stp] at hs
    split at hs
    · intro H locs cells slots lsA hW hl h1 h2 h3
      exact lv_idiv hx hb hd hs.1 (one (d := 1) hs.2 rfl H locs cells slots lsA hW hl h1 h2 h3)
    · exact hs.elim
  | irem =>
    obtain rfl := beq_of hI
    simp only [stp] at hs
    split at hs
    · intro H locs cells slots lsA hW hl h1 h2 h3
      exact lv_irem hx hb hd hs.1 (one (d := 1) hs.2 rfl H locs cells slots lsA hW hl h1 h2 h3)
    · exact hs.elim
  | i2b =>
    obtain rfl := beq_of hI
    simp only [stp] at hs
    split at hs
    · intro H locs cells slots lsA hW hl h1 h2 h3
      exact lv_i2b hx hb hd rfl (one (d := 1) hs rfl H locs cells slots lsA hW hl h1 h2 h3)
    · exact hs.elim
  | dup =>
    obtain rfl := beq_of hI
    simp only [stp] at hs
    split at hs
    · split at hs
      · rename_i hc
        intro H locs cells slots lsA hW hl h1 h2 h3
        exact lv_dup hx hb hd (by rw [tr_cat]; exact hc) (one (d := 1) hs rfl H locs cells slots lsA hW hl h1 h2 h3)
      · exact hs.elim
    · exact hs.elim
  | dup2 =>
    obtain rfl := beq_of hI
    simp only [stp] at hs
    split at hs
    · split at hs
      · rename_i hc1 hc2
        intro H locs cells slots lsA hW hl h1 h2 h3
        exact lv_dup2_11 hx hb hd (by rw [tr_cat]; exact hc1) (by rw [tr_cat]; exact hc2) (one (d := 1) hs rfl H locs cells slots lsA hW hl h1 h2 h3)
      · exact hs.elim
    · exact hs.elim
  | pop =>
    obtain rfl := beq_of hI
    simp only [stp] at hs
    split at hs
    · split at hs
      · rename_i hc
        intro H locs cells slots lsA hW hl h1 h2 h3
        exact lv_pop hx hb hd (by rw [tr_cat]; exact hc) (one (d := 1) hs rfl H locs cells slots lsA hW hl h1 h2 h3)
      · exact hs.elim
    · exact hs.elim
  | goto off =>
    simp only [okI, Bool.and_eq_true] at hI
    obtain ⟨hI, hv⟩ := hI
    obtain rfl := beq_of hI
    simp only [stp] at hs
    split at hs
    · rename_i t
      simp only [decide_eq_true_eq] at hv
      intro H locs cells slots lsA hW hl h1 h2 h3
      exact lv_goto hx hb hd hv (hk _ _ _ _ _ hs H locs cells slots lsA hW hl h1 h2 h3)
    · exact hs.elim
  | ifCond cd off =>
    simp only [okI, Bool.and_eq_true] at hI
    obtain ⟨hI, hv⟩ := hI
    obtain rfl := beq_of hI
    simp only [stp] at hs
    split at hs
    · rename_i t
      simp only [decide_eq_true_eq] at hv
      split at hs
      · exact bc_if hx hb hk hd hv hs
      · exact hs.elim
    · exact hs.elim
  | if_icmp cd off =>
    simp only [okI, Bool.and_eq_true] at hI
    obtain ⟨hI, hv⟩ := hI
    obtain rfl := beq_of hI
    simp only [stp] at hs
    split at hs
    · rename_i t
      simp only [decide_eq_true_eq] at hv
      split at hs
      · exact bc_icmp hx hb hk hd hv hs
      · exact hs.elim
    · exact hs.elim
  | ifnull off =>
    simp only [okI, Bool.and_eq_true] at hI
    obtain ⟨hI, hv⟩ := hI
    obtain rfl := beq_of hI
    simp only [stp] at hs
    split at hs
    · rename_i t
      simp only [decide_eq_true_eq] at hv
      split at hs
      · intro H locs cells slots lsA hW hl h1 h2 h3
        exact lv_ifnullN hx hb hd hv (hk _ _ _ _ _ hs H locs cells slots lsA hW hl h1 h2 h3)
      · intro H locs cells slots lsA hW hl h1 h2 h3
        exact lv_ifnull hx hb hd (hk _ _ _ _ _ hs H locs cells slots lsA hW hl h1 h2 h3)
      · exact hs.elim
    · exact hs.elim
  | ifnonnull off =>
    simp only [okI, Bool.and_eq_true] at hI
    obtain ⟨hI, hv⟩ := hI
    obtain rfl := beq_of hI
    simp only [stp] at hs
    split at hs
    · rename_i t
      simp only [decide_eq_true_eq] at hv
      split at hs
      · intro H locs cells slots lsA hW hl h1 h2 h3
        exact lv_ifnonnullN hx hb hd (hk _ _ _ _ _ hs H locs cells slots lsA hW hl h1 h2 h3)
      · intro H locs cells slots lsA hW hl h1 h2 h3
        exact lv_ifnonnull hx hb hd hv (hk _ _ _ _ _ hs H locs cells slots lsA hW hl h1 h2 h3)
      · exact hs.elim
    · exact hs.elim
  | tableswitch d lo hi offs =>
    simp only [stp] at hs
    split at hs
    · rename_i dt l0 ts
      simp only [okI, Bool.and_eq_true, decide_eq_true_eq] at hI
      obtain ⟨⟨⟨⟨q1, q2⟩, q3⟩, q4⟩, q5⟩ := hI
      split at hs
      · exact bc_sw hx hb hk hd q1 q2 q3 q4 (blt_of q5) hs
      · exact hs.elim
    · exact hs.elim
  | i2c =>
    obtain rfl := beq_of hI
    simp only [stp] at hs
    split at hs
    · intro H locs cells slots lsA hW hl h1 h2 h3
      exact lv_i2c hx hb hd rfl (one (d := 1) hs rfl H locs cells slots lsA hW hl h1 h2 h3)
    · exact hs.elim
  | return_ =>
    simp only [okI, Bool.and_eq_true, decide_eq_true_eq] at hI
    obtain ⟨hI, hr⟩ := hI
    obtain rfl := beq_of hI
    exact bc_str hC0 (rt := 0) hd (fun v hv => ⟨hv, hr⟩) hs
  | ireturn =>
    simp only [okI, Bool.and_eq_true] at hI
    obtain ⟨hI, hr⟩ := hI
    obtain rfl := beq_of hI
    simp only [stp] at hs
    split at hr
    · simp only [decide_eq_true_eq] at hr
      exact bc_str hC0 (rt := 1) hd (fun v hv => by obtain ⟨x, rfl⟩ := hv; exact ⟨x, .int, rfl, hr, rfl⟩) hs
    · simp only [decide_eq_true_eq] at hr
      exact bc_str hC0 (rt := 6) hd (fun v hv => by
        obtain ⟨x, rfl, hB⟩ := hv
        refine ⟨x, .boolean, rfl, hr, ?_⟩
        rcases hB with rfl | rfl <;> rfl) hs
    · simp only [decide_eq_true_eq] at hr
      exact bc_str hC0 (rt := 7) hd (fun v hv => by obtain ⟨x, rfl, hn⟩ := hv; exact ⟨x, .byte, rfl, hr, hn⟩) hs
    · simp only [decide_eq_true_eq] at hr
      exact bc_str hC0 (rt := 8) hd (fun v hv => by obtain ⟨x, rfl, hn⟩ := hv; exact ⟨x, .char, rfl, hr, hn⟩) hs
    · cases hr
  | areturn =>
    simp only [okI, Bool.and_eq_true] at hI
    obtain ⟨hI, hr⟩ := hI
    obtain rfl := beq_of hI
    split at hr
    · rename_i nm hret
      exact bc_str hC0 (rt := 5) hd (fun v hv => ⟨Or.inl ⟨nm, hret⟩, hv⟩) hs
    · cases hr
  | _ => exact (Bool.false_ne_true hpu).elim
end
