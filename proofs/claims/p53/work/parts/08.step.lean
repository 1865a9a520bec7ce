/-! ===== a step of the pure machine is a step of the machine ===== -/
def AtC (M : MI) (Z : State → Prop) (p : Program) (l : Launch) (e : Env) (R : Room) (s : State) (m : MethodId) (args : Array Value) (below : List Frame) (meth : Method) (cc : Code) (ad : Nat → Nat) (cA : Nat → ClassId) (D : va_G) (A : Nat → Prop) (xs : PH) (L : Nat) : KT := fun pc c ls st h =>
  ∀ (H : Heap) (locs : List Loc) (cells slots : Nat) (lsA : Array Slot), WH ad cA D xs L A h s s.heap H locs → lv_has lsA M.nl (tl ad ls) → cells ≤ c → slots ≤ 6 * c → c ≤ M.cap → W p l e R s m args below meth cc H locs cells slots Z (F0 m pc lsA (st.map (tr ad)))
/-- from this point of M's code, with these locals, stack and pure heap, every run ends with Q -/
def At (M : MI) (Q : Res → PH → Prop) : KT := fun pc c ls st h =>
  ∀ (Z : State → Prop) (p : Program) (l : Launch) (e : Env) (R : Room) (s : State) (m : MethodId) (args : Array Value) (below : List Frame) (meth : Method) (cc : Code) (ad : Nat → Nat) (cA : Nat → ClassId) (D : va_G) (A : Nat → Prop) (xs : PH) (L : Nat),
    Cx M Q Z p l e R s m args below meth cc ad cA D A xs L → AtC M Z p l e R s m args below meth cc ad cA D A xs L pc c ls st h
section
variable {M : MI} {Q : Res → PH → Prop} {Z : State → Prop} {p : Program} {l : Launch} {e : Env} {R : Room} {s : State} {m : MethodId} {args : Array Value} {below : List Frame} {meth : Method} {cc : Code} {ad : Nat → Nat} {cA : Nat → ClassId} {D : va_G} {A : Nat → Prop} {xs : PH} {L : Nat} {k : KT} {pc c : Nat} {ls : Lc} {st : List Value} {h : PH}
theorem ac_stl (hx : p.tables.exec = Jvm.exec) (hb : cc.code = M.b) (hk : ∀ pc c ls st h, k pc c ls st h → AtC M Z p l e R s m args below meth cc ad cA D A xs L pc c ls st h) {q n : Nat}
    (hd : match q with
      | 0 => decode M.b pc = .ok (.iload n, 2)
      | 1 => decode M.b pc = .ok (.lload n, 2)
      | 2 => decode M.b pc = .ok (.fload n, 2)
      | 3 => decode M.b pc = .ok (.dload n, 2)
      | _ => decode M.b pc = .ok (.aload n, 2)) (hs : stl k q (pc + 2) c ls st h n) : AtC M Z p l e R s m args below meth cc ad cA D A xs L pc c ls st h := by
  intro H locs cells slots lsA hW hl h1 h2 h3
  unfold stl at hs
  split at hs
  · split at hs
    · rename_i x hg; exact lv_iload hx hb hd (tl_get hl hg) (hk _ _ _ _ _ hs H locs cells slots lsA hW hl h1 h2 h3)
    · cases hs
  · split at hs
    · rename_i x hg; exact lv_lload hx hb hd (tl_get hl hg) (hk _ _ _ _ _ hs H locs cells slots lsA hW hl h1 h2 h3)
    · cases hs
  · split at hs
    · rename_i x hg; exact lv_fload hx hb hd (tl_get hl hg) (hk _ _ _ _ _ hs H locs cells slots lsA hW hl h1 h2 h3)
    · cases hs
  · split at hs
    · rename_i x hg; exact lv_dload hx hb hd (tl_get hl hg) (hk _ _ _ _ _ hs H locs cells slots lsA hW hl h1 h2 h3)
    · cases hs
  · rename_i q0 q1 q2 q3
    split at hs
    · rename_i x hg; exact lv_aload hx hb (by simpa [q0, q1, q2, q3] using hd) (tl_get hl hg) (hk _ _ _ _ _ hs H locs cells slots lsA hW hl h1 h2 h3)
    · rename_i hg; exact lv_aloadN hx hb (by simpa [q0, q1, q2, q3] using hd) (tl_get hl hg) (hk _ _ _ _ _ hs H locs cells slots lsA hW hl h1 h2 h3)
    · cases hs
theorem ac_stl_n (hx : p.tables.exec = Jvm.exec) (hb : cc.code = M.b) (hk : ∀ pc c ls st h, k pc c ls st h → AtC M Z p l e R s m args below meth cc ad cA D A xs L pc c ls st h) {q : Nat} {n : Fin 4}
    (hd : match q with
      | 0 => decode M.b pc = .ok (.iload_n n, 1)
      | 1 => decode M.b pc = .ok (.lload_n n, 1)
      | 2 => decode M.b pc = .ok (.fload_n n, 1)
      | 3 => decode M.b pc = .ok (.dload_n n, 1)
      | _ => decode M.b pc = .ok (.aload_n n, 1)) (hs : stl k q (pc + 1) c ls st h n.val) : AtC M Z p l e R s m args below meth cc ad cA D A xs L pc c ls st h := by
  intro H locs cells slots lsA hW hl h1 h2 h3
  unfold stl at hs
  split at hs
  · split at hs
    · rename_i x hg; exact lv_iload_n hx hb hd rfl (tl_get hl hg) (hk _ _ _ _ _ hs H locs cells slots lsA hW hl h1 h2 h3)
    · cases hs
  · split at hs
    · rename_i x hg; exact lv_lload_n hx hb hd rfl (tl_get hl hg) (hk _ _ _ _ _ hs H locs cells slots lsA hW hl h1 h2 h3)
    · cases hs
  · split at hs
    · rename_i x hg; exact lv_fload_n hx hb hd rfl (tl_get hl hg) (hk _ _ _ _ _ hs H locs cells slots lsA hW hl h1 h2 h3)
    · cases hs
  · split at hs
    · rename_i x hg; exact lv_dload_n hx hb hd rfl (tl_get hl hg) (hk _ _ _ _ _ hs H locs cells slots lsA hW hl h1 h2 h3)
    · cases hs
  · rename_i q0 q1 q2 q3
    split at hs
    · rename_i x hg; exact lv_aload_n hx hb (by simpa [q0, q1, q2, q3] using hd) rfl (tl_get hl hg) (hk _ _ _ _ _ hs H locs cells slots lsA hW hl h1 h2 h3)
    · rename_i hg; exact lv_aload_nN hx hb (by simpa [q0, q1, q2, q3] using hd) rfl (tl_get hl hg) (hk _ _ _ _ _ hs H locs cells slots lsA hW hl h1 h2 h3)
    · cases hs
theorem blt_of {a b : Nat} (h : Nat.blt a b = true) : a < b := by simpa [Nat.blt_eq] using h
theorem ac_sts (hx : p.tables.exec = Jvm.exec) (hb : cc.code = M.b) (hk : ∀ pc c ls st h, k pc c ls st h → AtC M Z p l e R s m args below meth cc ad cA D A xs L pc c ls st h) {q n : Nat}
    (hd : match q with
      | 0 => decode M.b pc = .ok (.istore n, 2)
      | 1 => decode M.b pc = .ok (.lstore n, 2)
      | 2 => decode M.b pc = .ok (.fstore n, 2)
      | 3 => decode M.b pc = .ok (.dstore n, 2)
      | _ => decode M.b pc = .ok (.astore n, 2)) (hs : sts M.nl k q (pc + 2) c ls st h n) : AtC M Z p l e R s m args below meth cc ad cA D A xs L pc c ls st h := by
  intro H locs cells slots lsA hW hl h1 h2 h3
  unfold sts at hs
  split at hs
  · split at hs
    · rename_i x r hn; exact lv_istore hx hb hd hl (blt_of hn) rfl (fun ls' hl' => hk _ _ _ _ _ hs H locs cells slots ls' hW (lv_mono hl' tl_put1) h1 h2 h3)
    · cases hs
  · split at hs
    · rename_i x r hn; exact lv_lstore hx hb hd hl (blt_of hn) rfl (fun ls' hl' => hk _ _ _ _ _ hs H locs cells slots ls' hW (lv_mono hl' tl_put2) h1 h2 h3)
    · cases hs
  · split at hs
    · rename_i x r hn; exact lv_fstore hx hb hd hl (blt_of hn) rfl (fun ls' hl' => hk _ _ _ _ _ hs H locs cells slots ls' hW (lv_mono hl' tl_put1) h1 h2 h3)
    · cases hs
  · split at hs
    · rename_i x r hn; exact lv_dstore hx hb hd hl (blt_of hn) rfl (fun ls' hl' => hk _ _ _ _ _ hs H locs cells slots ls' hW (lv_mono hl' tl_put2) h1 h2 h3)
    · cases hs
  · rename_i q0 q1 q2 q3
    split at hs
    · rename_i x r hn; exact lv_astore hx hb (by simpa [q0, q1, q2, q3] using hd) hl (blt_of hn) rfl (fun ls' hl' => hk _ _ _ _ _ hs H locs cells slots ls' hW (lv_mono hl' tl_put1) h1 h2 h3)
    · rename_i r hn; exact lv_astoreN hx hb (by simpa [q0, q1, q2, q3] using hd) hl (blt_of hn) rfl (fun ls' hl' => hk _ _ _ _ _ hs H locs cells slots ls' hW (lv_mono hl' tl_put1) h1 h2 h3)
    · cases hs
theorem ac_sts_n (hx : p.tables.exec = Jvm.exec) (hb : cc.code = M.b) (hk : ∀ pc c ls st h, k pc c ls st h → AtC M Z p l e R s m args below meth cc ad cA D A xs L pc c ls st h) {q : Nat} {n : Fin 4}
    (hd : match q with
      | 0 => decode M.b pc = .ok (.istore_n n, 1)
      | 1 => decode M.b pc = .ok (.lstore_n n, 1)
      | 2 => decode M.b pc = .ok (.fstore_n n, 1)
      | 3 => decode M.b pc = .ok (.dstore_n n, 1)
      | _ => decode M.b pc = .ok (.astore_n n, 1)) (hs : sts M.nl k q (pc + 1) c ls st h n.val) : AtC M Z p l e R s m args below meth cc ad cA D A xs L pc c ls st h := by
  intro H locs cells slots lsA hW hl h1 h2 h3
  unfold sts at hs
  split at hs
  · split at hs
    · rename_i x r hn; exact lv_istore_n hx hb hd rfl hl (blt_of hn) rfl (fun ls' hl' => hk _ _ _ _ _ hs H locs cells slots ls' hW (lv_mono hl' tl_put1) h1 h2 h3)
    · cases hs
  · split at hs
    · rename_i x r hn; exact lv_lstore_n hx hb hd rfl hl (blt_of hn) rfl (fun ls' hl' => hk _ _ _ _ _ hs H locs cells slots ls' hW (lv_mono hl' tl_put2) h1 h2 h3)
    · cases hs
  · split at hs
    · rename_i x r hn; exact lv_fstore_n hx hb hd rfl hl (blt_of hn) rfl (fun ls' hl' => hk _ _ _ _ _ hs H locs cells slots ls' hW (lv_mono hl' tl_put1) h1 h2 h3)
    · cases hs
  · split at hs
    · rename_i x r hn; exact lv_dstore_n hx hb hd rfl hl (blt_of hn) rfl (fun ls' hl' => hk _ _ _ _ _ hs H locs cells slots ls' hW (lv_mono hl' tl_put2) h1 h2 h3)
    · cases hs
  · rename_i q0 q1 q2 q3
    split at hs
    · rename_i x r hn; exact lv_astore_n hx hb (by simpa [q0, q1, q2, q3] using hd) rfl hl (blt_of hn) rfl (fun ls' hl' => hk _ _ _ _ _ hs H locs cells slots ls' hW (lv_mono hl' tl_put1) h1 h2 h3)
    · rename_i r hn; exact lv_astore_nN hx hb (by simpa [q0, q1, q2, q3] using hd) rfl hl (blt_of hn) rfl (fun ls' hl' => hk _ _ _ _ _ hs H locs cells slots ls' hW (lv_mono hl' tl_put1) h1 h2 h3)
    · cases hs
theorem ac_a2i (hk : ∀ pc c ls st h, k pc c ls st h → AtC M Z p l e R s m args below meth cc ad cA D A xs L pc c ls st h) {f : Int32 → Int32 → Int32}
    (row : ∀ (x y : Int32) (H : Heap) (locs : List Loc) (cells slots : Nat) (lsA : Array Slot) (rest : List Value), W p l e R s m args below meth cc H locs cells slots Z (F0 m (pc + 1) lsA (.int (f x y) :: rest)) → W p l e R s m args below meth cc H locs cells slots Z (F0 m pc lsA (.int y :: .int x :: rest)))
    (hs : a2i k pc c ls st h f) : AtC M Z p l e R s m args below meth cc ad cA D A xs L pc c ls st h := by
  intro H locs cells slots lsA hW hl h1 h2 h3
  unfold a2i at hs
  split at hs
  · exact row _ _ _ _ _ _ _ _ (hk _ _ _ _ _ hs H locs cells slots lsA hW hl h1 h2 h3)
  · cases hs
theorem ac_a2l (hk : ∀ pc c ls st h, k pc c ls st h → AtC M Z p l e R s m args below meth cc ad cA D A xs L pc c ls st h) {f : Int64 → Int64 → Int64}
    (row : ∀ (x y : Int64) (H : Heap) (locs : List Loc) (cells slots : Nat) (lsA : Array Slot) (rest : List Value), W p l e R s m args below meth cc H locs cells slots Z (F0 m (pc + 1) lsA (.long (f x y) :: rest)) → W p l e R s m args below meth cc H locs cells slots Z (F0 m pc lsA (.long y :: .long x :: rest)))
    (hs : a2l k pc c ls st h f) : AtC M Z p l e R s m args below meth cc ad cA D A xs L pc c ls st h := by
  intro H locs cells slots lsA hW hl h1 h2 h3
  unfold a2l at hs
  split at hs
  · exact row _ _ _ _ _ _ _ _ (hk _ _ _ _ _ hs H locs cells slots lsA hW hl h1 h2 h3)
  · cases hs
theorem ac_if (hx : p.tables.exec = Jvm.exec) (hb : cc.code = M.b) (hk : ∀ pc c ls st h, k pc c ls st h → AtC M Z p l e R s m args below meth cc ad cA D A xs L pc c ls st h) {cd : Jvm.ClassFile.Cond} {off : Int} {t : Nat} {x : Int32} {r : List Value}
    (hd : decode M.b pc = .ok (.ifCond cd off, 3)) (ht : (pc : Int) + off = (t : Int)) (hs : stcc cd x 0 (k t c ls r h) (k (pc + 3) c ls r h)) : AtC M Z p l e R s m args below meth cc ad cA D A xs L pc c ls (.int x :: r) h := by
  intro H locs cells slots lsA hW hl h1 h2 h3
  have g1 : ∀ pc' : Nat, k pc' c ls r h → W p l e R s m args below meth cc H locs cells slots Z (F0 m pc' lsA (r.map (tr ad))) := fun pc' h9 => hk _ _ _ _ _ h9 H locs cells slots lsA hW hl h1 h2 h3
  cases cd
  · exact lv_if_eq hx hb hd ht (fun q => g1 _ (hs.1 q)) (fun q => g1 _ (hs.2 q))
  · exact lv_if_ne hx hb hd ht (fun q => g1 _ (hs.1 q)) (fun q => g1 _ (hs.2 q))
  · exact lv_if_lt hx hb hd ht (fun q => g1 _ (hs.1 q)) (fun q => g1 _ (hs.2 q))
  · exact lv_if_ge hx hb hd ht (fun q => g1 _ (hs.1 q)) (fun q => g1 _ (hs.2 q))
  · exact lv_if_gt hx hb hd ht (fun q => g1 _ (hs.1 q)) (fun q => g1 _ (hs.2 q))
  · exact lv_if_le hx hb hd ht (fun q => g1 _ (hs.1 q)) (fun q => g1 _ (hs.2 q))
theorem ac_icmp (hx : p.tables.exec = Jvm.exec) (hb : cc.code = M.b) (hk : ∀ pc c ls st h, k pc c ls st h → AtC M Z p l e R s m args below meth cc ad cA D A xs L pc c ls st h) {cd : Jvm.ClassFile.Cond} {off : Int} {t : Nat} {x y : Int32} {r : List Value}
    (hd : decode M.b pc = .ok (.if_icmp cd off, 3)) (ht : (pc : Int) + off = (t : Int)) (hs : stcc cd x y (k t c ls r h) (k (pc + 3) c ls r h)) : AtC M Z p l e R s m args below meth cc ad cA D A xs L pc c ls (.int y :: .int x :: r) h := by
  intro H locs cells slots lsA hW hl h1 h2 h3
  have g1 : ∀ pc' : Nat, k pc' c ls r h → W p l e R s m args below meth cc H locs cells slots Z (F0 m pc' lsA (r.map (tr ad))) := fun pc' h9 => hk _ _ _ _ _ h9 H locs cells slots lsA hW hl h1 h2 h3
  cases cd
  · exact lv_icmp_eq hx hb hd ht (fun q => g1 _ (hs.1 q)) (fun q => g1 _ (hs.2 q))
  · exact lv_icmp_ne hx hb hd ht (fun q => g1 _ (hs.1 q)) (fun q => g1 _ (hs.2 q))
  · exact lv_icmp_lt hx hb hd ht (fun q => g1 _ (hs.1 q)) (fun q => g1 _ (hs.2 q))
  · exact lv_icmp_ge hx hb hd ht (fun q => g1 _ (hs.1 q)) (fun q => g1 _ (hs.2 q))
  · exact lv_icmp_gt hx hb hd ht (fun q => g1 _ (hs.1 q)) (fun q => g1 _ (hs.2 q))
  · exact lv_icmp_le hx hb hd ht (fun q => g1 _ (hs.1 q)) (fun q => g1 _ (hs.2 q))
theorem fld_of {idx ci j so q : Nat} (h : fldOk M idx ci j so q = true) : ∃ (C : String) (T : u_T) (N : Nat), pmCl[ci]? = some (C, T, N) ∧ j < N ∧ Cond.fieldLink M.y.cls idx (T j).1 (T j).2.1 (T j).2.2.1 ∈ tbG ∧ N = (fso ci).length ∧
    ((so = 0 ∧ (fso ci).getD j 9 = 0 ∧ (T j).2.2.1 = "I") ∨ (so = 1 ∧ (fso ci).getD j 9 = 0 ∧ (T j).2.2.1 = "Z") ∨ (so = 2 ∧ (fso ci).getD j 9 = 1 ∧ (T j).2.2.1 = "J") ∨ (so = 3 ∧ (fso ci).getD j 9 = 2)) := by
  unfold fldOk at h
  split at h
  · rename_i C T N hc
    simp only [Bool.and_eq_true] at h
    obtain ⟨⟨⟨a1, a2⟩, a3⟩, a4⟩ := h
    refine ⟨C, T, N, hc, blt_of a1, tbG_at a2, Nat.eq_of_beq_eq_true a3, ?_⟩
    split at a4
    · rename_i e1; exact Or.inl ⟨rfl, e1, of_decide_eq_true a4⟩
    · rename_i e1; exact Or.inr (Or.inl ⟨rfl, e1, of_decide_eq_true a4⟩)
    · rename_i e1; exact Or.inr (Or.inr (Or.inl ⟨rfl, e1, of_decide_eq_true a4⟩))
    · rename_i e1; exact Or.inr (Or.inr (Or.inr ⟨rfl, e1⟩))
    · cases a4
  · cases h
theorem obR_of {a j b ci : Nat} {rs : List (Option Nat)} (hk : kd a = some (.inl (ci, rs))) (h : obR a j = some b) : rs.getD j none = some b := by
  unfold obR at h
  rw [hk] at h
  exact h
theorem ac_stg (hx : p.tables.exec = Jvm.exec) (hb : cc.code = M.b) (hown : s.vm.findClass M.y.cls = some m.cls) (hts : ∀ w ∈ tbG, w.before args s = true) (hK : va_K D pmCl (pmTy cA) s) (hk : ∀ pc c ls st h, k pc c ls st h → AtC M Z p l e R s m args below meth cc ad cA D A xs L pc c ls st h) {idx ci j so q : Nat}
    (hd : decode M.b pc = .ok (.getfield idx, 3)) (hf : fldOk M idx ci j so q = true) (hs : stg k pc c ls st h ci j so) : AtC M Z p l e R s m args below meth cc ad cA D A xs L pc c ls st h := by
  intro H locs cells slots lsA hW hl h1 h2 h3
  obtain ⟨C, T, N, hc, hjN, hw, hN, hso⟩ := fld_of hf
  unfold stg at hs
  split at hs
  · rename_i a r
    split at hs
    · rename_i hob
      obtain ⟨rs, hkd⟩ := obC_of hob
      have row : ∀ v : Value, (fvs ad h a ci rs)[j]? = some v → W p l e R s m args below meth cc H locs cells slots Z (F0 m (pc + 3) lsA (v :: r.map (tr ad))) → W p l e R s m args below meth cc H locs cells slots Z (F0 m pc lsA ((Value.ref a :: r).map (tr ad))) := by
        intro v hv kk
        exact va_get (D := D) (ci := ci) (v := v) (C := C) (T := T) (N := N) hx hb hts (cl_ok hc).1 hown hK hW.1 a (wd_ob hkd) hc j hjN (hts _ hw) (fun _ h9 => h9) hv hd kk
      rcases hso with ⟨rfl, e1, -⟩ | ⟨rfl, e1, -⟩ | ⟨rfl, e1, -⟩ | ⟨rfl, e1⟩
      · exact row _ (fvs_get e1 (by decide)) (hk _ _ _ _ _ hs H locs cells slots lsA hW hl h1 h2 h3)
      · exact row _ (fvs_get e1 (by decide)) (hk _ _ _ _ _ hs H locs cells slots lsA hW hl h1 h2 h3)
      · exact row _ (fvs_get e1 (by decide)) (hk _ _ _ _ _ hs H locs cells slots lsA hW hl h1 h2 h3)
      · simp only at hs
        split at hs
        · rename_i b hb2
          have e2 := fvs_get (ad := ad) (h := h) (a := a) (rs := rs) e1 (by decide)
          have e3 : fv ad h a rs 2 j = .ref (ad b) := by
            unfold fv
            simp only
            rw [obR_of hkd hb2]
            rfl
          rw [e3] at e2
          exact row _ e2 (hk _ _ _ _ _ hs H locs cells slots lsA hW hl h1 h2 h3)
        · cases hs
    · cases hs
  · cases hs
end
