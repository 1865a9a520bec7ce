/-! ===== the law's steps: elements, lengths, casts, constants, the JDK's natives ===== -/
/-- getstatic: kind 0 a reference of the start, 1 the int 1 -/
def qgst (k : KT) (pc c : Nat) (ls : Lc) (st : List Value) (h : PH) (ax : List Nat) : Prop := match ax with
  | [0, i, _] => k (pc + 3) c ls (.ref i :: st) h
  | [1, _, _] => k (pc + 3) c ls (.int 1 :: st) h
  | [2, _, _] => k (pc + 3) c ls (.null :: st) h ∧ k (pc + 3) c ls (.ref 1090 :: st) h
  | _ => False
def qldc (k : KT) (pc c : Nat) (ls : Lc) (st : List Value) (h : PH) (ax : List Nat) : Prop := match ax with
  | [n, _] => k (pc + 2) c ls (.int (nI n) :: st) h
  | [i] => k (pc + 2) c ls (.ref (1200 + i) :: st) h
  | [_, _, _] => k (pc + 2) c ls (.ref 1410 :: st) h
  | _ => False
/-- a reference against another: the law's own against the start's, or the same -/
def qacmp (k : KT) (pc t c : Nat) (cd : ACond) (ls : Lc) (st : List Value) (h : PH) : Prop := match st with
  | .ref y :: .ref x :: r => (x = y ∨ (2000 ≤ x ∧ ¬ qkd h x = 0 ∧ y < 2000 ∧ 32 ≤ qkd h y)) ∧ (match cd with
    | .eq => (x = y → k t c ls r h) ∧ (¬ x = y → k (pc + 3) c ls r h)
    | .ne => (¬ x = y → k t c ls r h) ∧ (x = y → k (pc + 3) c ls r h))
  | _ => False
/-- the JDK's own: 10 min, 11 max, 12 abs, 15 bytes copied, 16 references copied, 17 getClass of an array of objects, 18 Object's constructor -/
def qnat (k : KT) (pc kind c : Nat) (ls : Lc) (st : List Value) (h : PH) : Prop := match kind with
  | 10 => match st with
    | .int y :: .int x :: r => cat8 r <| k (pc + 3) c ls (.int (if y < x then y else x) :: r) h
    | _ => False
  | 11 => match st with
    | .int y :: .int x :: r => cat8 r <| k (pc + 3) c ls (.int (if x < y then y else x) :: r) h
    | _ => False
  | 12 => match st with
    | .int x :: r => cat8 r <| k (pc + 3) c ls (.int (if 0 ≤ x then x else 0 - x) :: r) h
    | _ => False
  | 15 => match st with
    | .int n :: .int dp :: .ref b :: .int sp :: .ref a :: r => cat8 r <| ((qkd h a = 17 ∨ qkd h a = 49) ∧ qkd h b = 17) ∧ (¬ sp < 0 ∧ ¬ dp < 0 ∧ ¬ n < 0 ∧ sp.toNatClampNeg + n.toNatClampNeg ≤ qln h a ∧ dp.toNatClampNeg + n.toNatClampNeg ≤ qln h b) ∧ (∀ i, i < n.toNatClampNeg → fits .byte (.int (gi h a (sp.toNatClampNeg + i))) = true) ∧ k (pc + 3) c ls r (cpi h a sp.toNatClampNeg b dp.toNatClampNeg n.toNatClampNeg)
    | _ => False
  | 16 => match st with
    | .int n :: .int dp :: .ref b :: .int sp :: .ref a :: r => cat8 r <| (qkd h a = 23 ∧ qkd h b = 23) ∧ (¬ sp < 0 ∧ ¬ dp < 0 ∧ ¬ n < 0 ∧ sp.toNatClampNeg + n.toNatClampNeg ≤ qln h a ∧ dp.toNatClampNeg + n.toNatClampNeg ≤ qln h b) ∧ (∃ g, (g = 1 ∨ g = 16) ∧ ∀ i, i < n.toNatClampNeg → ∀ y, gr h a (sp.toNatClampNeg + i) = some y → qkd h y = g) ∧ k (pc + 3) c ls r (cpr h a sp.toNatClampNeg b dp.toNatClampNeg n.toNatClampNeg)
    | _ => False
  | 17 => match st with
    | .ref a :: r => cat8 r <| qkd h a = 23 ∧ k (pc + 3) c ls (.ref 1410 :: r) h
    | _ => False
  | 18 => match st with
    | .ref _ :: r => cat8 r <| k (pc + 3) c ls r h
    | _ => False
  | _ => False
section
variable {M : MI} {Q : Res → PH → Prop} {Z : State → Prop} {p : Program} {l : Launch} {e : Env} {R : Room} {s : State} {m : MethodId} {args : Array Value} {below : List Frame} {meth : Method} {cc : Code} {ad : Nat → Nat} {cA : Nat → ClassId} {D : va_G} {A : Nat → Prop} {X : PH → va_W} {h0 : PH} {k : KT} {pc c : Nat} {ls : Lc} {st : List Value} {h : PH}
/-- an array of the law's own, by its place -/
theorem arr_at {L : List Nat} (hKd : KdOk h L) {n t : Nat} (hn : qkd h n = 16 + t) (ht : t < 16) : ¬ qkd h n = 0 ∧ qkd h n < 32 ∧ ∃ i : Nat, (X h ++ pq ad cA h L)[i]? = some (dq n, .inl (cA t, qln h n, aeq ad h n t)) := by
  have g0 : ¬ qkd h n = 0 := by omega
  have g1 : qkd h n < 32 := by omega
  obtain ⟨i, hi⟩ := pq_get (X := X h) (ad := ad) (cA := cA) hKd g0 g1
  rw [celQ_ar hn] at hi
  exact ⟨g0, g1, i, hi⟩
theorem cst_T (hKQ : KQ ad A s s.heap h0) (hMd : Md h0 h) {L : List Nat} (hKd : KdOk h L) (n : Nat) : (qkd h n = 48 → va_T .int (ad n) (qln h n) (fun j => .int (gi h n j)) A s s.heap) ∧ (qkd h n = 49 → va_T .byte (ad n) (qln h n) (fun j => .int (gi h n j)) A s s.heap) ∧ (qkd h n = 55 → va_T (.object "java/lang/Object") (ad n) (qln h n) (fun j => va_rf ((gr h n j).map ad)) A s s.heap) := by
  have hkq := (hKQ.of hMd hKd) n
  unfold kqF at hkq
  refine ⟨fun e => ?_, fun e => ?_, fun e => ?_⟩
  · rw [e] at hkq; exact hkq.2
  · rw [e] at hkq; exact hkq.2
  · rw [e] at hkq; exact hkq.2
theorem bc_ald (hC : Cb M Q Z p l e R s m args below meth cc ad cA D A X h0) (hk : ∀ pc c ls st h, k pc c ls st h → BtC M Z p l e R s m args below meth cc ad cA D A X h0 pc c ls st h) {t : Nat}
    (hd : match t with
      | 0 => decode M.b pc = .ok (.iaload, 1)
      | 1 => decode M.b pc = .ok (.baload, 1)
      | 6 => decode M.b pc = .ok (.baload, 1)
      | _ => decode M.b pc = .ok (.aaload, 1)) (hs : qald k t pc c ls st h) : BtC M Z p l e R s m args below meth cc ad cA D A X h0 pc c ls st h := by
  intro H locs cells slots lsA hW hl h1 h2 h3
  obtain ⟨⟨hx, hb, hml, hown, hts⟩, hK, hA, hKQ, hCQ, hX, hfl, hst, hroom, hnm0, hend⟩ := hC
  have hW0 := hW
  obtain ⟨L, hP, hD, hS, hKd, hMd, hLw⟩ := hW
  unfold qald at hs
  split at hs
  · rename_i i n r
    have go : ∀ (v : Value), k (pc + 1) c ls (v :: r) h → W p l e R s m args below meth cc H locs cells slots Z (F0 m (pc + 1) lsA (tr ad v :: r.map (tr ad))) := fun v h9 => hk _ _ _ _ _ h9 H locs cells slots lsA hW0 hl h1 h2 h3
    have own : ∀ t, qkd h n = 16 + t → t < 16 → ad n = dq n := fun t ht h16 => ad_own hCQ (hKd.own (by omega) (by omega)).1
    match t, hd, hs with
    | 0, hd, hs =>
      obtain ⟨hkn, hin, hs⟩ := hs
      rcases hkn with hkn | hkn
      · obtain ⟨-, -, i9, hi⟩ := arr_at (X := X) (ad := ad) (cA := cA) hKd (t := 0) hkn (by decide)
        show W p l e R s m args below meth cc H locs cells slots Z (F0 m pc lsA (.int i :: .ref (ad n) :: r.map (tr ad)))
        rw [own 0 hkn (by decide)]
        exact va_iald hx hb hK hP i9 0 hi rfl hin hd (go _ hs)
      · exact va_ti hx hb ((cst_T hKQ hMd hKd n).1 hkn) hS hin rfl hd (go _ hs)
    | 1, hd, hs =>
      obtain ⟨hkn, hin, hs⟩ := hs
      rcases hkn with hkn | hkn
      · obtain ⟨-, -, i9, hi⟩ := arr_at (X := X) (ad := ad) (cA := cA) hKd (t := 1) hkn (by decide)
        show W p l e R s m args below meth cc H locs cells slots Z (F0 m pc lsA (.int i :: .ref (ad n) :: r.map (tr ad)))
        rw [own 1 hkn (by decide)]
        exact va_bald hx hb hK hP i9 1 hi rfl hin hd (go _ hs)
      · exact va_tb hx hb ((cst_T hKQ hMd hKd n).2.1 hkn) hS hin rfl hd (go _ hs)
    | 6, hd, hs =>
      obtain ⟨hkn, hin, hs⟩ := hs
      obtain ⟨-, -, i9, hi⟩ := arr_at (X := X) (ad := ad) (cA := cA) hKd (t := 6) hkn (by decide)
      show W p l e R s m args below meth cc H locs cells slots Z (F0 m pc lsA (.int i :: .ref (ad n) :: r.map (tr ad)))
      rw [own 6 hkn (by decide)]
      exact va_zald hx hb hK hP i9 6 hi rfl hin hd (go _ hs)
    | 7, hd, hs =>
      obtain ⟨hkn, hin, hs⟩ := hs
      obtain ⟨-, -, i9, hi⟩ := arr_at (X := X) (ad := ad) (cA := cA) hKd (t := 7) hkn (by decide)
      show W p l e R s m args below meth cc H locs cells slots Z (F0 m pc lsA (.int i :: .ref (ad n) :: r.map (tr ad)))
      rw [own 7 hkn (by decide)]
      refine va_aldq hx hb hK hP i9 7 hi rfl hin hd ?_
      show W p l e R s m args below meth cc H locs cells slots Z (F0 m (pc + 1) lsA (va_rf ((gr h n i.toNatClampNeg).map ad) :: r.map (tr ad)))
      cases hg : gr h n i.toNatClampNeg with
      | none => exact go .null (hs.2 hg)
      | some b => exact go (.ref b) (hs.1 b hg)
    | 8, hd, hs =>
      obtain ⟨hkn, hin, hs⟩ := hs
      obtain ⟨-, -, i9, hi⟩ := arr_at (X := X) (ad := ad) (cA := cA) hKd (t := 8) hkn (by decide)
      show W p l e R s m args below meth cc H locs cells slots Z (F0 m pc lsA (.int i :: .ref (ad n) :: r.map (tr ad)))
      rw [own 8 hkn (by decide)]
      have hlt : i.toNatClampNeg < qln h n := Nat.not_le.mp fun q => hin (Or.inr q)
      refine W.aald (v := va_rf ((gr h n i.toNatClampNeg).map ad)) (ty := .array .boolean) hx hb (hP i9 _ hi) ((hK.2 8 _ rfl).1 (qln h n) (fun j => va_rf ((h.2.2.1 n j).map ad))) rfl (fun q => by cases q) (by show ¬ (i < 0 ∨ (arrV _ _ _).slots.size ≤ _); rw [arrV_size]; exact hin) (by show (arrV _ _ _).slots[_]? = _; rw [arrV_read _ _ hlt]; rfl) rfl rfl hd ?_
      cases hg : gr h n i.toNatClampNeg with
      | none => exact go .null (hs.2 hg)
      | some b => exact go (.ref b) (hs.1 b hg)
    | 2, _, hs => exact hs.elim
    | 3, _, hs => exact hs.elim
    | 4, _, hs => exact hs.elim
    | 5, _, hs => exact hs.elim
    | _ + 9, _, hs => exact hs.elim
  · cases hs
/-- the cell of a member or of an array of ints -/
theorem cls_own (hK : va_K D pmCl (pmTy cA) s) (hCQ : CQ ad A s s.heap) {L : List Nat} {H : Heap} (hKd : KdOk h L) (hP : va_P D pmCl (X h ++ pq ad cA h L) H) {b g : Nat} (hg : g = 1 ∨ g = 16) (hb : qkd h b = g) : ∃ cell : Cell, H[ad b]? = some cell ∧ cell.vm.isStatics = false ∧ s.vm.findClass (if g = 1 then RX12 else "[I") = some cell.cls := by
  rcases hg with rfl | rfl
  · obtain ⟨i, hi⟩ := pq_get (X := X h) (ad := ad) (cA := cA) hKd (n := b) (by omega) (by omega)
    rw [celQ_ob (ci := 9) (by decide) (by omega)] at hi
    rw [ad_own hCQ (hKd.own (n := b) (by omega) (by omega)).1]
    exact va_recv hK hP (ci := 9) (q := (RX12, TX12, 6)) rfl hi
  · obtain ⟨-, -, i, hi⟩ := arr_at (X := X) (ad := ad) (cA := cA) hKd (t := 0) hb (by decide)
    rw [ad_own hCQ (hKd.own (n := b) (by omega) (by omega)).1]
    have h9 := hP i _ hi
    refine ⟨_, h9, rfl, ?_⟩
    exact cA_name hK (t := 0) rfl (by intro C; exact nofun)
theorem cls_asg (hCQ : CQ ad A s s.heap) {g : Nat} (hg : g = 1 ∨ g = 16) : ∀ comp c0 : ClassId, s.vm.findClass "java/lang/Object" = some comp → s.vm.findClass (if g = 1 then RX12 else "[I") = some c0 → s.vm.assignable c0 comp = true := by
  intro comp c0 f1 f2
  have hw : Cond.castable (if g = 1 then RX12 else "[I") "java/lang/Object" ∈ XQ := by
    rcases hg with rfl | rfl <;> decide +kernel
  obtain ⟨c1, t1, e1, e2, e3⟩ := Cond.castable_spec (va_Nw.use (A := #[]) rfl (hCQ.2.1 _ hw))
  cases f2.symm.trans e1
  cases f1.symm.trans e2
  exact e3
theorem bc_ast (hC : Cb M Q Z p l e R s m args below meth cc ad cA D A X h0) (hk : ∀ pc c ls st h, k pc c ls st h → BtC M Z p l e R s m args below meth cc ad cA D A X h0 pc c ls st h) {t : Nat}
    (hd : match t with
      | 0 => decode M.b pc = .ok (.iastore, 1)
      | 1 => decode M.b pc = .ok (.bastore, 1)
      | 6 => decode M.b pc = .ok (.bastore, 1)
      | _ => decode M.b pc = .ok (.aastore, 1)) (hs : qast k t pc c ls st h) : BtC M Z p l e R s m args below meth cc ad cA D A X h0 pc c ls st h := by
  intro H locs cells slots lsA hW hl h1 h2 h3
  obtain ⟨⟨hx, hb, hml, hown, hts⟩, hK, hA, hKQ, hCQ, hX, hfl, hst, hroom, hnm0, hend⟩ := hC
  obtain ⟨L, hP, hD, hS, hKd, hMd, hLw⟩ := hW
  have go : ∀ (n t i9 : Nat) (h' : PH) (r : List Value) (ee : va_E), t < 16 → qkd h n = 16 + t → (X h ++ pq ad cA h L)[i9]? = some (dq n, celQ ad cA h n) → Oth n h h' → qkd h' n = qkd h n → ee = celQ ad cA h' n → k (pc + 1) c ls r h' → ∀ (H1 : Heap) (locs1 : List Loc), va_P D pmCl ((X h ++ pq ad cA h L).set i9 (dq n, ee)) H1 → va_D A ((X h ++ pq ad cA h L).set i9 (dq n, ee)) → va_S A s.heap H1 locs1 → W p l e R s m args below meth cc H1 locs1 cells slots Z (F0 m (pc + 1) lsA (r.map (tr ad))) := by
    intro n t i9 h' r ee ht hkn hi ho hkd he hkk H1 locs1 hP1 hD1 hS1
    exact hk _ _ _ _ _ hkk H1 locs1 cells slots lsA (WL.set hX hKd hMd hLw (by omega) (by omega) hD hi ho hkd he hP1 hD1 hS1) hl h1 h2 h3
  have own : ∀ n t, qkd h n = 16 + t → t < 16 → ad n = dq n := fun n t ht h16 => ad_own hCQ (hKd.own (by omega) (by omega)).1
  unfold qast at hs
  match t, hd, hs with
  | 0, hd, hs =>
    simp only at hs
    split at hs
    · rename_i x i n r _
      obtain ⟨hkn, hin, hs⟩ := hs
      obtain ⟨-, -, i9, hi⟩ := arr_at (X := X) (ad := ad) (cA := cA) hKd (t := 0) hkn (by decide)
      have hi0 : (X h ++ pq ad cA h L)[i9]? = some (dq n, celQ ad cA h n) := by rw [hi, celQ_ar (t := 0) hkn]
      show W p l e R s m args below meth cc H locs cells slots Z (F0 m pc lsA (.int x :: .int i :: .ref (ad n) :: r.map (tr ad)))
      rw [own n 0 hkn (by decide)]
      exact va_iast hx hb hK hP hD hS i9 0 hi rfl hin hd (go n 0 i9 _ r _ (by decide) hkn hi0 (Oth.si _ _ _ _) rfl (by rw [celQ_ar (h := si h n i.toNatClampNeg x) (t := 0) hkn, ← ae_si (Or.inl rfl)]; rfl) hs)
    · cases hs
  | 1, hd, hs =>
    simp only at hs
    split at hs
    · rename_i x i n r _
      obtain ⟨hkn, hin, hs⟩ := hs
      obtain ⟨-, -, i9, hi⟩ := arr_at (X := X) (ad := ad) (cA := cA) hKd (t := 1) hkn (by decide)
      have hi0 : (X h ++ pq ad cA h L)[i9]? = some (dq n, celQ ad cA h n) := by rw [hi, celQ_ar (t := 1) hkn]
      show W p l e R s m args below meth cc H locs cells slots Z (F0 m pc lsA (.int x :: .int i :: .ref (ad n) :: r.map (tr ad)))
      rw [own n 1 hkn (by decide)]
      exact va_bast hx hb hK hP hD hS i9 1 hi rfl hin hd (go n 1 i9 _ r _ (by decide) hkn hi0 (Oth.si _ _ _ _) rfl (by rw [vp_nar_byte, celQ_ar (h := si h n i.toNatClampNeg x.toInt8.toInt32) (t := 1) hkn, ← ae_si (Or.inr (Or.inl rfl))]; rfl) hs)
    · cases hs
  | 6, hd, hs =>
    simp only at hs
    split at hs
    · rename_i x i n r _
      obtain ⟨hkn, hin, hB, hs⟩ := hs
      obtain ⟨-, -, i9, hi⟩ := arr_at (X := X) (ad := ad) (cA := cA) hKd (t := 6) hkn (by decide)
      have hi0 : (X h ++ pq ad cA h L)[i9]? = some (dq n, celQ ad cA h n) := by rw [hi, celQ_ar (t := 6) hkn]
      have ex : vp_nar .boolean x = x := by rcases hB with rfl | rfl <;> decide
      show W p l e R s m args below meth cc H locs cells slots Z (F0 m pc lsA (.int x :: .int i :: .ref (ad n) :: r.map (tr ad)))
      rw [own n 6 hkn (by decide)]
      exact va_zast hx hb hK hP hD hS i9 6 hi rfl hin hd (go n 6 i9 _ r _ (by decide) hkn hi0 (Oth.si _ _ _ _) rfl (by rw [ex, celQ_ar (h := si h n i.toNatClampNeg x) (t := 6) hkn, ← ae_si (Or.inr (Or.inr rfl))]; rfl) hs)
    · cases hs
  | 7, hd, hs =>
    simp only at hs
    split at hs
    · rename_i b i n r _
      obtain ⟨hkn, hkb, hin, hs⟩ := hs
      obtain ⟨-, -, i9, hi⟩ := arr_at (X := X) (ad := ad) (cA := cA) hKd (t := 7) hkn (by decide)
      have hi0 : (X h ++ pq ad cA h L)[i9]? = some (dq n, celQ ad cA h n) := by rw [hi, celQ_ar (t := 7) hkn]
      show W p l e R s m args below meth cc H locs cells slots Z (F0 m pc lsA (.ref (ad b) :: .int i :: .ref (ad n) :: r.map (tr ad)))
      rw [own n 7 hkn (by decide)]
      have hany : va_Any "java/lang/Object" s H (ad b) := by
        obtain ⟨cell, q1, q2, q3⟩ := cls_own (X := X) hK hCQ hKd hP (g := qkd h b) hkb rfl
        obtain ⟨kC, hkC, -⟩ := Vm.findClass_spec q3
        exact ⟨cell, q1, q2, ⟨kC, hkC⟩, fun comp hc => cls_asg hCQ hkb comp _ hc q3⟩
      exact va_astqM hx hb hK hP hD hS i9 7 hi rfl hany hin hd (go n 7 i9 _ r _ (by decide) hkn hi0 (Oth.sr _ _ _ _) rfl (by rw [celQ_ar (h := sr h n i.toNatClampNeg (some b)) (t := 7) hkn, ← ae_sr]; rfl) hs)
    · cases hs
  | 2, _, hs => exact hs.elim
  | 3, _, hs => exact hs.elim
  | 4, _, hs => exact hs.elim
  | 5, _, hs => exact hs.elim
  | _ + 8, _, hs => exact hs.elim
theorem bc_aln (hC : Cb M Q Z p l e R s m args below meth cc ad cA D A X h0) (hk : ∀ pc c ls st h, k pc c ls st h → BtC M Z p l e R s m args below meth cc ad cA D A X h0 pc c ls st h)
    (hd : decode M.b pc = .ok (.arraylength, 1)) (hs : qaln k pc c ls st h) : BtC M Z p l e R s m args below meth cc ad cA D A X h0 pc c ls st h := by
  intro H locs cells slots lsA hW hl h1 h2 h3
  obtain ⟨⟨hx, hb, hml, hown, hts⟩, hK, hA, hKQ, hCQ, hX, hfl, hst, hroom, hnm0, hend⟩ := hC
  have hW0 := hW
  obtain ⟨L, hP, hD, hS, hKd, hMd, hLw⟩ := hW
  unfold qaln at hs
  split at hs
  · rename_i n r
    obtain ⟨hkn, hs⟩ := hs
    have go := hk _ _ _ _ _ hs H locs cells slots lsA hW0 hl h1 h2 h3
    have cT := cst_T hKQ hMd hKd n
    rcases hkn with ⟨k1, k2⟩ | hkn | hkn | hkn
    · obtain ⟨t, ht, ht2⟩ : ∃ t, qkd h n = 16 + t ∧ t < 9 := ⟨qkd h n - 16, by omega, by omega⟩
      obtain ⟨g0, g1, i9, hi⟩ := arr_at (X := X) (ad := ad) (cA := cA) hKd ht (by omega)
      show W p l e R s m args below meth cc H locs cells slots Z (F0 m pc lsA (.ref (ad n) :: r.map (tr ad)))
      rw [ad_own hCQ (hKd.own g0 g1).1]
      obtain ⟨ty, hty⟩ : ∃ ty, (pmTy cA)[t]? = some (cA t, ty) := by
        match t, ht2 with
        | 0, _ => exact ⟨_, rfl⟩
        | 1, _ => exact ⟨_, rfl⟩
        | 2, _ => exact ⟨_, rfl⟩
        | 3, _ => exact ⟨_, rfl⟩
        | 4, _ => exact ⟨_, rfl⟩
        | 5, _ => exact ⟨_, rfl⟩
        | 6, _ => exact ⟨_, rfl⟩
        | 7, _ => exact ⟨_, rfl⟩
        | 8, _ => exact ⟨_, rfl⟩
      exact va_alen hx hb hK hP i9 t hi hty rfl hd go
    · exact va_tlen hx hb (cT.1 hkn) hS rfl hd go
    · exact va_tlen hx hb (cT.2.1 hkn) hS rfl hd go
    · exact va_tlen hx hb (cT.2.2 hkn) hS rfl hd go
  · cases hs
theorem bc_cast (hC : Cb M Q Z p l e R s m args below meth cc ad cA D A X h0) (hk : ∀ pc c ls st h, k pc c ls st h → BtC M Z p l e R s m args below meth cc ad cA D A X h0 pc c ls st h) {idx t : Nat}
    (hw : match t with
      | 0 => Cond.classLink M.y.cls idx RX12 ∈ tbG
      | 1 => Cond.classLink M.y.cls idx "[Ljava/lang/Object;" ∈ tbG
      | _ => Cond.classLink M.y.cls idx "[B" ∈ tbG)
    (hd : decode M.b pc = .ok (.checkcast idx, 3)) (hs : qcast k t pc c ls st h) : BtC M Z p l e R s m args below meth cc ad cA D A X h0 pc c ls st h := by
  intro H locs cells slots lsA hW hl h1 h2 h3
  obtain ⟨⟨hx, hb, hml, hown, hts⟩, hK, hA, hKQ, hCQ, hX, hfl, hst, hroom, hnm0, hend⟩ := hC
  have hW0 := hW
  obtain ⟨L, hP, hD, hS, hKd, hMd, hLw⟩ := hW
  unfold qcast at hs
  split at hs
  · rename_i n r
    obtain ⟨hkn, hs⟩ := hs
    have go := hk _ _ _ _ _ hs H locs cells slots lsA hW0 hl h1 h2 h3
    match t, hw, hkn with
    | 0, hw, hkn => exact va_castY (C := RX12) (nm := RX12) hx hb hown (hts _ hw) (hCQ.2.1 _ (by decide +kernel)) (cls_own (X := X) hK hCQ hKd hP (g := 1) (Or.inl rfl) hkn) hd go
    | 1, hw, hkn =>
      obtain ⟨g0, g1, i9, hi⟩ := arr_at (X := X) (ad := ad) (cA := cA) hKd (t := 7) hkn (by decide)
      have go2 : W p l e R s m args below meth cc H locs cells slots Z (F0 m (pc + 3) lsA (.ref (ad n) :: r.map (tr ad))) := go
      show W p l e R s m args below meth cc H locs cells slots Z (F0 m pc lsA (.ref (ad n) :: r.map (tr ad)))
      rw [ad_own hCQ (hKd.own g0 g1).1] at go2 ⊢
      exact va_castA hx hb hown (hts _ hw) hP i9 hi (cA_nameO hK (t := 7) rfl) hd go2
    | _ + 2, hw, hkn =>
      obtain ⟨g0, g1, i9, hi⟩ := arr_at (X := X) (ad := ad) (cA := cA) hKd (t := 1) hkn (by decide)
      have go2 : W p l e R s m args below meth cc H locs cells slots Z (F0 m (pc + 3) lsA (.ref (ad n) :: r.map (tr ad))) := go
      show W p l e R s m args below meth cc H locs cells slots Z (F0 m pc lsA (.ref (ad n) :: r.map (tr ad)))
      rw [ad_own hCQ (hKd.own g0 g1).1] at go2 ⊢
      exact va_castA hx hb hown (hts _ hw) hP i9 hi (cA_name hK (t := 1) rfl (by intro C; exact nofun)) hd go2
  · cases hs
theorem bc_gst (hC : Cb M Q Z p l e R s m args below meth cc ad cA D A X h0) (hk : ∀ pc c ls st h, k pc c ls st h → BtC M Z p l e R s m args below meth cc ad cA D A X h0 pc c ls st h) {idx : Nat} {ax : List Nat}
    (hw : match ax with
      | [0, i, _] => ∃ q ∈ gQ, q.2.2.2 = i ∧ Cond.fieldLink M.y.cls idx q.1 q.2.1 q.2.2.1 ∈ tbG
      | [1, _, _] => Cond.fieldLink M.y.cls idx "java/lang/String" "COMPACT_STRINGS" "Z" ∈ tbG
      | [2, _, _] => Cond.fieldLink M.y.cls idx cPre cFmt cBiF ∈ tbG
      | _ => True)
    (hd : decode M.b pc = .ok (.getstatic idx, 3)) (hs : qgst k pc c ls st h ax) : BtC M Z p l e R s m args below meth cc ad cA D A X h0 pc c ls st h := by
  intro H locs cells slots lsA hW hl h1 h2 h3
  obtain ⟨⟨hx, hb, hml, hown, hts⟩, hK, hA, hKQ, hCQ, hX, hfl, hst, hroom, hnm0, hend⟩ := hC
  have hW0 := hW
  obtain ⟨L, hP, hD, hS, hKd, hMd, hLw⟩ := hW
  unfold qgst at hs
  split at hs
  · obtain ⟨q, hq, e1, w⟩ := hw
    have go := hk _ _ _ _ _ hs H locs cells slots lsA hW0 hl h1 h2 h3
    rw [← e1] at go
    exact va_gets hx hb (hCQ.2.2.2.2.1 q hq) hS hown (hts _ w) (fun _ h9 => h9) hd go
  · exact va_gets hx hb hCQ.2.2.2.2.2.1 hS hown (hts _ hw) (fun _ h9 => h9) hd (hk _ _ _ _ _ hs H locs cells slots lsA hW0 hl h1 h2 h3)
  · rcases hCQ.2.2.2.2.2.2.2.2.2 with z | z
    · exact va_gets hx hb z hS hown (hts _ hw) (fun _ h9 => h9) hd (hk _ _ _ _ _ hs.1 H locs cells slots lsA hW0 hl h1 h2 h3)
    · exact va_gets hx hb z hS hown (hts _ hw) (fun _ h9 => h9) hd (hk _ _ _ _ _ hs.2 H locs cells slots lsA hW0 hl h1 h2 h3)
  · cases hs
theorem bc_ldc (hC : Cb M Q Z p l e R s m args below meth cc ad cA D A X h0) (hk : ∀ pc c ls st h, k pc c ls st h → BtC M Z p l e R s m args below meth cc ad cA D A X h0 pc c ls st h) {idx : Nat} {ax : List Nat}
    (hw : match ax with
      | [n, _] => Cond.constant M.y.cls idx (nI n) ∈ tbG
      | [i] => M.y.cls = RX13 ∧ ∃ tx, sQi[i]? = some (idx, tx)
      | [_, _, _] => Cond.classLink M.y.cls idx "[Ljava/lang/Object;" ∈ tbG
      | _ => True)
    (hd : decode M.b pc = .ok (.ldc idx, 2)) (hs : qldc k pc c ls st h ax) : BtC M Z p l e R s m args below meth cc ad cA D A X h0 pc c ls st h := by
  intro H locs cells slots lsA hW hl h1 h2 h3
  obtain ⟨⟨hx, hb, hml, hown, hts⟩, hK, hA, hKQ, hCQ, hX, hfl, hst, hroom, hnm0, hend⟩ := hC
  have hW0 := hW
  obtain ⟨L, hP, hD, hS, hKd, hMd, hLw⟩ := hW
  unfold qldc at hs
  split at hs
  · have go := hk _ _ _ _ _ hs H locs cells slots lsA hW0 hl h1 h2 h3
    exact lv_ldc hx hb hown (hts _ hw) hd go
  · obtain ⟨w1, tx, w2⟩ := hw
    have go := hk _ _ _ _ _ hs H locs cells slots lsA hW0 hl h1 h2 h3
    rw [w1] at hown
    exact va_ldcS hx hb hown (hCQ.2.2.1 _ _ w2) hd go
  · exact va_ldcM hx hb hown (hts _ hw) hCQ.2.2.2.2.2.2.1 hd (hk _ _ _ _ _ hs H locs cells slots lsA hW0 hl h1 h2 h3)
  · cases hs
end
