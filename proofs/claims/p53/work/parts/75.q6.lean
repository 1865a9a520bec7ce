/-! ===== the law's steps on its own cells ===== -/
/-- what the reader, the writer of a field asks of the object -/
def kQ (h : PH) (n ci j : Nat) : Prop := match ci with
  | 9 => qkd h n = 1
  | 10 => qkd h n = 2
  | 11 => match j with
    | 0 => qkd h n = 3 ∨ qkd h n = 35
    | 1 => qkd h n = 3 ∨ qkd h n = 35
    | _ => qkd h n = 3
  | 12 => qkd h n = 4
  | 13 => qkd h n = 5
  | 14 => qkd h n = 6
  | _ => False
def kP (h : PH) (n ci : Nat) : Prop := match ci with
  | 9 => qkd h n = 1
  | 10 => qkd h n = 2
  | 11 => qkd h n = 3
  | 12 => qkd h n = 4
  | 13 => qkd h n = 5
  | 14 => qkd h n = 6
  | _ => False
theorem kP_old {h : PH} {n ci : Nat} (q : kP h n ci) : qkd h n + 8 = ci := by
  unfold kP at q
  split at q
  · omega
  · omega
  · omega
  · omega
  · omega
  · omega
  · exact q.elim
theorem kQ_old {h : PH} {n ci j : Nat} (q : kQ h n ci j) : qkd h n + 8 = ci ∨ (ci = 11 ∧ j < 2 ∧ qkd h n = 35) := by
  unfold kQ at q
  split at q
  · exact Or.inl (by omega)
  · exact Or.inl (by omega)
  · split at q
    · exact q.imp (fun z => by omega) (fun z => ⟨rfl, by omega, z⟩)
    · exact q.imp (fun z => by omega) (fun z => ⟨rfl, by omega, z⟩)
    · exact Or.inl (by omega)
  · exact Or.inl (by omega)
  · exact Or.inl (by omega)
  · exact Or.inl (by omega)
  · exact q.elim
/-- getfield: so 3 a reference -/
def qget (k : KT) (pc c : Nat) (ls : Lc) (st : List Value) (h : PH) (ci j so : Nat) : Prop := match st with
  | .ref n :: r => kQ h n ci j ∧ (match so with
    | 3 => (∀ b, gr h n j = some b → k (pc + 3) c ls (.ref b :: r) h) ∧ (gr h n j = none → k (pc + 3) c ls (.null :: r) h)
    | _ => k (pc + 3) c ls (.int (gi h n j) :: r) h)
  | _ => False
/-- putfield -/
def qput (k : KT) (pc c : Nat) (ls : Lc) (st : List Value) (h : PH) (ci j so : Nat) : Prop := match so with
  | 3 => match st with
    | .ref b :: .ref n :: r => kP h n ci ∧ k (pc + 3) c ls r (sr h n j (some b))
    | .null :: .ref n :: r => kP h n ci ∧ k (pc + 3) c ls r (sr h n j none)
    | _ => False
  | 1 => match st with
    | .int x :: .ref n :: r => kP h n ci ∧ isB x ∧ k (pc + 3) c ls r (si h n j x)
    | _ => False
  | 4 => match st with
    | .int x :: .ref n :: r => kP h n ci ∧ isB x ∧ k (pc + 3) c ls r (si h n j x)
    | _ => False
  | _ => match st with
    | .int x :: .ref n :: r => kP h n ci ∧ k (pc + 3) c ls r (si h n j x)
    | _ => False
/-- what a new object costs -/
def cstO (ci : Nat) : Nat := match ci with
  | 10 => 3
  | _ => 1
def qnew (M : MI) (k : KT) (pc c : Nat) (ls : Lc) (st : List Value) (h : PH) (ci : Nat) : Prop :=
  c + cstO ci ≤ M.cap ∧ ∀ q, 2000 ≤ q → qkd h q = 0 → k (pc + 3) (c + cstO ci) ls (.ref q :: st) (nw h q (ci - 8) 0)
/-- a new array of n places, of type t -/
def qnewa (M : MI) (k : KT) (pc len c : Nat) (ls : Lc) (st : List Value) (h : PH) (t : Nat) : Prop := match st with
  | .int n :: r => (¬ n < 0 ∧ n.toNatClampNeg ≤ 100000) ∧ c + (1 + n.toNatClampNeg / 12) ≤ M.cap ∧ ∀ q, 2000 ≤ q → qkd h q = 0 → k (pc + len) (c + (1 + n.toNatClampNeg / 12)) ls (.ref q :: r) (nw h q (16 + t) n.toNatClampNeg)
  | _ => False
/-- array loads: 0 ints, 1 bytes, 6 booleans, 7 objects -/
def qald (k : KT) (t pc c : Nat) (ls : Lc) (st : List Value) (h : PH) : Prop := match st with
  | .int i :: .ref n :: r => match t with
    | 0 => (qkd h n = 16 ∨ qkd h n = 48) ∧ vp_in i (qln h n) ∧ k (pc + 1) c ls (.int (gi h n i.toNatClampNeg) :: r) h
    | 1 => (qkd h n = 17 ∨ qkd h n = 49) ∧ vp_in i (qln h n) ∧ k (pc + 1) c ls (.int (gi h n i.toNatClampNeg) :: r) h
    | 6 => qkd h n = 22 ∧ vp_in i (qln h n) ∧ k (pc + 1) c ls (.int (gi h n i.toNatClampNeg) :: r) h
    | 7 => qkd h n = 23 ∧ vp_in i (qln h n) ∧ (∀ b, gr h n i.toNatClampNeg = some b → k (pc + 1) c ls (.ref b :: r) h) ∧ (gr h n i.toNatClampNeg = none → k (pc + 1) c ls (.null :: r) h)
    | 8 => qkd h n = 24 ∧ vp_in i (qln h n) ∧ (∀ b, gr h n i.toNatClampNeg = some b → k (pc + 1) c ls (.ref b :: r) h) ∧ (gr h n i.toNatClampNeg = none → k (pc + 1) c ls (.null :: r) h)
    | _ => False
  | _ => False
/-- array stores -/
def qast (k : KT) (t pc c : Nat) (ls : Lc) (st : List Value) (h : PH) : Prop := match t with
  | 0 => match st with
    | .int x :: .int i :: .ref n :: r => qkd h n = 16 ∧ vp_in i (qln h n) ∧ k (pc + 1) c ls r (si h n i.toNatClampNeg x)
    | _ => False
  | 1 => match st with
    | .int x :: .int i :: .ref n :: r => qkd h n = 17 ∧ vp_in i (qln h n) ∧ k (pc + 1) c ls r (si h n i.toNatClampNeg x.toInt8.toInt32)
    | _ => False
  | 6 => match st with
    | .int x :: .int i :: .ref n :: r => qkd h n = 22 ∧ vp_in i (qln h n) ∧ isB x ∧ k (pc + 1) c ls r (si h n i.toNatClampNeg x)
    | _ => False
  | 7 => match st with
    | .ref b :: .int i :: .ref n :: r => qkd h n = 23 ∧ (qkd h b = 1 ∨ qkd h b = 16) ∧ vp_in i (qln h n) ∧ k (pc + 1) c ls r (sr h n i.toNatClampNeg (some b))
    | _ => False
  | _ => False
def qaln (k : KT) (pc c : Nat) (ls : Lc) (st : List Value) (h : PH) : Prop := match st with
  | .ref n :: r => ((16 ≤ qkd h n ∧ qkd h n ≤ 24) ∨ qkd h n = 48 ∨ qkd h n = 49 ∨ qkd h n = 55) ∧ k (pc + 1) c ls (.int (nI (qln h n)) :: r) h
  | _ => False
/-- checkcast: of a member, of an array of objects -/
def qcast (k : KT) (t pc c : Nat) (ls : Lc) (st : List Value) (h : PH) : Prop := match st with
  | .ref n :: r => (match t with
    | 0 => qkd h n = 1
    | 1 => qkd h n = 23
    | _ => qkd h n = 17) ∧ k (pc + 3) c ls (.ref n :: r) h
  | _ => False
def fldQ (M : MI) (idx ci j so p nst : Nat) : Bool := match pmCl[ci]? with
  | some (_, T, N) => Nat.ble 9 ci && Nat.blt j N && Nat.beq N (fsq ci).length && (match nst with
      | 0 => atW p (.fieldLink M.y.cls idx (T j).1 (T j).2.1 (T j).2.2.1)
      | 1 => decide (M.y.cls = RJx35411) && Nat.beq idx 28 && Nat.beq ci 13 && Nat.beq j 2
      | _ => Nat.beq ci 13 && Nat.beq j 0 && atW p (.fieldLink M.y.cls idx RJx4a65c "modCount" "I")) && (match so, (fsq ci).getD j 9 with
    | 0, 0 => decide ((T j).2.2.1 = "I")
    | 1, 0 => decide ((T j).2.2.1 = "Z")
    | 4, 0 => decide ((T j).2.2.1 = "B")
    | 3, 2 => (match parseFieldDescriptor (T j).2.2.1 with
      | some (.object _) => true
      | some (.array _) => true
      | _ => false)
    | _, _ => false)
  | none => false
theorem mod_same : Cond.sameField RJx4a65c "java/util/AbstractList" "modCount" "I" ∈ tbG := tbG_at (p := 752) (by decide +kernel)
theorem pd_B : parseFieldDescriptor "B" = some .byte := by decide +kernel
theorem fldQ_of {M : MI} {idx ci j so q nst : Nat} (h : fldQ M idx ci j so q nst = true) : ∃ (C : String) (T : u_T) (N : Nat), pmCl[ci]? = some (C, T, N) ∧ 9 ≤ ci ∧ j < N ∧ N = (fsq ci).length ∧
    ((∃ ref, Cond.fieldLink M.y.cls idx ref (T j).2.1 (T j).2.2.1 ∈ tbG ∧ (ref = (T j).1 ∨ (ref = RJx4a65c ∧ (T j).1 = "java/util/AbstractList" ∧ (T j).2.1 = "modCount" ∧ (T j).2.2.1 = "I"))) ∨ (M.y.cls = RJx35411 ∧ idx = 28 ∧ ci = 13 ∧ j = 2)) ∧
    ((so = 0 ∧ (fsq ci).getD j 9 = 0 ∧ (T j).2.2.1 = "I") ∨ (so = 1 ∧ (fsq ci).getD j 9 = 0 ∧ (T j).2.2.1 = "Z") ∨ (so = 4 ∧ (fsq ci).getD j 9 = 0 ∧ (T j).2.2.1 = "B") ∨ (so = 3 ∧ (fsq ci).getD j 9 = 2 ∧ ((∃ n, parseFieldDescriptor (T j).2.2.1 = some (.object n)) ∨ ∃ t, parseFieldDescriptor (T j).2.2.1 = some (.array t)))) := by
  unfold fldQ at h
  split at h
  · rename_i C T N hc
    simp only [Bool.and_eq_true] at h
    obtain ⟨⟨⟨⟨a0, a1⟩, a2⟩, a3⟩, a4⟩ := h
    refine ⟨C, T, N, hc, Nat.le_of_ble_eq_true a0, blt_of a1, Nat.eq_of_beq_eq_true a2, ?_, ?_⟩
    · split at a3
      · exact Or.inl ⟨_, tbG_at a3, Or.inl rfl⟩
      · simp only [Bool.and_eq_true, decide_eq_true_eq] at a3
        exact Or.inr ⟨a3.1.1.1, Nat.eq_of_beq_eq_true a3.1.1.2, Nat.eq_of_beq_eq_true a3.1.2, Nat.eq_of_beq_eq_true a3.2⟩
      · simp only [Bool.and_eq_true] at a3
        obtain ⟨⟨b1, b2⟩, b3⟩ := a3
        have b1 := Nat.eq_of_beq_eq_true b1
        have b2 := Nat.eq_of_beq_eq_true b2
        subst b1; subst b2
        cases hc
        exact Or.inl ⟨RJx4a65c, tbG_at b3, Or.inr ⟨rfl, rfl, rfl, rfl⟩⟩
    · split at a4
      · rename_i e1; exact Or.inl ⟨rfl, e1, of_decide_eq_true a4⟩
      · rename_i e1; exact Or.inr (Or.inl ⟨rfl, e1, of_decide_eq_true a4⟩)
      · rename_i e1; exact Or.inr (Or.inr (Or.inl ⟨rfl, e1, of_decide_eq_true a4⟩))
      · rename_i e1
        refine Or.inr (Or.inr (Or.inr ⟨rfl, e1, ?_⟩))
        split at a4
        · rename_i e9; exact Or.inl ⟨_, e9⟩
        · rename_i e9; exact Or.inr ⟨_, e9⟩
        · cases a4
      · cases a4
  · cases h
section
variable {M : MI} {Q : Res → PH → Prop} {Z : State → Prop} {p : Program} {l : Launch} {e : Env} {R : Room} {s : State} {m : MethodId} {args : Array Value} {below : List Frame} {meth : Method} {cc : Code} {ad : Nat → Nat} {cA : Nat → ClassId} {D : va_G} {A : Nat → Prop} {X : PH → va_W} {h0 : PH} {k : KT} {pc c : Nat} {ls : Lc} {st : List Value} {h : PH}
theorem ad_own (hCQ : CQ ad A s s.heap) {n : Nat} (hn : 2000 ≤ n) : ad n = dq n := hCQ.lo n hn
theorem bc_get (hC : Cb M Q Z p l e R s m args below meth cc ad cA D A X h0) (hk : ∀ pc c ls st h, k pc c ls st h → BtC M Z p l e R s m args below meth cc ad cA D A X h0 pc c ls st h) {idx ci j so q nst : Nat}
    (hd : decode M.b pc = .ok (.getfield idx, 3)) (hf : fldQ M idx ci j so q nst = true) (hs : qget k pc c ls st h ci j so) : BtC M Z p l e R s m args below meth cc ad cA D A X h0 pc c ls st h := by
  intro H locs cells slots lsA hW hl h1 h2 h3
  obtain ⟨⟨hx, hb, hml, hown, hts⟩, hK, hA, hKQ, hCQ, hX, hfl, hst, hroom, hnm, hend⟩ := hC
  obtain ⟨C, T, N, hc, hci, hjN, hN, hlink, hso⟩ := fldQ_of hf
  have hW0 := hW
  obtain ⟨L, hP, hD, hS, hKd, hMd, hLw⟩ := hW
  unfold qget at hs
  split at hs
  · rename_i n r
    obtain ⟨hkn0, hs⟩ := hs
    have hkn := kQ_old hkn0
    clear hkn0
    have row : ∀ v : Value, (v = fvq ad h n ((fsq ci).getD j 9) j) → W p l e R s m args below meth cc H locs cells slots Z (F0 m (pc + 3) lsA (v :: r.map (tr ad))) → W p l e R s m args below meth cc H locs cells slots Z (F0 m pc lsA ((Value.ref n :: r).map (tr ad))) := by
      intro v hv kk
      have h9 : (fsq ci).getD j 9 ≠ 9 := by
        rcases hso with ⟨-, q, -⟩ | ⟨-, q, -⟩ | ⟨-, q, -⟩ | ⟨-, q, -⟩ <;> rw [q] <;> decide
      rcases hkn with hkn | ⟨e11, ej, hkn⟩
      · have hci2 : ci < 15 := by
          rcases Nat.lt_or_ge ci 15 with w | w
          · exact w
          · exfalso
            rw [List.getElem?_eq_none (by show 15 ≤ ci; exact w)] at hc
            cases hc
        have g0 : ¬ qkd h n = 0 := by omega
        have g1 : qkd h n < 32 := by omega
        obtain ⟨i, hi⟩ := pq_get (X := X h) (ad := ad) (cA := cA) hKd g0 g1
        rw [celQ_ob (by omega) hkn] at hi
        have ea := ad_own hCQ (hKd.own g0 g1).1
        have hv2 : (fvqs ad h n ci)[j]? = some v := by rw [hv]; exact fvqs_get rfl h9
        show W p l e R s m args below meth cc H locs cells slots Z (F0 m pc lsA (.ref (ad n) :: r.map (tr ad)))
        rw [ea]
        rcases hlink with ⟨ref, w1, w2⟩ | ⟨w1, w2, w3, w4⟩
        · refine va_get (D := D) (ci := ci) (v := v) (C := C) (T := T) (N := N) hx hb hts (cl_ok hc).1 hown hK hP i hi hc j hjN (hts _ w1) ?_ hv2 hd kk
          rcases w2 with w2 | ⟨w2, w3, w4, w5⟩
          · rw [w2]; exact fun _ h9 => h9
          · rw [w2, w3, w4, w5]; exact u_same (hts _ mod_same)
        · subst w2; subst w3; subst w4
          cases hc
          refine va_getN (D := D) (ci := 13) (v := v) (C := RJx4a65c) (T := TJx4a65c) (N := 3) (host := RJx4a65c) (ref := RJx4a65c) hx hb hts (cl_ok (ci := 13) rfl).1 hown hK hP i hi rfl 2 (by decide) ?_ (fun _ h9 => h9) hv2 hd kk
          have := va_Nw.use (A := args) rfl (hCQ.2.1 (.fieldLinkNest RJx35411 28 RJx4a65c "size" "I" RJx4a65c) (by decide +kernel))
          rw [w1]; exact this
      · subst e11
        cases hc
        have hkq := (hKQ.of hMd hKd) n
        unfold kqF at hkq
        rw [hkn] at hkq
        obtain ⟨z1, z2, z3, z4⟩ := hkq
        have hlk : Cond.fieldLink M.y.cls idx (TJ0 j).1 (TJ0 j).2.1 (TJ0 j).2.2.1 ∈ tbG := by
          rcases hlink with ⟨ref, w1, w2⟩ | ⟨-, -, w3, -⟩
          · rcases w2 with w2 | ⟨-, w3, -⟩
            · rw [← w2]; exact w1
            · match j, ej with
              | 0, _ => exact absurd w3 (by decide)
              | 1, _ => exact absurd w3 (by decide)
          · cases w3
        match j, ej with
        | 0, _ =>
          have : v = va_rf ((gr h n 0).map ad) := hv
          rw [this] at kk
          exact vk_getf hx hb z3 hS hown (hts _ hlk) (fun _ h9 => h9) hd kk
        | 1, _ =>
          have : v = .int (gi h n 1) := hv
          rw [this] at kk
          exact vk_getf hx hb z4 hS hown (hts _ hlk) (fun _ h9 => h9) hd kk
    rcases hso with ⟨rfl, e1, -⟩ | ⟨rfl, e1, -⟩ | ⟨rfl, e1, -⟩ | ⟨rfl, e1, -⟩
    · exact row _ (by rw [e1]; rfl) (hk _ _ _ _ _ hs H locs cells slots lsA hW0 hl h1 h2 h3)
    · exact row _ (by rw [e1]; rfl) (hk _ _ _ _ _ hs H locs cells slots lsA hW0 hl h1 h2 h3)
    · exact row _ (by rw [e1]; rfl) (hk _ _ _ _ _ hs H locs cells slots lsA hW0 hl h1 h2 h3)
    · simp only at hs
      cases hg : gr h n j with
      | none => exact row .null (by rw [e1]; show _ = va_rf ((gr h n j).map ad); rw [hg]; rfl) (hk _ _ _ _ _ (hs.2 hg) H locs cells slots lsA hW0 hl h1 h2 h3)
      | some b => exact row (.ref (ad b)) (by rw [e1]; show _ = va_rf ((gr h n j).map ad); rw [hg]; rfl) (hk _ _ _ _ _ (hs.1 b hg) H locs cells slots lsA hW0 hl h1 h2 h3)
  · cases hs
/-- a cell of the law's own, written -/
theorem WL.set {h' : PH} {H1 : Heap} {locs1 : List Loc} {L : List Nat} {n i : Nat} {ee : va_E} (hX : ∀ x y, Lw x y → X y = X x) (hKd : KdOk h L) (hMd : Md h0 h) (hLw : flQ M = false → Lw h0 h) (g0 : ¬ qkd h n = 0) (g1 : qkd h n < 32) (hD0 : va_D A (X h ++ pq ad cA h L)) (hi : (X h ++ pq ad cA h L)[i]? = some (dq n, celQ ad cA h n)) (o : Oth n h h') (hkd : qkd h' n = qkd h n) (he : ee = celQ ad cA h' n)
    (hP : va_P D pmCl ((X h ++ pq ad cA h L).set i (dq n, ee)) H1) (hD : va_D A ((X h ++ pq ad cA h L).set i (dq n, ee))) (hS : va_S A s.heap H1 locs1) : WL (flQ M) ad cA D X h0 A h' s s.heap H1 locs1 := by
  have e := pq_set (h' := h') hKd g0 g1 hD0 hi o he
  have hlw := o.lw (hKd.own g0 g1).1
  rw [e, ← hX _ _ hlw] at hP hD
  exact ⟨L, hP, hD, hS, hKd.oth o hkd, hMd.trans hlw.md, fun z => (hLw z).trans hlw⟩
/-- a new one -/
theorem WL.push {h' : PH} {H1 : Heap} {locs1 : List Loc} {L : List Nat} {q : Nat} {ee : va_E} (hX : ∀ x y, Lw x y → X y = X x) (hKd : KdOk h L) (hMd : Md h0 h) (hLw : flQ M = false → Lw h0 h) (hq : q ∉ L) (o : Oth (uq q) h h') (k0 : ¬ qkd h' (uq q) = 0) (k1 : qkd h' (uq q) < 32) (he : ee = celQ ad cA h' (uq q))
    (hP : va_P D pmCl ((X h ++ pq ad cA h L) ++ [(q, ee)]) H1) (hD : va_D A ((X h ++ pq ad cA h L) ++ [(q, ee)])) (hS : va_S A s.heap H1 locs1) : WL (flQ M) ad cA D X h0 A h' s s.heap H1 locs1 := by
  have e := pq_push (X := X h) (ad := ad) (cA := cA) hq o he
  have hlw := o.lw (uq_ge q)
  rw [e, ← hX _ _ hlw] at hP hD
  refine ⟨L ++ [q], hP, hD, hS, ?_, hMd.trans hlw.md, fun z => (hLw z).trans hlw⟩
  intro m hm
  by_cases z : m = uq q
  · subst z
    exact Or.inl ⟨uq_ge _, by rw [dq_uq]; exact List.mem_append_right _ (List.mem_singleton.mpr rfl), k1⟩
  · rw [o.kd z] at hm ⊢
    rcases hKd m hm with ⟨a, b, cc⟩ | w
    · exact Or.inl ⟨a, List.mem_append_left _ b, cc⟩
    · exact Or.inr w
/-- a place that is free in the heap is free among the numbers -/
theorem kd_free {H : Heap} {L : List Nat} (hP : va_P D pmCl (X h ++ pq ad cA h L) H) (hKd : KdOk h L) {q : Nat} (hq : H.size ≤ q) : q ∉ L ∧ qkd h (uq q) = 0 := by
  have h1 : q ∉ L := va_pl_fresh hP hq
  refine ⟨h1, ?_⟩
  by_cases z : qkd h (uq q) = 0
  · exact z
  · rcases hKd _ z with ⟨-, b, -⟩ | ⟨b, -⟩
    · rw [dq_uq] at b; exact absurd b h1
    · have := uq_ge q; omega
end
