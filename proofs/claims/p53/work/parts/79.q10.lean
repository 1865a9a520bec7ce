/-! ===== the law's calls ===== -/
/-- what a method of the law, called, leaves as it is -/
def FrM (M' : MI) (h h' : PH) : Prop := match flQ M' with
  | true => Md h h'
  | false => Lw h h'
/-- what is the same at every call: the callee's room below the caller's -/
def calQ (M M' : MI) (n : Nat) (mcv : Nat) : Bool := Nat.beq mcv M'.cap && Nat.ble (M'.fr + 1) M.fr && Nat.ble (8 + (M'.nl + 11) + M'.lo) M.lo &&
  decide (M'.y.cls ≠ "java/lang/invoke/MethodHandle" ∧ M'.y.cls ≠ "java/lang/invoke/VarHandle" ∧ (parseMethodDescriptor M'.y.desc).map (fun d => d.parameters.length) = some n)
theorem calQ_of {M M' : MI} {n mcv : Nat} (h : calQ M M' n mcv = true) : mcv = M'.cap ∧ M'.fr + 1 ≤ M.fr ∧ 8 + (M'.nl + 11) + M'.lo ≤ M.lo ∧ M'.y.cls ≠ "java/lang/invoke/MethodHandle" ∧ M'.y.cls ≠ "java/lang/invoke/VarHandle" ∧ (parseMethodDescriptor M'.y.desc).map (fun d => d.parameters.length) = some n := by
  simp only [calQ, Bool.and_eq_true, decide_eq_true_eq] at h
  obtain ⟨⟨⟨h1, h2⟩, h3⟩, h4⟩ := h
  exact ⟨Nat.eq_of_beq_eq_true h1, Nat.le_of_ble_eq_true h2, Nat.le_of_ble_eq_true h3, h4⟩
/-- a receiver's kind: 3 also a constant String -/
def rcvQ (h : PH) (b rc : Nat) : Prop := qkd h b = rc ∨ (rc = 3 ∧ qkd h b = 35)
/-- an answer that is a reference, never null -/
def rR (kk : Nat → PH → Prop) : Res → PH → Prop
  | .inl (some (.ref x)), h => kk x h
  | _, _ => False
def conq (rt : Nat) (kk : List Value → PH → Prop) : Res → PH → Prop := match rt with
  | 6 => rR (fun x h => kk [.ref x] h)
  | rt => conk rt (fun _ _ => False) kk
theorem conq_inl {rt : Nat} {kk : List Value → PH → Prop} {v : Option Value} {h : PH} (hc : conq rt kk (.inl v) h) : kk v.toList h := by
  unfold conq at hc
  split at hc
  · cases v with
    | none => exact hc.elim
    | some w => cases w <;> first | exact hc | exact hc.elim
  · exact conk_inl (kk := kk) hc
theorem conq_inr {rt : Nat} {kk : List Value → PH → Prop} (x : Nat) (h : PH) : ¬ conq rt kk (.inr x) h := by
  intro hc
  unfold conq at hc
  split at hc
  · exact hc
  · exact conk_inr hc
/-- a call: 0 a method of the receiver's own class, 1 static, 2 static of a nest mate, 3 a constructor, 4 one of a nest mate, 5 inherited, 6 by super, 7 by an interface, 9 a public method of the class -/
def qcal (mq mp : MI → List Value → PH → (Res → PH → Prop) → Prop) (M : MI) (k : KT) (pc : Nat) (M' : MI) (kind n rt rc mcv : Nat) (c : Nat) (ls : Lc) (st : List Value) (h : PH) : Prop := match kind with
  | 1 => len9 n st <| cat8 (st.drop n) <| capk c mcv M.cap (mq M' (st.take n).reverse h (conq rt (fun vs h' => FrM M' h h' → k (pc + 3) (c + mcv) ls (vs ++ st.drop n) h')))
  | 2 => len9 n st <| cat8 (st.drop n) <| capk c mcv M.cap (mq M' (st.take n).reverse h (conq rt (fun vs h' => FrM M' h h' → k (pc + 3) (c + mcv) ls (vs ++ st.drop n) h')))
  | 7 => match st.drop n with
    | .ref b :: rest => rcvQ h b rc ∧ (cat8 rest <| capk c mcv M.cap (mq M' (.ref b :: (st.take n).reverse) h (conq rt (fun vs h' => FrM M' h h' → k (pc + 5) (c + mcv) ls (vs ++ rest) h'))))
    | _ => False
  | 9 => match st.drop n with
    | .ref b :: rest => b = 0 ∧ (cat8 rest <| capk c mcv M.cap (mp M' (.ref b :: (st.take n).reverse) h (conq rt (fun vs h' => Hi h h' → k (pc + 3) (c + mcv) ls (vs ++ rest) h'))))
    | _ => False
  | 3 => match st.drop n with
    | .ref b :: rest => cat8 rest <| capk c mcv M.cap (mq M' (.ref b :: (st.take n).reverse) h (conq rt (fun vs h' => FrM M' h h' → k (pc + 3) (c + mcv) ls (vs ++ rest) h')))
    | _ => False
  | 4 => match st.drop n with
    | .ref b :: rest => cat8 rest <| capk c mcv M.cap (mq M' (.ref b :: (st.take n).reverse) h (conq rt (fun vs h' => FrM M' h h' → k (pc + 3) (c + mcv) ls (vs ++ rest) h')))
    | _ => False
  | _ => match st.drop n with
    | .ref b :: rest => rcvQ h b rc ∧ (cat8 rest <| capk c mcv M.cap (mq M' (.ref b :: (st.take n).reverse) h (conq rt (fun vs h' => FrM M' h h' → k (pc + 3) (c + mcv) ls (vs ++ rest) h'))))
    | _ => False
/-- the tables know the method: 0 of an object, 1 static, 2 a constructor, 4 of an object, in a class above, 5 static, of the law, with calls of the class -/
def MOQ (M : MI) : Prop := headM M ∈ tbG ∧ Cond.initialized M.y.cls ∈ tbG ∧ plainName M.y.cls = true ∧ M.hh = [] ∧ (match M.sk with
  | 0 => Cond.instanceMethod M.y ∈ tbG ∧ Cond.selects M.y.cls M.y M.y ∈ tbG
  | 1 => Cond.static M.y ∈ tbG
  | 2 => Cond.instanceMethod M.y ∈ tbG ∧ M.y.name = "<init>" ∧ M.ret = none
  | 4 => Cond.instanceMethod M.y ∈ tbG
  | 5 => Cond.static M.y ∈ tbG
  | _ => False)
theorem MOQ.good {M : MI} (h : MOQ M) : GoodIn tbG (wsM M) := by
  intro w hw
  rcases List.mem_cons.mp hw with rfl | hw
  · exact tbG_good _ h.1
  · exact tbG_good _ hw
theorem MOQ.head {M : MI} (h : MOQ M) : headM M = Cond.code M.y M.b M.nl M.ret := by
  unfold headM; rw [h.2.2.2.1]
/-- a run of len bytes of code, of a call -/
def RunQ (p : Program) (l : Launch) (e : Env) (R : Room) (s : State) (m : MethodId) (args : Array Value) (below : List Frame) (meth : Method) (c : Code) (H : Heap) (locs : List Loc) (cells slots mc ms len : Nat) (g : JFrame) (rest : List Value) (Qa : State → Outcome → State → Prop) (free : Addr → Prop) : Prop :=
  ∀ T : State, T.heap = H → Stand p l e R s m args below meth c T locs cells slots → ∃ (v : Option Value) (st₀ t T' : State) (L : List Loc), st₀.heap = H ∧ Stand p l e R s m args below meth c T' (locs ++ L) (cells + mc) (slots + ms) ∧ (∀ q ∈ L, free q.base) ∧ T'.heap = t.heap ∧ T'.vm = t.vm ∧ Qa st₀ (.returned v) t ∧
    Goes p e below T g T' { g with pc := g.pc + len, stack := v.toList ++ rest }
/-- the classes of receivers -/
def rcN (rc : Nat) : String := match rc with
  | 1 => RX12
  | 2 => RX13
  | 3 => "java/lang/String"
  | 4 => "java/lang/StringBuilder"
  | 5 => RJx4a65c
  | 6 => RJx35411
  | _ => ""
section
variable {M : MI} {Q : Res → PH → Prop} {Z : State → Prop} {p : Program} {l : Launch} {e : Env} {R : Room} {s : State} {m : MethodId} {args : Array Value} {below : List Frame} {meth : Method} {cc : Code} {ad : Nat → Nat} {cA : Nat → ClassId} {D : va_G} {A : Nat → Prop} {X : PH → va_W} {h0 : PH} {k : KT} {pc c : Nat} {ls : Lc} {st : List Value} {h : PH}
theorem frQ_sub {L : List Nat} {H : Heap} {locs : List Loc} (hA : ∀ q, s.heap.size ≤ q → A q) (hD : va_D A (X h ++ pq ad cA h L)) (hS : va_S A s.heap H locs) : ∀ q, frQ (X h) L H.size q → A q := by
  intro q hq
  rcases hq with ⟨i, e9, hi⟩ | hq | hq
  · exact hD.2 i (q, e9) ((List.getElem?_append_left (List.getElem?_eq_some_iff.mp hi).1).trans hi)
  · obtain ⟨i, hi⟩ := va_pl_get (X := X h) (f := fun a => celQ ad cA h (uq a)) hq
    exact hD.2 i _ hi
  · exact hA q (Nat.le_trans hS.1 hq)
/-- the caller's world is a callee's start -/
theorem pcq_start {M' : MI} (hfm : flQ M' = true → flQ M = true) (hC : Cb M Q Z p l e R s m args below meth cc ad cA D A X h0) {H : Heap} {locs : List Loc} {L : List Nat} (hP : va_P D pmCl (X h ++ pq ad cA h L) H) (hD : va_D A (X h ++ pq ad cA h L)) (hS : va_S A s.heap H locs) (hKd : KdOk h L) (hMd : Md h0 h) {As : List Value} : PreS s H (va_Pc (As.map (tr ad)) (PcQ (flQ M') ad cA D X L H.size h)) (As.map (tr ad)) := by
  obtain ⟨⟨hx, hb, hml, hown, hts⟩, hK, hA, hKQ, hCQ, hX, hfl, hst, hroom, hnm, hend⟩ := hC
  have hsub := frQ_sub hA hD hS
  refine ⟨fun a U g mk hq => ?_, fun U hU hWU => ⟨rfl, ?_⟩⟩
  · obtain ⟨q0, q1, q2, q3, q4, q5, q6, q7, q8⟩ := hq
    refine ⟨q0, q1, q2, va_K.moved (u := U) (U := U.calling g mk a) (Vm.Alike.refl U.vm) q3, q4, q5, q6.moved (u := U) (U := U.calling g mk a) (Vm.Alike.refl U.vm), q7.same (u := U) (U := U.calling g mk a) rfl, fun z => ?_⟩
    obtain ⟨r1, r2, r3⟩ := q8 z
    exact ⟨r1, r2.moved (u := U) (U := U.calling g mk a) (Vm.Alike.refl U.vm), r3.same (u := U) (U := U.calling g mk a) rfl⟩
  · have hvm := hWU.alike
    refine ⟨by rw [hU], by rw [hU]; exact hP, va_K.moved hvm hK, hD.weaken (fun _ _ _ _ => trivial), hKd, ?_, ?_, fun z => ?_⟩
    · rw [hU]
      exact (((hKQ.of hMd hKd).kept (fun a h1 h2 => hS.2.1 a h1 h2)).moved hvm).narrow hsub
    · rw [hU]
      exact ((hCQ.kept (fun a h1 h2 => hS.2.1 a h1 h2)).moved hWU).narrow hsub
    · obtain ⟨r1, r2, r3⟩ := hfl (hfm z)
      refine ⟨r1, ?_, r3.warm hWU⟩
      rw [hU]
      exact ((r2.kept (fun a h1 h2 => hS.2.1 a h1 h2)).moved hvm).narrow hsub
theorem wdX_addr {h h' : PH} {i : Nat} {q : Nat × va_E} (hq : (wd ad cA h')[i]? = some q) : ∃ e, (wd ad cA h)[i]? = some (q.1, e) := by
  have hi : i < NK := by
    have := (List.getElem?_eq_some_iff.mp hq).1
    simpa [wd] using this
  rw [wd_get hi] at hq
  cases hq
  exact ⟨_, wd_get hi⟩
/-- behind a call of the law -/
theorem bc_run {M' : MI} {Q' : Res → PH → Prop} {rest st0 : List Value} {lsA : Array Slot} {a : Array Value} {len : Nat} {H : Heap} {locs : List Loc} {cells slots : Nat} {L : List Nat} (hfm : flQ M' = true → flQ M = true) (hC : Cb M Q Z p l e R s m args below meth cc ad cA D A X h0)
    (hP : va_P D pmCl (X h ++ pq ad cA h L) H) (hD : va_D A (X h ++ pq ad cA h L)) (hS : va_S A s.heap H locs) (hKd : KdOk h L) (hMd : Md h0 h) (hLw : flQ M = false → Lw h0 h)
    (hr : RunQ p l e R s m args below meth cc H locs cells slots M'.cap (12 * M'.cap) len (F0 m pc lsA st0) rest (QcQ (flQ M') ad cA D X L H.size h Q' a) (frQ (X h) L H.size))
    (kk : ∀ (v : Option Value) (h' : PH) (H1 : Heap) (locs1 : List Loc), Q' (.inl v) h' → FrM M' h h' → WL (flQ M) ad cA D X h0 A h' s s.heap H1 locs1 → W p l e R s m args below meth cc H1 locs1 (cells + M'.cap) (slots + 12 * M'.cap) Z (F0 m (pc + len) lsA ((v.map (tr ad)).toList ++ rest))) :
    W p l e R s m args below meth cc H locs cells slots Z (F0 m pc lsA st0) := by
  obtain ⟨⟨hx, hb, hml, hown, hts⟩, hK, hA, hKQ, hCQ, hX, hfl, hst, hroom, hnm, hend⟩ := hC
  have hsub := frQ_sub hA hD hS
  intro T hT XX
  obtain ⟨v, st₀, t, T', L9, h09, X', hL, e1, e2, ⟨⟨v', h', L', hv, hq, hP1, hD1, hsubL, hKd1, hMd1, hLw1⟩, hz, hF⟩, sg⟩ := hr T hT XX
  cases hv
  rw [h09] at hz hF
  have hDA : va_D A (X h' ++ pq ad cA h' L') := by
    refine hD1.weaken ?_
    intro i q hq _
    rcases Nat.lt_or_ge i (X h').length with w | w
    · rw [List.getElem?_append_left w] at hq
      cases hf : flQ M' with
      | false =>
        rw [hX _ _ (hLw1 hf)] at hq
        exact hD.2 i q (by rw [List.getElem?_append_left (List.getElem?_eq_some_iff.mp hq).1]; exact hq)
      | true =>
        have eX := (hfl (hfm hf)).1
        rw [eX] at hq hD
        obtain ⟨e9, he9⟩ := wdX_addr (h := h) hq
        exact hD.2 i (q.1, e9) (by rw [List.getElem?_append_left (List.getElem?_eq_some_iff.mp he9).1]; exact he9)
    · rw [List.getElem?_append_right w] at hq
      have hm : q.1 ∈ L' := by
        have hm := List.mem_of_getElem? hq
        unfold pq va_pl at hm
        obtain ⟨b, hb1, hb2⟩ := List.mem_map.mp hm
        rw [← hb2]; exact hb1
      exact hsub _ (Or.inr (hsubL _ hm))
  have hS1 : va_S A s.heap T'.heap (locs ++ L9) := ⟨Nat.le_trans hS.1 (by rw [e1]; exact hz), fun q h1 h2 => by rw [e1, hF q (Nat.lt_of_lt_of_le h1 hS.1) (fun z => h2 (hsub q z))]; exact hS.2.1 q h1 h2, fun q hq => by
      rcases List.mem_append.mp hq with h9 | h9
      · exact hS.2.2 q h9
      · exact hsub _ (hL q h9)⟩
  have hFr : FrM M' h h' := by
    unfold FrM
    cases hf : flQ M' with
    | true => exact hMd1
    | false => exact hLw1 hf
  have hlw : flQ M = false → Lw h0 h' := fun z => (hLw z).trans (hLw1 (by
    cases hf : flQ M' with
    | false => rfl
    | true => rw [hfm hf] at z; cases z))
  obtain ⟨t2, a1, b1⟩ := kk v' h' T'.heap (locs ++ L9) hq hFr ⟨L', by rw [e1]; exact hP1, hDA, hS1, hKd1, hMd.trans hMd1, hlw⟩ T' rfl X'
  exact ⟨t2, sg t2 a1, b1⟩
/-- a receiver of the law's own, or a constant String -/
theorem rcv_at {L : List Nat} {H : Heap} {locs : List Loc} (hK : va_K D pmCl (pmTy cA) s) (hKQ : KQ ad A s s.heap h0) (hCQ : CQ ad A s s.heap) (hMd : Md h0 h) (hKd : KdOk h L) (hP : va_P D pmCl (X h ++ pq ad cA h L) H) (hS : va_S A s.heap H locs) {b rc : Nat} (h1 : 1 ≤ rc) (h6 : rc ≤ 6) (hb : rcvQ h b rc) : ∃ cell : Cell, H[ad b]? = some cell ∧ cell.vm.isStatics = false ∧ s.vm.findClass (rcN rc) = some cell.cls := by
  rcases hb with hb | ⟨rfl, hb⟩
  · obtain ⟨i, hi⟩ := pq_get (X := X h) (ad := ad) (cA := cA) hKd (n := b) (by omega) (by omega)
    rw [celQ_ob (ci := rc + 8) (by omega) (by omega)] at hi
    rw [ad_own hCQ (hKd.own (n := b) (by omega) (by omega)).1]
    match rc, h1, h6, hi with
    | 1, _, _, hi => exact va_recv hK hP (ci := 9) (q := (RX12, TX12, 6)) rfl hi
    | 2, _, _, hi => exact va_recv hK hP (ci := 10) (q := (RX13, TX13, 28)) rfl hi
    | 3, _, _, hi => exact va_recv hK hP (ci := 11) (q := ("java/lang/String", TJ0, 4)) rfl hi
    | 4, _, _, hi => exact va_recv hK hP (ci := 12) (q := ("java/lang/StringBuilder", TJ4, 4)) rfl hi
    | 5, _, _, hi => exact va_recv hK hP (ci := 13) (q := (RJx4a65c, TJx4a65c, 3)) rfl hi
    | 6, _, _, hi => exact va_recv hK hP (ci := 14) (q := (RJx35411, TJx35411, 4)) rfl hi
    | n + 7, _, h6, _ => exact absurd h6 (by omega)
  · have hkq := (hKQ.of hMd hKd) b
    unfold kqF at hkq
    rw [hb] at hkq
    exact va_Orecv hkq.2.1 hS
end
