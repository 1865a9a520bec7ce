/-! THE CLAIM OUT OF ONE WALK OF THE LAW'S BODY. Your part is whole_start (and what it stands on); all else here is the same for every law, but numbers. -/
def R_law : String := "WaveUpgradeLaw"
def lw_P (b : Addr) (xs : List Int32) (args : Array Value) (s : State) : Prop := args = #[.ref b] ∧ s.IntsAt b xs ∧ xs.length ≤ 3072 ∧ (Jvm.Cond.and given_1 narrow_1).before args s = true
/-- what a walk over the start with the record d0 says of its end, said of the start itself -/
theorem lw_closed {s t : State} {o : Outcome} {d0 : Drawn} {L : List Loc} {k n : Nat} (hd0 : s.drawn.sameBut d0 lw_cs) (hv : ∃ v, o = .returned v) (hW : (s.setDrawn d0).WarmedH t.vm) (hs : (s.setDrawn d0).sameButNew ({ t with vm := s.vm } : State) L k n) : State.butDraws s t lw_cs (fun t1 => Framed s o t1 L k n) := by
  have h2 : t.drawn = d0 := congrArg State.drawn hs.1
  refine ⟨⟨hv, hW, State.sameButNew.setDrawn hs s.drawn⟩, ?_, by decide⟩
  rw [h2]
  exact hd0
def lw_Q (_ : Array Value) (s : State) (o : Outcome) (t : State) : Prop := o = .returned (some (.int 1)) ∧ State.butDraws s t lw_cs (fun t1 => Framed s o t1 [] 601024 7293034)
def lw_Z (below : List Frame) (a : Array Value) (s : State) : State → Prop := fun t => ∃ o, t.status = .running ∧ Ended t below o ∧ lw_Q a s o t
/-- the law's own end, with 1 on the stack, nothing written that was there before, its room as the claim has it; d0: the record of draws at this point (at the entry s.drawn: begin with 'refine W.base ?_' and 'have hd0 := Drawn.sameBut.refl s.drawn lw_cs') -/
theorem lw_ret {p : Program} {l : Launch} {e : Env} {s : State} {m : MethodId} {below : List Frame} {meth : Method} {c : Code} {b : Nat} {d0 : Drawn} (hd0 : s.drawn.sameBut d0 lw_cs) (hx : p.tables.exec = Jvm.exec) (hb : c.code = code) (hr : meth.sig.returnType = ret) (hlocks : meth.locks = false) {pc : Nat} {H : Heap} {ls : Array Slot} (hdg : decode code pc = .ok (.ireturn, 1)) : W p l e room_1 (s.setDrawn d0) m #[Value.ref b] below meth c H [] 601024 7293034 (lw_Z below #[Value.ref b] s) (F0 m pc ls [.int 1]) := by
  intro T hT X
  obtain ⟨fs, hret, hrun, hended, hW, hframe⟩ := X.leave (v := some (.int 1)) (hlocks := hlocks) (fun h => by rw [hr] at h; cases h)
  have hmeth' : T.vm.method? m = some meth := X.method'
  refine ⟨T.setFrames fs, ?_, .returned (some (.int 1)), hrun, hended, rfl, lw_closed hd0 ⟨_, rfl⟩ hW hframe⟩
  jvm_step X.here [X.here.top, hx, hb, hdg, hmeth', hr, ret, narrow_b1]
  (try refine ⟨rfl, ?_⟩); (try refine ⟨rfl, ?_⟩)
  first | (intro acts; rw [hret _ acts rfl rfl rfl]) | rw [hret _ _ rfl rfl rfl]
  exact Steps.refl _
/-- what holds at the law's entry: the machine, the code, the tables' words (any of lw_tbl by 'hts w (by decide +kernel)'), the script of L ints xs at the cell b, what the Statement gives of the start (any of its parts by flat_of_before) -/
def lw_At (p : Program) (s : State) (m : MethodId) (meth : Method) (c : Code) (b L : Nat) (xs : Nat → Int32) : Prop :=
  p.tables.exec = Jvm.exec ∧ c.code = code ∧ meth.sig.returnType = ret ∧ c.maxLocals = 10 ∧ s.vm.findClass R_law = some m.cls ∧ (∀ w ∈ lw_tbl, w.before #[Value.ref b] s = true) ∧ va_X b L xs s s.heap ∧ b < s.heap.size ∧ meth.locks = false ∧ (Jvm.Cond.and given_1 narrow_1).before #[Value.ref b] s = true
/-! ===== from the law's entry to its end ===== -/
theorem lw_extab {p : Program} {l : Launch} {y : MethodName} {S : Spec} {cc cc2 : ByteArray} {maxL maxL2 : Nat} {ret1 ret2 : Option FieldType} {e : Env} {s : State} {m : MethodId} {args : Array Value} {below : List Frame} {meth : Method} {c : Code} {s₁ : State}
    (B : BodyLoose p l y S cc maxL ret1 e s m args below meth c s₁) (h : (Cond.code y cc2 maxL2 ret2).before args s = true) : c.exceptionTable.toList = [] := by
  obtain ⟨meth', c', h1, h2, -, -, -, -, h7, -⟩ := Cond.code_spec B.named h
  have hX := Stand.of_body B
  have e1 : meth = meth' := Option.some.inj (hX.method.symm.trans h1)
  subst e1
  have e2 : c = c' := Option.some.inj (hX.code.symm.trans h2)
  subst e2
  simpa using h7
section
variable {args : Array Value} {s : State}
theorem D_start (hts : ∀ w ∈ lw_tbl, w.before args s = true) : ∃ D : va_G, ∀ (c : Nat) (q : vw_C), pmCl[c]? = some q → u_Kn s q.1 q.2.1 q.2.2 (D.1 c) (D.2 c) := by
  have one : ∀ (C : String) (T : u_T) (N : Nat), (∀ w ∈ u_ws C T N, w ∈ tbG) → Cond.instantiable C N ∈ lw_tbl → ∃ q : ClassId × (Nat → Nat), u_Kn s C T N q.1 q.2 := fun C T N h1 h2 => by
    obtain ⟨cC, iS, h⟩ := u_known (ws := tbG) (fun w hw => hts w (List.mem_filter.mp hw).1) h1 (hts _ h2)
    exact ⟨(cC, iS), h⟩
  have all : ∀ c : Nat, ∃ q : ClassId × (Nat → Nat), ∀ r : vw_C, pmCl[c]? = some r → u_Kn s r.1 r.2.1 r.2.2 q.1 q.2 := by
    intro c
    match c with
    | 0 => obtain ⟨q, h⟩ := one RX1 TX1 4 uin_1 (by decide +kernel); exact ⟨q, fun r hr => by cases hr; exact h⟩
    | 1 => obtain ⟨q, h⟩ := one RX3 TX3 3 uin_3 (by decide +kernel); exact ⟨q, fun r hr => by cases hr; exact h⟩
    | 2 => obtain ⟨q, h⟩ := one RX4 TX4 3 uin_4 (by decide +kernel); exact ⟨q, fun r hr => by cases hr; exact h⟩
    | 3 => obtain ⟨q, h⟩ := one RX5 TX5 18 uin_5 (by decide +kernel); exact ⟨q, fun r hr => by cases hr; exact h⟩
    | 4 => obtain ⟨q, h⟩ := one RX6 TX6 2 uin_6 (by decide +kernel); exact ⟨q, fun r hr => by cases hr; exact h⟩
    | 5 => obtain ⟨q, h⟩ := one RX7 TX7 10 uin_7 (by decide +kernel); exact ⟨q, fun r hr => by cases hr; exact h⟩
    | 6 => obtain ⟨q, h⟩ := one RX8 TX8 16 uin_8 (by decide +kernel); exact ⟨q, fun r hr => by cases hr; exact h⟩
    | 7 => obtain ⟨q, h⟩ := one RX10 TX10 9 uin_10 (by decide +kernel); exact ⟨q, fun r hr => by cases hr; exact h⟩
    | 8 => obtain ⟨q, h⟩ := one RX11 TX11 11 uin_11 (by decide +kernel); exact ⟨q, fun r hr => by cases hr; exact h⟩
    | 9 => obtain ⟨q, h⟩ := one RX12 TX12 40 uin_12 (by decide +kernel); exact ⟨q, fun r hr => by cases hr; exact h⟩
    | k + 10 =>
      obtain ⟨q, h⟩ := one RX12 TX12 40 uin_12 (by decide +kernel)
      exact ⟨q, fun r hr => by cases hr⟩
  obtain ⟨F, hF⟩ := Classical.axiomOfChoice all
  exact ⟨(fun c => (F c).1, fun c => (F c).2), fun c q h => hF c q h⟩
theorem cA_start (hts : ∀ w ∈ lw_tbl, w.before args s = true) : ∃ cA : Nat → ClassId, ∀ (k : Nat) (q : ClassId × FieldType), (pmTy cA)[k]? = some q → ArrOfT s q.1 q.2 ∧ va_RA s q.1 q.2 := by
  have pr : ∀ ty : FieldType, (∀ C, ty ≠ .object C) → Cond.arrayClass ty ∈ lw_tbl → ∃ c : ClassId, ArrOfT s c ty ∧ va_RA s c ty := fun ty hC hw => by
    obtain ⟨c, k, comp, h1, h2, h3⟩ := Cond.arrayClass_spec (hts _ hw)
    refine ⟨c, fun n z => ⟨fun k h => (by cases h), k, h2, comp, h3⟩, ?_⟩
    cases ty with
    | object C => exact absurd rfl (hC C)
    | _ => exact h1
  have rf : ∀ C : String, Cond.arrayOver (.object C) ∈ lw_tbl → ∃ c : ClassId, ArrOfT s c (.object C) ∧ va_RA s c (.object C) := fun C hw => by
    obtain ⟨comp, c, k, h1, -, h3, h4, h5⟩ := Cond.arrayOver_spec (hts _ hw)
    exact ⟨c, fun n z => ⟨fun k h => (by cases h), k, h3, comp, h4⟩, k, comp, h3, h4, h1, h5⟩
  have all : ∀ t : Nat, ∃ c : ClassId, t < 6 → ArrOfT s c (tyN t) ∧ va_RA s c (tyN t) := by
    intro t
    match t with
    | 0 => obtain ⟨c, h⟩ := pr .int (fun C h => by cases h) (by decide +kernel); exact ⟨c, fun _ => h⟩
    | 1 => obtain ⟨c, h⟩ := pr .byte (fun C h => by cases h) (by decide +kernel); exact ⟨c, fun _ => h⟩
    | 2 => obtain ⟨c, h⟩ := pr .long (fun C h => by cases h) (by decide +kernel); exact ⟨c, fun _ => h⟩
    | 3 => obtain ⟨c, h⟩ := pr .double (fun C h => by cases h) (by decide +kernel); exact ⟨c, fun _ => h⟩
    | 4 => obtain ⟨c, h⟩ := rf RX8 (by decide +kernel); exact ⟨c, fun _ => h⟩
    | 5 => obtain ⟨c, h⟩ := rf "WaveUpgrade$Command" (by decide +kernel); exact ⟨c, fun _ => h⟩
    | t + 6 =>
      obtain ⟨c, h⟩ := pr .int (fun C h => by cases h) (by decide +kernel)
      exact ⟨c, fun h => by omega⟩
  obtain ⟨cA, hcA⟩ := Classical.axiomOfChoice all
  refine ⟨cA, fun k q hq => ?_⟩
  match k, hq with
  | 0, hq => cases hq; exact hcA 0 (by omega)
  | 1, hq => cases hq; exact hcA 1 (by omega)
  | 2, hq => cases hq; exact hcA 2 (by omega)
  | 3, hq => cases hq; exact hcA 3 (by omega)
  | 4, hq => cases hq; exact hcA 4 (by omega)
  | 5, hq => cases hq; exact hcA 5 (by omega)
  | k + 6, hq => cases hq
theorem XW_tbl : XW.all (fun w => decide (w ∈ lw_tbl)) = true := by decide +kernel
theorem BN_tbl : BN.all (fun w => decide (w ∈ lw_tbl)) = true := by decide +kernel
theorem xw_start (hts : ∀ w ∈ lw_tbl, w.before args s = true) (hn : ∀ w ∈ nAt, w.before args s = true) {ad : Nat → Nat} (had : ∀ a, 1000 ≤ a → ad a = adC args s a) : xwOk ad s := by
  refine ⟨fun w hw => va_Nw.of (List.all_eq_true.mp XW_on w hw) (hts w (of_decide_eq_true (List.all_eq_true.mp XW_tbl w hw))), ?_⟩
  have h1 : (Cond.stringRef RX1 165 "held").before args s = true := hts _ (by decide +kernel)
  have h2 : (tmC 1084).eval args s none [] s = some (.ref (ad 1084)) := by
    rw [had 1084 (by omega)]
    exact ev_ob hn (obs_of (ci := 22) (Or.inr (Or.inr ⟨rfl, Or.inr (Or.inr rfl)⟩)))
  exact vk_R.of h1 h2
theorem bv_start (hts : ∀ w ∈ lw_tbl, w.before args s = true) : bVm s := by
  refine ⟨va_AO.of (A := args) (hts _ (by decide +kernel)), va_AO.of (A := args) (hts _ (by decide +kernel)), fun w hw => va_Nw.of (A := args) ?_ (hts w (of_decide_eq_true (List.all_eq_true.mp BN_tbl w hw)))⟩
  simp only [BN, List.mem_cons, List.not_mem_nil, or_false] at hw
  rcases hw with rfl | rfl | rfl <;> rfl
end
set_option maxHeartbeats 1000000 in
theorem whole_start {p : Program} {e : Env} {s : State} {m : MethodId} {below : List Frame} {meth : Method} {c : Code} (l : Launch) (hflags : l.flags = flags0) {b L : Nat} {xs : Nat → Int32} (hL : L ≤ 3072) (C0 : lw_At p s m meth c b L xs) (hex : c.exceptionTable.toList = []) : W p l e room_1 s m #[Value.ref b] below meth c s.heap [] 0 0 (lw_Z below #[Value.ref b] s) (entryFrame m ([Value.ref b] : List Value).toArray 10) := by
  obtain ⟨hx, hb, hret, hml, hown, hts, hX, hbl, hlocks, hgv⟩ := C0
  have hd0 := Drawn.sameBut.refl s.drawn lw_cs
  have hn : ∀ w ∈ nAt, w.before #[Value.ref b] s = true := flat_of_before _ hgv
  have hA : ∀ a : Nat, a < s.heap.size → ¬ AB s.heap.size a := fun a h1 h2 => absurd h1 (Nat.not_lt.mpr h2)
  obtain ⟨D, hD⟩ := D_start hts
  obtain ⟨cA, hcA⟩ := cA_start hts
  have hK : va_K D pmCl (pmTy cA) s := ⟨hD, hcA⟩
  obtain ⟨ad, ha1, ha2, ha3⟩ : ∃ ad : Nat → Nat, (∀ a, a < 149 → ad a = s.heap.size + bP a) ∧ ad 999 = b ∧ ∀ a, 1000 ≤ a → ad a = adC #[Value.ref b] s a :=
    ⟨fun a => if a < 149 then s.heap.size + bP a else if a = 999 then b else adC #[Value.ref b] s a, fun a h => if_pos h, rfl, fun a h => (if_neg (by omega)).trans (if_neg (by omega))⟩
  obtain ⟨adM, hm1, hm2⟩ : ∃ adM : Nat → Nat, adB adM s.heap.size ∧ adM 999 = b := ⟨fun i => if i < NK then s.heap.size + i else b, fun i h => if_pos h, rfl⟩
  have had : ∀ a, a < 149 → ad a = adM (bP a) := fun a h => by rw [ha1 a h, hm1 _ (bP_lt h).1]
  have hst : l.stackTraces = false := by
    unfold Launch.stackTraces
    rw [hflags]
    decide +kernel
  have htG : ∀ w ∈ tbG, w.before #[Value.ref b] s = true := fun w hw => hts w (List.mem_filter.mp hw).1
  have hCx : Cx m_L_law QL (lw_Z below #[Value.ref b] s) p l e room_1 s m #[Value.ref b] below meth c ad cA D (AB s.heap.size) xs L := by
    refine ⟨⟨hx, hb, hml, hown, htG⟩, hK, fun q h => h, CF_start hts hn hA ha3, xw_start hts hn ha3, fun _ => ⟨by rw [ha2]; exact hX, by rw [ha2]; exact hbl, by rw [ha2]; exact hA b hbl⟩, hst, ⟨Nat.le_of_ble_eq_true rfl, Nat.le_of_ble_eq_true rfl, Nat.le_of_ble_eq_true rfl, Nat.le_of_ble_eq_true rfl⟩, hex, ?_, ?_, ?_⟩
    · intro v h H locs cells slots pc i ls hd hr hq hW hc hs
      have hv : v = some (.int (nI 1)) := Sum.inl.inj hq
      subst hv
      cases i <;> simp only [rtOk] at hr
      case ireturn =>
        have hc : cells ≤ 100000 := hc
        have hs : slots ≤ 600000 := hs
        refine va_forget (fun q h9 => hW.2.2.1.2.2 q h9) ?_
        exact W.widen (by omega) (by omega) (lw_ret hd0 hx hb hret hlocks hd)
      case return_ => cases hr.1
      case lreturn => obtain ⟨x, h9, -⟩ := hr; cases h9
      case freturn => obtain ⟨x, h9, -⟩ := hr; cases h9
      case dreturn => obtain ⟨x, h9, -⟩ := hr; cases h9
      case areturn => rcases hr.2 with h9 | ⟨a, h9⟩ <;> cases h9
    · intro x h H locs cells slots pc ik ic ls rest hth hq
      cases hq
    · intro x h H locs cells slots pc ls rest q ce hq
      cases hq
  have hBC : BCx (bT 13).1 p room_1 s m #[Value.ref b] meth c adM cA D (AB s.heap.size) s.heap.size :=
    ⟨⟨hx, hb, hml, hown, htG⟩, hK, fun q h => h, Nat.le_refl _, bv_start hts, ⟨Nat.le_of_ble_eq_true rfl, Nat.le_of_ble_eq_true rfl, Nat.le_of_ble_eq_true rfl, Nat.le_of_ble_eq_true rfl⟩, fun h => absurd h (by decide), hm1⟩
  have start := bex_ok bT_ok (l := l) 3000 (some 28) 13 0 0 (entL 10 [.ref 999]) [] [] 1418 bL1 bW1 (by omega) b_run (Z := lw_Z below #[Value.ref b] s) (e := e) (below := below) hBC (by
    intro pc' H locs cells slots lsA hp hW hl h1 h2 h3
    have hpc : pc' = 28 := by
      rcases hp with hp | hp
      · exact (Option.some.inj hp).symm
      · cases hp.1
    subst hpc
    have key := L_all (z := zS xs L) (n := L) rfl hL (h := h0P (zS xs L)) (c := 1418) (by omega) Inv_0 (o6 := none) (o7 := none) (o8 := none)
    refine key _ p l e room_1 s m _ below meth c ad cA D (AB s.heap.size) xs L hCx H locs cells slots lsA ⟨wd_h0 had hW.1, wd_D0 had hm1 (fun q h => h), hW.2.1, fun j => rfl, rfl⟩ ?_ h1 h2 (Nat.le_of_ble_eq_true rfl)
    have e1 : tl ad (LLs (nI 0) none none none) = [(0, .ref (ad 999)), (1, .ref (ad 0)), (2, .ref (ad 130)), (3, .ref (ad 147)), (4, .ref (ad 148)), (5, .int (nI 0))] := rfl
    have e2 : tl adM bL1 = [(0, .ref (adM 999)), (1, .ref (adM 0)), (2, .ref (adM 130)), (3, .ref (adM 147)), (4, .ref (adM 148)), (5, .int (nI 0))] := rfl
    have e3 : bP 0 = 0 ∧ bP 130 = 130 ∧ bP 147 = 147 ∧ bP 148 = 148 := by decide +kernel
    rw [e2, hm2] at hl
    rw [e1, ha2, had 0 (by omega), had 130 (by omega), had 147 (by omega), had 148 (by omega), e3.1, e3.2.1, e3.2.2.1, e3.2.2.2]
    exact hl)
  rw [lg_entry_eq]
  refine start s.heap [] 0 0 _ ⟨fun k q h => ?_, va_S.rf, rfl, Nat.zero_le _⟩ (lv_mono (lv_entry [Value.ref b] (n := 10) (Nat.le_of_ble_eq_true rfl)) ?_) (Nat.le_refl _) (Nat.zero_le _) (Nat.zero_le _)
  · simp [bwd] at h
  · have e4 : tl adM (entL 10 [.ref 999]) = [(0, .ref (adM 999))] := rfl
    rw [e4, hm2]
    exact fun q h => h
