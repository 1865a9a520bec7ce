/-! THE CLAIM OUT OF ONE WALK OF THE LAW'S BODY. Your part is whole_start (and what it stands on); all else here is the same for every law, but numbers. -/
def R_law : String := "WaveUpgradeLaw"
def lw_P (b : Addr) (xs : List Int32) (args : Array Value) (s : State) : Prop := args = #[.ref b] ∧ s.IntsAt b xs ∧ xs.length ≤ 260 ∧ (Jvm.Cond.and given_1 narrow_1).before args s = true
def lw_Q (_ : Array Value) (s : State) (o : Outcome) (t : State) : Prop := o = .returned (some (.int 1)) ∧ Framed s o t [] 600086 7301442
def lw_Z (below : List Frame) (a : Array Value) (s : State) : State → Prop := fun t => ∃ o, t.status = .running ∧ Ended t below o ∧ lw_Q a s o t
/-- the law's own end, with 1 on the stack, nothing written that was there before, its room as the claim has it -/
theorem lw_ret {p : Program} {l : Launch} {e : Env} {s : State} {m : MethodId} {below : List Frame} {meth : Method} {c : Code} {b : Nat} (hx : p.tables.exec = Jvm.exec) (hb : c.code = code) (hr : meth.sig.returnType = ret) (hlocks : meth.locks = false) {pc : Nat} {H : Heap} {ls : Array Slot} (hdg : decode code pc = .ok (.ireturn, 1)) : W p l e room_1 s m #[Value.ref b] below meth c H [] 600086 7301442 (lw_Z below #[Value.ref b] s) (F0 m pc ls [.int 1]) := by
  intro T hT X
  obtain ⟨fs, hret, hrun, hended, hW, hframe⟩ := X.leave (v := some (.int 1)) (hlocks := hlocks) (fun h => by rw [hr] at h; cases h)
  have hmeth' : T.vm.method? m = some meth := X.method'
  refine ⟨T.setFrames fs, ?_, .returned (some (.int 1)), hrun, hended, rfl, ⟨_, rfl⟩, hW, hframe⟩
  jvm_step X.here [X.here.top, hx, hb, hdg, hmeth', hr, ret, narrow_b1]
  (try refine ⟨rfl, ?_⟩); (try refine ⟨rfl, ?_⟩)
  first | (intro acts; rw [hret _ acts rfl rfl rfl]) | rw [hret _ _ rfl rfl rfl]
  exact Steps.refl _
/-- what holds at the law's entry: the machine, the code, the tables' words (any of lw_tbl by 'hts w (by decide +kernel)'), the script of L ints xs at the cell b, what the Statement gives of the start (any of its parts by flat_of_before) -/
def lw_At (p : Program) (s : State) (m : MethodId) (meth : Method) (c : Code) (b L : Nat) (xs : Nat → Int32) : Prop :=
  p.tables.exec = Jvm.exec ∧ c.code = code ∧ meth.sig.returnType = ret ∧ c.maxLocals = 4 ∧ s.vm.findClass R_law = some m.cls ∧ (∀ w ∈ lw_tbl, w.before #[Value.ref b] s = true) ∧ va_X b L xs s s.heap ∧ b < s.heap.size ∧ meth.locks = false ∧ (Jvm.Cond.and given_1 narrow_1).before #[Value.ref b] s = true
/-! ===== from the law's entry to its end ===== -/
/-- the law answers true -/
def QT : Res → PH → Prop := fun r _ => r = .inl (some (.int (nI 1)))
theorem e11_0 : gi (h0P (zS (fun _ => 0) 0)) 1 1 = nI 0 := (congrFun (h0i_lt (by decide)) 1).trans (by decide +kernel : asI (h0L 1) 1 = nI 0)
set_option maxHeartbeats 4000000 in
theorem whole_start {p : Program} {e : Env} {s : State} {m : MethodId} {below : List Frame} {meth : Method} {c : Code} (l : Launch) (hflags : l.flags = flags0) {b L : Nat} {xs : Nat → Int32} (hL : L ≤ 260) (C0 : lw_At p s m meth c b L xs) (hnm : meth.name = "law") : W p l e room_1 s m #[Value.ref b] below meth c s.heap [] 0 0 (lw_Z below #[Value.ref b] s) (entryFrame m ([Value.ref b] : List Value).toArray 4) := by
  obtain ⟨hx, hb, hret, hml, hown, hts, hX, hbl, hlocks, hgv⟩ := C0
  have hn : ∀ w ∈ nAt, w.before #[Value.ref b] s = true := flat_of_before _ hgv
  have hA : ∀ a : Nat, a < s.heap.size → ¬ AB s.heap.size a := fun a h1 h2 => absurd h1 (Nat.not_lt.mpr h2)
  obtain ⟨D, hD⟩ := D_start hts
  obtain ⟨cA, hcA⟩ := cA_start hts
  have hK : va_K D pmCl (pmTy cA) s := ⟨hD, hcA⟩
  have hst : l.stackTraces = false := by
    unfold Launch.stackTraces
    rw [hflags]
    decide +kernel
  have htG : ∀ w ∈ tbG, w.before #[Value.ref b] s = true := fun w hw => hts w (List.mem_filter.mp hw).1
  obtain ⟨ad, ha1, ha2, ha3⟩ : ∃ ad : Nat → Nat, (∀ a, 1000 ≤ a → a < 1500 → ad a = adC #[Value.ref b] s a) ∧ ad 1500 = b ∧ ∀ a, 2000 ≤ a → ad a = dq a :=
    ⟨fun a => if a < 1500 then adC #[Value.ref b] s a else if a < 2000 then b else dq a, fun a _ h => if_pos h, rfl, fun a h => (if_neg (by omega)).trans (if_neg (by omega))⟩
  have fix : CallFix p m c code 4 s #[Value.ref b] tbG RL := ⟨hx, hb, hml, hown, htG⟩
  have hKQ : KQ ad (AB s.heap.size) s s.heap (hS xs L) := KQ_start hn hA ha1 (by rw [ha2]; exact hX) (by rw [ha2]; exact hbl)
  have hC1 : Cb mq_L_head (fun _ _ => False) (lw_Z below #[Value.ref b] s) p l e room_1 s m #[Value.ref b] below meth c ad cA D (AB s.heap.size) (fun _ => []) (hS xs L) :=
    ⟨fix, hK, fun q h => h, hKQ, CQ_start hts hn hA ha1 ha3 hK, fun _ _ _ => rfl, fun h => absurd h (by decide), hst, ⟨Nat.le_of_ble_eq_true rfl, Nat.le_of_ble_eq_true rfl, Nat.le_of_ble_eq_true rfl, Nat.le_of_ble_eq_true rfl⟩, hnm, fun _ _ _ _ _ _ _ _ _ _ _ hq => hq.elim⟩
  have step := vqk_ok kq_L_head hC1 (k0 := k5) (fun pc c1 ls st h hk5 => by
    obtain ⟨rfl, rfl, rfl, w, s', rfl, w2, G, v0, m6, f5⟩ := hk5
    intro H locs cells slots lsA hW hl h1 h2 h3
    obtain ⟨L1, hP, hDj, hS5, hKd, hMd, -⟩ := hW
    obtain ⟨hin2, ⟨ty0, hty⟩, -⟩ := cl_ok (show pmCl[8]? = some (RX11, TX11, 11) from rfl)
    have hKn := hK.1 8 (RX11, TX11, 11) rfl
    obtain ⟨adM, hM0⟩ : ∃ adM : Nat → Nat, adM = fun i => H.size + i := ⟨_, rfl⟩
    have hB : adB adM H.size := fun i _ => by rw [hM0]
    have ea : adM 0 = H.size := by rw [hM0]; rfl
    have hAO := bv_start hts
    refine W.newcK (n := 11) (C := RX11) hx hb hown (htG _ (tbG_at (p := 38) (by decide +kernel))) (htG _ (tbG_at (p := 39) (by decide +kernel))) (htG _ (tbG_at (p := 20) (by decide +kernel))) rfl (show decode code 5 = .ok (.new 26, 3) by decide +kernel) (show cells + 1 ≤ 600086 by omega) (show slots + 11 ≤ 7301442 by omega) hKn.2.1 rfl fun H1 kC hkC e1 z1 o1 => ?_
    have hdf := List.all_eq_true.mp dfl_ok 8 (List.mem_range.mpr (by decide))
    rw [show pmCl[8]? = some (RX11, TX11, 11) from rfl] at hdf
    simp only [Bool.and_eq_true] at hdf
    have e2 : va_at D pmCl (H.size, bcE adM cA (.inl (8, dfl 8))) H1 := by
      refine ⟨_, (rfl : pmCl[8]? = some (RX11, TX11, 11)), ?_⟩
      show t_OB H.size (D.1 8) 11 (D.2 8) H1 (vp_V ((dfl 8).map (tr adM)))
      rw [dfl_tr]
      refine (u_born ty0 htG hin2 hKn hkC e1 hty).to (fun j hj => ?_)
      have h9 := List.all_eq_true.mp hdf.2 j (List.mem_range.mpr hj)
      rw [hty j hj] at h9
      exact Option.some.inj (of_decide_eq_true h9)
    have hPw : va_P D pmCl (bwd adM cA [.inl (8, dfl 8)]) H1 := fun k q hq => by
      rw [bwd_at] at hq
      match k, hq with
      | 0, hq =>
        cases hq
        rw [ea]
        exact e2
      | k + 1, hq => cases hq
    rw [← ea]
    refine lv_dup hx hb (show decode code 8 = .ok (.dup, 1) by decide +kernel) rfl ?_
    have hMet := b_met (l := l) (ad := adM) (cA := cA) (D := D) (B := H.size) (w := [.inl (8, dfl 8)]) (w' := bW1) (as := [.ref 0]) (c2 := 711) bo_X11_init (by decide) hB (by decide) (fun {Z p e R s m args below meth cc} hC1 hend1 => bex_ok bTc_ok (l := l) 3000 none 10 0 0 (entL 1 [.ref 0]) [] [.inl (8, dfl 8)] 711 bL1 bW1 (by decide) b_run (Z := Z) (p := p) (e := e) (R := R) (s := s) (m := m) (args := args) (below := below) (meth := meth) (cc := cc) hC1 (fun pc' H locs cells slots lsA hp hW hl g1 g2 g3 => hend1 pc' H locs cells slots lsA (by
      rcases hp with hp | hp
      · cases hp
      · exact hp.2) hW g1 g2 g3))
    have hpre : PreS s H1 (va_Pc ([Value.ref 0].map (tr adM)) (PB adM cA D H.size [.inl (8, dfl 8)])) ([Value.ref 0].map (tr adM)) := by
      refine ⟨fun a U g mk hq => ?_, fun U hU hWU => ⟨rfl, ?_⟩⟩
      · obtain ⟨q0, q1, q2, q3, q4⟩ := hq
        exact ⟨q0, q1, q2, va_K.moved (u := U) (U := U.calling g mk a) (Vm.Alike.refl U.vm) q3, q4.same (s := U) (U := U.calling g mk a) rfl⟩
      · exact ⟨by rw [hU, z1]; rfl, by rw [hU]; exact hPw, va_K.moved hWU.alike hK, hAO.warm hWU⟩
    have hRun : va_Run p l e room_1 s m #[Value.ref b] below meth c H1 locs (cells + 1) (slots + 11) 711 (6 * 711) (F0 m 9 lsA [.ref (adM 0), .ref (adM 0)]) [.ref (adM 0)] (va_Qv (fun _ : Unit => True) (fun _ t => RB adM cA D H.size bW1 t) (AB H.size) ([Value.ref (adM 0)] : List Value).toArray) (AB H.size) :=
      va_runI (As := []) (rest := [.ref (adM 0)]) (b := adM 0) (n := 0) (index := 196) ⟨hx, hb, hml, hown, htG⟩ hMet ⟨callB_of 0 htG (bm_good bo_X11_init.1) (by unfold wsM; rw [bm_head rfl rfl]) rfl rfl (htG _ bo_X11_init.2.1) (htG _ (tbG_at (p := 40) (by decide +kernel))) ⟨by decide +kernel, by decide +kernel, by decide +kernel⟩ ⟨Nat.le_of_ble_eq_true rfl, Nat.le_of_ble_eq_true rfl⟩, rfl, htG _ bo_X11_init.2.2.2.2.2.1⟩ hpre rfl rfl hl.1 rfl (lv_room (Nat.le_of_ble_eq_true rfl)) (show decode code 9 = .ok (.invokespecial 196, 3) by decide +kernel) ⟨show cells + 1 + 711 ≤ 600086 by omega, show slots + 11 + 6 * 711 ≤ 7301442 by omega⟩
    have hS6 : va_S (AB s.heap.size) s.heap H1 locs := ⟨by rw [z1]; exact Nat.le_succ_of_le hS5.1, fun q g1 g2 => (o1 q (Nat.lt_of_lt_of_le g1 hS5.1)).trans (hS5.2.1 q g1 g2), hS5.2.2⟩
    refine va_callv hRun hS6 (fun q _ g => Nat.le_trans hS5.1 g) (fun q g => Nat.le_trans hS5.1 g) (fun u t H2 locs2 ht hvm hp hQ hz hkeep hS2 => ?_)
    obtain ⟨y1, y2, y3⟩ := hQ
    rw [ht] at y1 y2
    have keepB : ∀ q, q < H.size → H2[q]? = H[q]? := fun q hq => (hkeep q (by rw [z1]; omega) (fun g => absurd hq (Nat.not_lt.mpr g))).trans (o1 q hq)
    obtain ⟨ad', hd1, hd2⟩ : ∃ ad' : Nat → Nat, (∀ a, a < 130 → ad' a = adM (bP a)) ∧ ∀ a, 1000 ≤ a → ad' a = ad a := ⟨fun a => if a < 130 then adM (bP a) else ad a, fun a g => if_pos g, fun a g => if_neg (by omega)⟩
    have hd3 : ∀ a, 2000 ≤ a → ad' a = dq a := fun a g => (hd2 a (by omega)).trans (ha3 a g)
    have hd4 : ∀ a, 1000 ≤ a → a < 1500 → ad' a = adC #[Value.ref b] s a := fun a g1 g2 => (hd2 a g1).trans (ha1 a g1 g2)
    have hwd : ∀ x y : PH, Lw x y → wd ad' cA y = wd ad' cA x := fun x y g => wd_eq fun a ha => by
      have ha : a < 130 := ha
      exact g a (by omega)
    have elo : ∀ a, a < 1000 → (rmh ad (h0P (zS (fun _ => 0) 0)) h).1 a = (h0P (zS (fun _ => 0) 0)).1 a ∧ (rmh ad (h0P (zS (fun _ => 0) 0)) h).2.1 a = (h0P (zS (fun _ => 0) 0)).2.1 a ∧ (rmh ad (h0P (zS (fun _ => 0) 0)) h).2.2.1 a = (h0P (zS (fun _ => 0) 0)).2.2.1 a ∧ (rmh ad (h0P (zS (fun _ => 0) 0)) h).2.2.2 a = (h0P (zS (fun _ => 0) 0)).2.2.2 a := fun a ha => ⟨if_pos ha, if_pos ha, if_pos ha, if_pos ha⟩
    have ewd : wd ad' cA (rmh ad (h0P (zS (fun _ => 0) 0)) h) = wd ad' cA (h0P (zS (fun _ => 0) 0)) := wd_eq fun a ha => by
      have ha : a < 130 := ha
      exact elo a (by omega)
    have epq : pq ad' cA (rmh ad (h0P (zS (fun _ => 0) 0)) h) L1 = pq ad cA h L1 := pq_rm hd2 hd3
    have hI : Inv (zS (fun _ => 0) 0) 0 0 (rmh ad (h0P (zS (fun _ => 0) 0)) h) := (Inv_0 (xs := fun _ => 0) (L := 0)).lo fun a ha => ⟨(elo a ha).1, (elo a ha).2.1, (elo a ha).2.2.1⟩
    have e132 : (rmh ad (h0P (zS (fun _ => 0) 0)) h).1 132 = s0R := (elo 132 (by decide)).1.trans (h0i_lt (by decide))
    have e137 : (fun i => gl (rmh ad (h0P (zS (fun _ => 0) 0)) h) 137 i) = fun _ => 0 := funext fun i => congrFun (elo 137 (by decide)).2.1 i
    have e11 : gi (rmh ad (h0P (zS (fun _ => 0) 0)) h) 1 1 = nI 0 := (congrFun (elo 1 (by decide)).1 1).trans e11_0
    have G2 : GrF (clrS ((rmh ad (h0P (zS (fun _ => 0) 0)) h).1 132)) (fun i => gl (rmh ad (h0P (zS (fun _ => 0) 0)) h) 137 i) w (rmh ad (h0P (zS (fun _ => 0) 0)) h) s' := by
      rw [e132, e137]; exact G.rm
    have hMd2 : Md (hS xs L) (rmh ad (h0P (zS (fun _ => 0) 0)) h) := md_rm hMd
    have hKd2 : KdOk (rmh ad (h0P (zS (fun _ => 0) 0)) h) L1 := hKd.rm
    have kb : qkd (rmh ad (h0P (zS (fun _ => 0) 0)) h) 1500 = 48 := (hMd2.kd (by decide)).trans rfl
    have lb : qln (rmh ad (h0P (zS (fun _ => 0) 0)) h) 1500 ≤ 260 := by rw [hMd2.ln (by decide) (by decide)]; exact hL
    generalize rmh ad (h0P (zS (fun _ => 0) 0)) h = hh at ewd epq hI G2 hMd2 hKd2 kb lb e11 e132 e137 elo
    have hPall : va_P D pmCl (wd ad' cA hh ++ pq ad' cA hh L1) H2 := by
      rw [ewd, epq]
      exact (wd_h0 hd1 y2).app (hP.kept (fun k q hk => keepB q.1 (hP k q hk).lt))
    have hDall : va_D (AB s.heap.size) (wd ad' cA hh ++ pq ad' cA hh L1) := by
      rw [epq]
      refine (wd_D0 hd1 hB (fun q g => Nat.le_trans hS5.1 g)).app hDj (fun i j x y g1 g2 g3 => ?_)
      have u1 : H.size ≤ x.1 := (wd_D0 (A := AB H.size) (cA := cA) (h := hh) hd1 hB (fun q g => g)).2 i x g1
      have u2 : y.1 < H.size := (hP j y g2).lt
      omega
    have hC2 : Cb mq_L_law QT (lw_Z below #[Value.ref b] s) p l e room_1 s m #[Value.ref b] below meth c ad' cA D (AB s.heap.size) (wd ad' cA) hh := by
      refine ⟨fix, hK, fun q h => h, (KQ_start hn hA hd4 (by rw [hd2 1500 (by decide), ha2]; exact hX) (by rw [hd2 1500 (by decide), ha2]; exact hbl)).of hMd2 hKd2, CQ_start hts hn hA hd4 hd3 hK, hwd, fun _ => ⟨rfl, CF_start hts hn hA hd4, xw_start hts hn hd4⟩, hst, ⟨Nat.le_of_ble_eq_true rfl, Nat.le_of_ble_eq_true rfl, Nat.le_of_ble_eq_true rfl, Nat.le_of_ble_eq_true rfl⟩, hnm, ?_⟩
      intro v h9 H9 locs9 cells9 slots9 pc9 i9 ls9 hd9 hr9 hq9 hW9 hc9 hs9
      have hv : v = some (.int (nI 1)) := Sum.inl.inj hq9
      subst hv
      obtain ⟨L9, -, -, hS9, -⟩ := hW9
      have hc9 : cells9 ≤ 600000 := hc9
      have hs9 : slots9 ≤ 12 * 600000 := hs9
      cases i9 <;> simp only [rtOk] at hr9
      case ireturn =>
        refine va_forget (fun q h9 => hS9.2.2 q h9) ?_
        exact W.widen (by omega) (by omega) (lw_ret hx hb hret hlocks hd9)
      case return_ => cases hr9.1
      case lreturn => obtain ⟨x, h9, -⟩ := hr9; cases h9
      case freturn => obtain ⟨x, h9, -⟩ := hr9; cases h9
      case dreturn => obtain ⟨x, h9, -⟩ := hr9; cases h9
      case areturn => rcases hr9.2 with h9 | ⟨a, h9⟩ <;> cases h9
    refine lv_astore_n hx hb (show decode code 12 = .ok (.astore_n 2, 1) by decide +kernel) rfl hl (by decide) rfl (fun ls' hl' => ?_)
    have fin := l_13 (z := zS (fun _ => 0) 0) (h := hh) (w := w) (s := s') (b := 1500) (c := 41000) (Q := QT) hI e11 G2 v0 m6 f5 (by decide) (by decide) kb lb (by decide) (fun _ => rfl) _ p l e room_1 s m _ below meth c ad' cA D (AB s.heap.size) (wd ad' cA) hh hC2 H2 locs2 (cells + 1 + 711) (slots + 11 + 6 * 711) ls' ⟨L1, hPall, hDall, hS2, hKd2, Md.refl _, fun g => absurd g (by decide)⟩
    refine fin (lv_mono hl' ?_) (by omega) (by omega) (Nat.le_of_ble_eq_true rfl)
    have t0 : ad' 0 = adM 0 := hd1 0 (by decide)
    have t1 : ad' 1500 = ad 1500 := hd2 1500 (by decide)
    have t2 : ad' w = ad w := hd2 w (Nat.le_trans (by decide) w2)
    have e5 : tl ad' [some (.ref 1500), some (.ref w), some (.ref 0), none] = [(0, .ref (ad' 1500)), (1, .ref (ad' w)), (2, .ref (ad' 0))] := rfl
    have e6 : tl ad [some (.ref 1500), some (.ref w), none, none] = [(0, .ref (ad 1500)), (1, .ref (ad w))] := rfl
    rw [e5, t0, t1, t2, e6]
    intro q hq
    simp only [List.mem_cons, List.not_mem_nil, or_false] at hq
    rcases hq with rfl | rfl | rfl
    · simp
    · simp [Value.category]
    · simp) 3 0 0 [some (.ref 1500), none, none, none] [] (hS xs L) (head_run Kc_start rfl hL) s.heap [] 0 0
  rw [lg_entry_eq]
  refine step _ ⟨[], fun k q h => by simp [pq, va_pl] at h, ⟨fun i j x y h => by simp [pq, va_pl] at h, fun k q h => by simp [pq, va_pl] at h⟩, va_S.rf, KdOk_start, Md.refl _, fun _ => Lw.refl _⟩ (lv_mono (lv_entry [Value.ref b] (n := 4) (Nat.le_of_ble_eq_true rfl)) ?_) (Nat.le_refl _) (Nat.zero_le _) (Nat.zero_le _)
  have e4 : tl ad [some (.ref 1500), none, none, none] = [(0, .ref (ad 1500))] := rfl
  rw [e4, ha2]
  exact fun q h => h
