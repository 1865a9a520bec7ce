/-! ===== calls ===== -/
section
variable {p : Program} {l : Launch} {e : Env} {R : Room} {s : State} {m : MethodId} {args : Array Value} {below : List Frame} {meth : Method} {c : Code} {T : State} {H : Heap} {locs : List Loc} {cells slots : Nat}
theorem pm_callSN (X : Stand p l e R s m args below meth c T locs cells slots) (hexec : p.tables.exec = Jvm.exec) {own host : String} {index : Nat} {y : MethodName} {bytes : ByteArray} {maxL : Nat} {ret : Option FieldType}
    (hown : s.vm.findClass own = some m.cls) (hlink : (Cond.methodLinkNest own index y host).before args s = true) (hstat : (Cond.static y).before args s = true) (hinit : (Cond.initialized y.cls).before args s = true)
    (hcode : (Cond.code y bytes maxL ret).before args s = true) (hy : y.cls ≠ "java/lang/invoke/MethodHandle" ∧ y.cls ≠ "java/lang/invoke/VarHandle")
    {W9 : Nat} {Pre : Pt → Array Value → Prop} {Post : Pt → Array Value → Option Value → Pt → Prop} {PostX : Pt → Array Value → Addr → Pt → Prop} (hK : vx_Back l R p e below s args y 3 W9 Pre Post PostX)
    {g : JFrame} (hg : g.method = m) (hsize : g.locals.size = c.maxLocals) {argsL rest : List Value} (hlen : ∀ sig, parseMethodDescriptor y.desc = some sig → argsL.length = sig.parameters.length)
    (hstack : g.stack = argsL.reverse ++ rest) (hW : 2 * g.monitorRoom + (rest.map fun v => v.category).sum ≤ W9) (hdg : decode c.code g.pc = .ok (.invokestatic index, 3))
    (hpre : ∀ vm₁, s.WarmedH vm₁ → Pre ⟨T.setVm vm₁, locs, cells, slots⟩ argsL.toArray) :
    (∃ (v : Option Value) (vm₁ : Vm) (B : Pt), s.WarmedH vm₁ ∧ Stand p l e R s m args below meth c B.U B.locs B.cells B.slots ∧ Post ⟨T.setVm vm₁, locs, cells, slots⟩ argsL.toArray v B ∧
      ∀ target, Steps p.tables e below (B.U.setTop { g with pc := g.pc + 3, stack := v.toList ++ rest }) target → Steps p.tables e below (T.setTop g) target) ∨
    (∃ (q : Addr) (vm₁ : Vm) (B : Pt), s.WarmedH vm₁ ∧ Stand p l e R s m args below meth c B.U B.locs B.cells B.slots ∧ PostX ⟨T.setVm vm₁, locs, cells, slots⟩ argsL.toArray q B ∧
      Steps p.tables e below (T.setTop g) ((B.U.setTop { g with stack := rest }).pushFrame (.throwing q))) := by
  obtain ⟨mk, hnamed⟩ := Cond.code_named hcode
  obtain ⟨methM, cM, hmethM, -, -, -, -, -, -, hsigM⟩ := Cond.code_spec hnamed hcode
  have hstatic : methM.isStatic = true := Cond.static_spec hnamed hmethM hstat
  obtain ⟨kP, hkP, -⟩ := className_of_methodNamed hnamed
  have hinitP : kP.init = .initialized := Cond.initialized_spec (findClass_of_methodNamed hnamed) hkP hinit
  obtain ⟨vm₁, X₁, hstep₁⟩ := X.invokestaticNest hexec hown hlink hnamed hmethM hstatic hkP hinitP hy (g := g) hg (argsL := argsL) (rest := rest) (hlen _ hsigM) hstack hdg
  rcases hK m meth c ⟨T.setVm vm₁, locs, cells, slots⟩ { g with stack := rest } (.invokestatic index) mk argsL.toArray X₁ hg hsize hdg hW (X₁.named hnamed) (hpre vm₁ X₁.warmed) with ⟨v, B, X', hpost, hsteps⟩ | ⟨q, B, X', hpost, hsteps⟩
  · exact Or.inl ⟨v, vm₁, B, X₁.warmed, X', hpost, fun target h => hstep₁ _ fun acts => by rw [doInvoke_state]; exact hsteps.trans h⟩
  · exact Or.inr ⟨q, vm₁, B, X₁.warmed, X', hpost, hstep₁ _ fun acts => by rw [doInvoke_state]; exact hsteps⟩
theorem pm_runSN {y : MethodName} {bytes cc : ByteArray} {maxL nL mc ms n index : Nat} {ret : Option FieldType} {ws : List Cond} {rm : Room} {Pc : Array Value → State → Prop} {Qc : Array Value → State → Outcome → State → Prop} {XC : String → State → State → Prop} {free : Addr → Prop} {Ts : List Cond} {own host : String} {As rest : List Value} {g : JFrame}
    (S : CallFix p m c cc nL s args Ts own) (hM : vx_Met l y ws rm Pc Qc XC mc ms free) (cw : va_CN R s args own index y host bytes maxL ret ws rm mc ms n ∧ (Cond.static y).before args s = true) (hp : PreS s H Pc As)
    (hg : g.method = m) (hn : As.length = n) (hsize : g.locals.size = nL) (hstack : g.stack = As.reverse ++ rest) (hW : 2 * g.monitorRoom + (rest.map fun v => v.category).sum ≤ 8) (hdg : decode cc g.pc = .ok (.invokestatic index, 3)) (hf : cells + mc ≤ R.cells ∧ slots + ms ≤ R.slots) :
    vx_Run p l e R s m args below meth c H locs cells slots mc ms g rest (Qc As.toArray) XC free := by
  obtain ⟨⟨⟨hrc, hrs, hfr, hlo, hws, hcw⟩, hcode, hini, hy, hlen, hl⟩, hx1⟩ := cw
  have hK : vx_Back l R p e below s args y 3 8 (PreOf R mc ms Pc) (PostOf Qc mc ms free) (vx_Post XC mc ms free) := vx_back (bytes := bytes) (maxL := maxL) (ret := ret) hM hp.1 hrc hrs hfr hlo hws hcw (fun a' U hW => word_at hW (Or.inl (by first | rfl | simp [Cond.onTables, Cond.keeps, Cond.steady])) hini)
  obtain ⟨hx, hb, hml, ho, -⟩ := S
  intro T hT X
  rcases pm_callSN X hx (bytes := bytes) (maxL := maxL) (ret := ret) ho hl hx1 hini hcode hy hK hg (hsize.trans hml.symm) (argsL := As) (rest := rest) (fun sig h => hn.trans (hlen sig h)) hstack hW (by rw [hb]; exact hdg)
    (fun vm₁ hW₁ => ⟨hf.1, hf.2, hp.2 (T.setVm vm₁) hT hW₁⟩) with ⟨v, vm₁, ⟨U', l2, c2, s2⟩, hW₁, X', ⟨g', mk, t, L, e1, e2, hq, h1, hL, h2, h3⟩, st⟩ | ⟨q, vm₁, ⟨U', l2, c2, s2⟩, hW₁, X', ⟨g', mk, t, L, E, ce, e1, e2, hq, hce, hcv, hcl, h1, hL, h2, h3⟩, st⟩
  · dsimp only [Pt.U, Pt.locs, Pt.cells, Pt.slots] at X' e1 e2 h1 h2 h3 st
    subst h1; subst h2; subst h3
    exact Or.inl ⟨v, (T.setVm vm₁).calling g' mk As.toArray, t, U', L, hT, X', hL, e1, e2, hq, st⟩
  · dsimp only [Pt.U, Pt.locs, Pt.cells, Pt.slots] at X' e1 e2 h1 h2 h3 st hcl
    subst h1; subst h2; subst h3
    exact Or.inr ⟨q, (T.setVm vm₁).calling g' mk As.toArray, t, U', L, E, ce, hT, X', hL, e1, e2, hq, hce, hcv, vx_cls hW₁ hcl, st⟩
end
theorem tbG_good : GoodIn tbG tbG := fun w hw => ⟨hw, good_of_word (List.mem_filter.mp hw).2⟩
theorem wsM_good {M : MI} (h : MOK M) : GoodIn tbG (wsM M) := by
  intro w hw
  rcases List.mem_cons.mp hw with rfl | hw
  · exact tbG_good _ h.1
  · exact tbG_good _ hw
theorem wd_ad {ad : Nat → Nat} {cA : Nat → ClassId} {h h' : PH} {A : Nat → Prop} (hD : va_D A (wd ad cA h)) {B : Nat → Prop} (hB : ∀ a, a < NK → B (ad a)) : va_D B (wd ad cA h') := by
  have key : ∀ (h : PH) (i : Nat) (q : Nat × va_E), (wd ad cA h)[i]? = some q → i < NK ∧ q.1 = ad i := by
    intro h i q hq
    have hi : i < NK := by
      have := (List.getElem?_eq_some_iff.mp hq).1
      simpa [wd] using this
    rw [wd_get hi] at hq
    cases hq
    exact ⟨hi, rfl⟩
  refine ⟨fun i j x y hi hj hxy => ?_, fun k q hk => ?_⟩
  · obtain ⟨a1, a2⟩ := key _ i x hi
    obtain ⟨b1, b2⟩ := key _ j y hj
    exact hD.1 i j _ _ (wd_get a1) (wd_get b1) (by show ad i = ad j; rw [← a2, ← b2, hxy])
  · obtain ⟨a1, a2⟩ := key _ k q hk
    rw [a2]
    exact hB k a1
theorem wd_A {ad : Nat → Nat} {cA : Nat → ClassId} {h : PH} {A : Nat → Prop} (hD : va_D A (wd ad cA h)) {a : Nat} (ha : a < NK) : A (ad a) := hD.2 a _ (wd_get ha)
theorem adA_sub {ad : Nat → Nat} {cA : Nat → ClassId} {h : PH} {A : Nat → Prop} {H0 H : Heap} {locs : List Loc} (hD : va_D A (wd ad cA h)) (hA : ∀ q, H0.size ≤ q → A q) (hS : va_S A H0 H locs) : ∀ q, adA ad H.size q → A q := by
  intro q hq
  rcases hq with ⟨a, ha, rfl⟩ | hq
  · exact wd_A hD ha
  · exact hA q (Nat.le_trans hS.1 hq)
section
variable {M : MI} {Q : Res → PH → Prop} {Z : State → Prop} {p : Program} {l : Launch} {e : Env} {R : Room} {s : State} {m : MethodId} {args : Array Value} {below : List Frame} {meth : Method} {cc : Code} {ad : Nat → Nat} {cA : Nat → ClassId} {D : va_G} {A : Nat → Prop} {xs : PH} {L : Nat} {k : KT} {pc c : Nat} {ls : Lc} {st : List Value} {h : PH} {H : Heap} {locs : List Loc} {cells slots : Nat}
/-- the caller's world is a callee's start -/
theorem pc_start (hK : va_K D pmCl (pmTy cA) s) (hA : ∀ q, s.heap.size ≤ q → A q) (hC : CF ad A s s.heap) (hx : xwOk ad s) (hW : WH ad cA D xs L A h s s.heap H locs) {As : List Value} : PreS s H (va_Pc (As.map (tr ad)) (PcM ad cA D xs L H.size h)) (As.map (tr ad)) := by
  refine ⟨fun a U g mk hq => ?_, fun U hU hWU => ⟨rfl, ?_⟩⟩
  · obtain ⟨q0, q1, q2, q3, q4, q5, q6, q7⟩ := hq
    exact ⟨q0, q1, q2, va_K.moved (u := U) (U := U.calling g mk a) (Vm.Alike.refl U.vm) q3, q4, q5, (q6.moved (u := U) (U := U.calling g mk a) (Vm.Alike.refl U.vm)), q7.same (u := U) (U := U.calling g mk a) rfl⟩
  · obtain ⟨w1, w2, w3, w4⟩ := hW
    refine ⟨by rw [hU], by rw [hU]; exact w1, va_K.moved hWU.alike hK, w2.weaken (fun _ _ _ _ => trivial), w4, ?_, hx.warm hWU⟩
    rw [hU]
    exact ((hC.kept (fun a h1 h2 => w3.2.1 a h1 h2)).moved hWU.alike).narrow (adA_sub w2 hA w3)
theorem ac_run {M' : MI} {Q' : Res → PH → Prop} {rest : List Value} {st0 : List Value} {lsA : Array Slot} {a : Array Value} (hA : ∀ q, s.heap.size ≤ q → A q) (hW : WH ad cA D xs L A h s s.heap H locs)
    (hr : vx_Run p l e R s m args below meth cc H locs cells slots M'.cap (6 * M'.cap) (F0 m pc lsA st0) rest (QcM ad cA D xs L H.size Q' a) (XcM ad cA D xs L H.size Q') (adA ad H.size))
    (kx : ∀ (x : Nat) (h' : PH) (H1 : Heap) (locs1 : List Loc) (q : Addr) (ce : Cell), Q' (.inr x) h' → WH ad cA D xs L A h' s s.heap H1 locs1 → H1[q]? = some ce → ce.vm = .none → s.vm.findClass (exN x) = some ce.cls → vx_W p l e R s m args below meth cc H1 locs1 (cells + M'.cap) (slots + 6 * M'.cap) Z (F0 m pc lsA rest) q)
    (kk : ∀ (v : Option Value) (h' : PH) (H1 : Heap) (locs1 : List Loc), Q' (.inl v) h' → WH ad cA D xs L A h' s s.heap H1 locs1 → W p l e R s m args below meth cc H1 locs1 (cells + M'.cap) (slots + 6 * M'.cap) Z (F0 m (pc + 3) lsA ((v.map (tr ad)).toList ++ rest))) :
    W p l e R s m args below meth cc H locs cells slots Z (F0 m pc lsA st0) := by
  have hsub := adA_sub hW.2.1 hA hW.2.2.1
  have hw : ∀ (h' : PH) (st₀ t T' : State) (L' : List Loc), st₀.heap = H → T'.heap = t.heap → (∀ q ∈ L', adA ad H.size q.base) → va_F (adA ad H.size) st₀ t → PoM ad cA D xs L (adA ad H.size) h' t → WH ad cA D xs L A h' s s.heap T'.heap (locs ++ L') := by
    intro h' st₀ t T' L' h0 e1 hL hF hP
    obtain ⟨-, -, k3⟩ := vx_keep h0 e1 hW.2.2.1 (fun q _ hq => hsub q hq) hsub hL hF
    exact ⟨by rw [e1]; exact hP.1, wd_ad hW.2.1 (fun a ha => wd_A hW.2.1 ha), k3, hP.2.2⟩
  intro T hT X
  rcases hr T hT X with ⟨v, st₀, t, T', L', h0, X', hL, e1, e2, ⟨⟨v', h', hv, hq, hP⟩, hF⟩, st⟩ | ⟨q, st₀, t, T', L', E, ce, h0, X', hL, e1, e2, ⟨⟨x, h', hE, hq, hP⟩, hF⟩, hce, hcv, hcl, st⟩
  · cases hv
    obtain ⟨t2, a1, b1⟩ := kk v' h' T'.heap (locs ++ L') hq (hw h' st₀ t T' L' h0 e1 hL hF hP) T' rfl X'
    exact ⟨t2, st t2 a1, b1⟩
  · subst hE
    obtain ⟨t2, a1, b1⟩ := kx x h' T'.heap (locs ++ L') q ce hq (hw h' st₀ t T' L' h0 e1 hL hF hP) (by rw [e1]; exact hce) hcv hcl T' rfl X'
    exact ⟨t2, st.trans a1, b1⟩
end
