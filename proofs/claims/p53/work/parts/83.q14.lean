/-! ===== the law's step: new boolean[n][m] ===== -/
/-- what the new cells are: q the array of arrays, r i its rows -/
def mnQ (h h' : PH) (q : Nat) (r : Nat → Nat) (n m : Nat) : Prop :=
  (∀ a, a ≠ q → (∀ i, i < n → a ≠ r i) → h'.1 a = h.1 a ∧ h'.2.1 a = h.2.1 a ∧ h'.2.2.1 a = h.2.2.1 a ∧ h'.2.2.2 a = h.2.2.2 a) ∧
  qkd h' q = 24 ∧ qln h' q = n ∧ (∀ i, i < n → gr h' q i = some (r i)) ∧ (∀ i, i < n → qkd h' (r i) = 22 ∧ qln h' (r i) = m ∧ ∀ j, gi h' (r i) j = 0)
def qmna (M : MI) (k : KT) (pc c : Nat) (ls : Lc) (st : List Value) (h : PH) : Prop := match st with
  | .int m :: .int n :: rest => (¬ n < 0 ∧ ¬ m < 0 ∧ n.toNatClampNeg ≤ 12 ∧ m.toNatClampNeg ≤ 12) ∧ c + (1 + n.toNatClampNeg) ≤ M.cap ∧
    ∀ (h' : PH) (q : Nat) (r : Nat → Nat), 2000 ≤ q → qkd h q = 0 → (∀ i, i < n.toNatClampNeg → 2000 ≤ r i ∧ qkd h (r i) = 0 ∧ r i ≠ q) → (∀ i j, i < n.toNatClampNeg → j < n.toNatClampNeg → r i = r j → i = j) → mnQ h h' q r n.toNatClampNeg m.toNatClampNeg → Lw h h' →
      k (pc + 4) (c + (1 + n.toNatClampNeg)) ls (.ref q :: rest) h'
  | _ => False
/-- the heap with the new cells -/
noncomputable def mnw (h : PH) (q : Nat) (l : List Nat) (r : Nat → Nat) (n m : Nat) : PH :=
  (fun a => if a = q ∨ a ∈ l then fun _ => 0 else h.1 a, fun a => if a = q ∨ a ∈ l then fun _ => 0 else h.2.1 a,
   fun a => if a = q then (fun i => if i < n then some (r i) else none) else if a ∈ l then fun _ => none else h.2.2.1 a,
   fun a => if a = q then (fun j => if j = 0 then 24 else n) else if a ∈ l then (fun j => if j = 0 then 22 else m) else h.2.2.2 a)
theorem mnw_o {h : PH} {q : Nat} {l : List Nat} {r : Nat → Nat} {n m a : Nat} (h1 : a ≠ q) (h2 : a ∉ l) : (mnw h q l r n m).1 a = h.1 a ∧ (mnw h q l r n m).2.1 a = h.2.1 a ∧ (mnw h q l r n m).2.2.1 a = h.2.2.1 a ∧ (mnw h q l r n m).2.2.2 a = h.2.2.2 a := by
  have h3 : ¬ (a = q ∨ a ∈ l) := fun z => z.elim h1 h2
  exact ⟨if_neg h3, if_neg h3, (if_neg h1).trans (if_neg h2), (if_neg h1).trans (if_neg h2)⟩
theorem inner_z (c : ClassId) (K : Nat) : ({ cls := c, slots := Array.replicate K (defaultValue .boolean), vm := .none } : Cell) = vp_cell c (K, .inl (fun _ => 0)) := arrV_new ..
section
variable {M : MI} {Q : Res → PH → Prop} {Z : State → Prop} {p : Program} {l : Launch} {e : Env} {R : Room} {s : State} {m : MethodId} {args : Array Value} {below : List Frame} {meth : Method} {cc : Code} {ad : Nat → Nat} {cA : Nat → ClassId} {D : va_G} {A : Nat → Prop} {X : PH → va_W} {h0 : PH} {k : KT} {pc c : Nat} {ls : Lc} {st : List Value} {h : PH}
set_option maxHeartbeats 1000000 in
theorem bc_mna (hC : Cb M Q Z p l e R s m args below meth cc ad cA D A X h0) (hk : ∀ pc c ls st h, k pc c ls st h → BtC M Z p l e R s m args below meth cc ad cA D A X h0 pc c ls st h) {idx : Nat} (w1 : Cond.classLink M.y.cls idx "[[Z" ∈ tbG) (w2 : Cond.arrayClass .boolean ∈ tbG)
    (hd : decode M.b pc = .ok (.multianewarray idx 2, 4)) (hs : qmna M k pc c ls st h) : BtC M Z p l e R s m args below meth cc ad cA D A X h0 pc c ls st h := by
  intro H locs cells slots lsA hW hl h1 h2 h3
  obtain ⟨⟨hx, hb, hml, hown, hts⟩, hK, hA, hKQ, hCQ, hX, hfl, hst, hroom, hnm0, hend⟩ := hC
  obtain ⟨L, hP, hD, hS, hKd, hMd, hLw⟩ := hW
  unfold qmna at hs
  split at hs
  · rename_i kk n rest
    obtain ⟨⟨g1, g2, g3, g4⟩, hcap, hs⟩ := hs
    have hmul : n.toNatClampNeg * kk.toNatClampNeg ≤ n.toNatClampNeg * 12 := Nat.mul_le_mul_left _ g4
    refine va_mna (X := X h) (L := L) (f := fun a => celQ ad cA h (uq a)) (ty := .boolean) (cy := cA 6) (own := M.y.cls) (index := idx) (z := (kk.toNatClampNeg, .inl (fun _ => 0))) hx hb hown (hts _ w1) hCQ.2.2.2.2.2.2.2.2.1 (hts _ w2) (cA_name hK (t := 6) rfl (by intro C; exact nofun)) hK hP hD hS hA g1 g2 rfl rfl
      (by omega) (by show kk.toNatClampNeg * 1 ≤ 536870912; omega) (by omega) rfl rfl (by omega) (by omega) (fun c9 => inner_z c9 _) hd ?_
    intro q r cA1 H1 hinj hnl hK2 hP2 hD2 hS2
    have eA : cA1 = cA 8 := by
      have f1 := cA_name hK (t := 8) (ty := .array .boolean) rfl (by intro C; exact nofun)
      have hlen : ((pmTy cA) ++ [(cA1, FieldType.array .boolean)])[(pmTy cA).length]? = some (cA1, .array .boolean) := by rw [List.getElem?_append_right (Nat.le_refl _), Nat.sub_self]; rfl
      have f2 := (hK2.2 _ _ hlen).2
      unfold va_RA at f2
      exact Option.some.inj (f2.symm.trans f1)
    subst eA
    generalize hrows : (List.range n.toNatClampNeg).map r = rows at hP2 hD2
    have hq1 : ((X h ++ [(q, (Sum.inl (cA 8, n.toNatClampNeg, .inr (.inr (.inr (.inr (fun i => if i < n.toNatClampNeg then some (r i) else none))))) : va_E))]) ++ va_pl (L ++ rows) (vr_up (fun a => celQ ad cA h (uq a)) rows (.inl (cA 6, (kk.toNatClampNeg, .inl (fun _ => 0))))))[(X h).length]? = some (q, .inl (cA 8, n.toNatClampNeg, .inr (.inr (.inr (.inr (fun i => if i < n.toNatClampNeg then some (r i) else none)))))) := by
      rw [List.append_assoc, List.getElem?_append_right (Nat.le_refl _), Nat.sub_self]; rfl
    have hqn : q ∉ L ++ rows := by
      intro hm
      obtain ⟨i, hi⟩ := va_pl_get (X := X h ++ [(q, (Sum.inl (cA 8, n.toNatClampNeg, .inr (.inr (.inr (.inr (fun i => if i < n.toNatClampNeg then some (r i) else none))))) : va_E))]) (f := vr_up (fun a => celQ ad cA h (uq a)) rows (.inl (cA 6, (kk.toNatClampNeg, .inl (fun _ => 0))))) hm
      have e9 := hD2.1 _ _ _ _ hi hq1 rfl
      have : i < (X h).length + 1 := by omega
      rw [e9] at hi
      have hi2 := hq1.symm.trans hi
      -- the place of q among the later ones is behind its own
      have hpos : ∃ j : Nat, (L ++ rows)[j]? = some q := List.getElem?_of_mem hm
      obtain ⟨j, hj⟩ := hpos
      have hj2 : ((X h ++ [(q, (Sum.inl (cA 8, n.toNatClampNeg, .inr (.inr (.inr (.inr (fun i => if i < n.toNatClampNeg then some (r i) else none))))) : va_E))]) ++ va_pl (L ++ rows) (vr_up (fun a => celQ ad cA h (uq a)) rows (.inl (cA 6, (kk.toNatClampNeg, .inl (fun _ => 0))))))[(X h).length + 1 + j]? = some (q, vr_up (fun a => celQ ad cA h (uq a)) rows (.inl (cA 6, (kk.toNatClampNeg, .inl (fun _ => 0)))) q) := by
        rw [List.getElem?_append_right (by simp)]
        simp only [List.length_append, List.length_singleton]
        rw [show (X h).length + 1 + j - ((X h).length + 1) = j by omega]
        unfold va_pl
        rw [List.getElem?_map, hj]
        rfl
      have := hD2.1 _ _ _ _ hj2 hq1 rfl
      omega
    have hqL : q ∉ L := fun z => hqn (List.mem_append_left _ z)
    have hqr : q ∉ rows := fun z => hqn (List.mem_append_right _ z)
    have hfree : ∀ a, a ∉ L → qkd h (uq a) = 0 := by
      intro a ha
      by_cases z : qkd h (uq a) = 0
      · exact z
      · rcases hKd _ z with ⟨-, b, -⟩ | ⟨b, -⟩
        · rw [dq_uq] at b; exact absurd b ha
        · have := uq_ge a; omega
    have hr : ∀ i, i < n.toNatClampNeg → r i ∈ rows := fun i hi => by rw [← hrows]; exact List.mem_map.mpr ⟨i, List.mem_range.mpr hi, rfl⟩
    have hr2 : ∀ a, a ∈ rows → ∃ i, i < n.toNatClampNeg ∧ a = r i := fun a ha => by
      rw [← hrows] at ha
      obtain ⟨i, hi, e9⟩ := List.mem_map.mp ha
      exact ⟨i, List.mem_range.mp hi, e9.symm⟩
    let h' : PH := mnw h (uq q) (rows.map uq) (fun i => uq (r i)) n.toNatClampNeg kk.toNatClampNeg
    have hmr : ∀ a, uq a ∈ rows.map uq ↔ a ∈ rows := fun a => by
      constructor
      · intro z
        obtain ⟨b, hb1, hb2⟩ := List.mem_map.mp z
        rw [← uq_inj hb2]; exact hb1
      · exact fun z => List.mem_map_of_mem z
    have ho : ∀ a, a ≠ uq q → a ∉ rows.map uq → h'.1 a = h.1 a ∧ h'.2.1 a = h.2.1 a ∧ h'.2.2.1 a = h.2.2.1 a ∧ h'.2.2.2 a = h.2.2.2 a := fun a z1 z2 => mnw_o z1 z2
    have k4 : h'.2.2.2 (uq q) = fun j => if j = 0 then 24 else n.toNatClampNeg := if_pos rfl
    have k3 : h'.2.2.1 (uq q) = fun i => if i < n.toNatClampNeg then some (uq (r i)) else none := if_pos rfl
    have r4 : ∀ a, a ∈ rows → h'.2.2.2 (uq a) = fun j => if j = 0 then 22 else kk.toNatClampNeg := fun a ha => (if_neg (fun z => hqr (by rw [← uq_inj z]; exact ha))).trans (if_pos ((hmr a).mpr ha))
    have r1 : ∀ a, a ∈ rows → h'.1 (uq a) = fun _ => 0 := fun a ha => if_pos (Or.inr ((hmr a).mpr ha))
    have hlw : Lw h h' := fun a ha => ho a (by have := uq_ge q; omega) (fun z => by
      obtain ⟨b, -, hb2⟩ := List.mem_map.mp z
      have := uq_ge b
      omega)
    have kq : qkd h' (uq q) = 24 := by rw [qkd_hi (uq_hi _), k4]; rfl
    have kr : ∀ a, a ∈ rows → qkd h' (uq a) = 22 := fun a ha => by rw [qkd_hi (uq_hi _), r4 a ha]; rfl
    have lr : ∀ a, a ∈ rows → qln h' (uq a) = kk.toNatClampNeg := fun a ha => by unfold qln; rw [r4 a ha]; rfl
    have eq : ad (uq q) = q := (ad_own hCQ (uq_ge _)).trans (dq_uq _)
    have er : ∀ i, ad (uq (r i)) = r i := fun i => (ad_own hCQ (uq_ge _)).trans (dq_uq _)
    have cq : celQ ad cA h' (uq q) = .inl (cA 8, n.toNatClampNeg, .inr (.inr (.inr (.inr (fun i => if i < n.toNatClampNeg then some (r i) else none))))) := by
      rw [celQ_ar (t := 8) kq]
      unfold aeq qln
      rw [k4, k3]
      have : (fun j => (if j < n.toNatClampNeg then some (uq (r j)) else none).map ad) = fun i => if i < n.toNatClampNeg then some (r i) else none := by
        funext j
        split
        · show some (ad (uq (r j))) = _; rw [er]
        · rfl
      simp only [this]
      rfl
    have cr : ∀ a, a ∈ rows → celQ ad cA h' (uq a) = .inl (cA 6, (kk.toNatClampNeg, .inl (fun _ => 0))) := fun a ha => by
      rw [celQ_ar (t := 6) (kr a ha), lr a ha]
      unfold aeq
      rw [r1 a ha]
      rfl
    have hlist : (X h ++ [(q, (Sum.inl (cA 8, n.toNatClampNeg, .inr (.inr (.inr (.inr (fun i => if i < n.toNatClampNeg then some (r i) else none))))) : va_E))]) ++ va_pl (L ++ rows) (vr_up (fun a => celQ ad cA h (uq a)) rows (.inl (cA 6, (kk.toNatClampNeg, .inl (fun _ => 0))))) = X h' ++ pq ad cA h' (q :: (L ++ rows)) := by
      rw [hX _ _ hlw, List.append_assoc]
      refine congrArg (fun w => X h ++ w) ?_
      have e1 : va_pl (L ++ rows) (vr_up (fun a => celQ ad cA h (uq a)) rows (.inl (cA 6, (kk.toNatClampNeg, .inl (fun _ => 0))))) = pq ad cA h' (L ++ rows) := by
        refine pq_congr ?_
        intro a ha
        by_cases z : a ∈ rows
        · rw [vr_up_in z, cr a z]
        · rw [vr_up_ne z]
          exact (celQ_eq (ho (uq a) (fun w => hqn (by rw [← uq_inj w]; exact ha)) (fun w => z ((hmr a).mp w)))).symm
      rw [e1, ← cq]
      rfl
    rw [hlist] at hP2 hD2
    have hKd2 : KdOk h' (q :: (L ++ rows)) := by
      intro a ha
      by_cases z1 : a = uq q
      · subst z1
        exact Or.inl ⟨uq_ge _, by rw [dq_uq]; exact List.mem_cons_self, by rw [kq]; decide⟩
      · by_cases z2 : a ∈ rows.map uq
        · obtain ⟨b, hb1, hb2⟩ := List.mem_map.mp z2
          subst hb2
          exact Or.inl ⟨uq_ge _, by rw [dq_uq]; exact List.mem_cons_of_mem _ (List.mem_append_right _ hb1), by rw [kr b hb1]; decide⟩
        · have e9 : qkd h' a = qkd h a := by unfold qkd; rw [(ho a z1 z2).2.2.2]
          rw [e9] at ha ⊢
          rcases hKd a ha with ⟨q1, q2, q3⟩ | q1
          · exact Or.inl ⟨q1, List.mem_cons_of_mem _ (List.mem_append_left _ q2), q3⟩
          · exact Or.inr q1
    have hfin := hs h' (uq q) (fun i => uq (r i)) (uq_ge _) (hfree q hqL) (fun i hi => ⟨uq_ge _, hfree _ (hnl i hi), fun z => hqr (by rw [← uq_inj z]; exact hr i hi)⟩) (fun i j hi hj z => hinj i j hi hj (uq_inj z))
      ⟨fun a z1 z2 => ho a z1 (fun w => by
        obtain ⟨b, hb1, hb2⟩ := List.mem_map.mp w
        obtain ⟨i, hi, hbi⟩ := hr2 b hb1
        exact z2 i hi (by rw [← hb2, hbi])), kq, by unfold qln; rw [k4]; rfl, fun i hi => by unfold gr; rw [k3]; exact if_pos hi, fun i hi => ⟨kr _ (hr i hi), lr _ (hr i hi), fun j => by unfold gi; rw [r1 _ (hr i hi)]⟩⟩ hlw
    have hgo := hk _ _ _ _ _ hfin H1 locs (cells + 1 + n.toNatClampNeg) (slots + n.toNatClampNeg + n.toNatClampNeg * kk.toNatClampNeg) lsA ⟨q :: (L ++ rows), hP2, hD2, hS2, hKd2, hMd.trans hlw.md, fun z => (hLw z).trans hlw⟩ hl (by omega) (by omega) hcap
    have e9 : ((Value.ref (uq q) :: rest).map (tr ad)) = .ref q :: rest.map (tr ad) := by
      show Value.ref (ad (uq q)) :: _ = _
      rw [eq]
    rw [e9] at hgo
    exact hgo
  · cases hs
end
/-! ===== the law's step: an array of bytes, cloned ===== -/
def cln' (h : PH) (q a : Nat) : PH := (fun b => if b = q then h.1 a else h.1 b, fun b => if b = q then fun _ => 0 else h.2.1 b, fun b => if b = q then fun _ => none else h.2.2.1 b, fun b => if b = q then (fun j => if j = 0 then 17 else qln h a) else h.2.2.2 b)
theorem Oth.cln {h : PH} {q a : Nat} : Oth q h (cln' h q a) := fun _ e => ⟨if_neg e, if_neg e, if_neg e, if_neg e⟩
def qcln (M : MI) (k : KT) (pc c : Nat) (ls : Lc) (st : List Value) (h : PH) : Prop := match st with
  | .ref a :: r => cat8 r <| qkd h a = 17 ∧ (∀ i, i < qln h a → fits .byte (.int (gi h a i)) = true) ∧ c + (1 + qln h a / 12) ≤ M.cap ∧ ∀ q, 2000 ≤ q → qkd h q = 0 → k (pc + 3) (c + (1 + qln h a / 12)) ls (.ref q :: r) (cln' h q a)
  | _ => False
theorem cln_ok : Cond.sameMethod "[B" "java/lang/Object" "clone" "()Ljava/lang/Object;" ∈ tbG ∧ Cond.native ⟨"java/lang/Object", "clone", "()Ljava/lang/Object;"⟩ ∈ tbG ∧ Cond.instanceMethod ⟨"java/lang/Object", "clone", "()Ljava/lang/Object;"⟩ ∈ tbG ∧ Cond.selects "[B" ⟨"[B", "clone", "()Ljava/lang/Object;"⟩ ⟨"java/lang/Object", "clone", "()Ljava/lang/Object;"⟩ ∈ tbG := ⟨tbG_at (p := 939) (by decide +kernel), tbG_at (p := 940) (by decide +kernel), tbG_at (p := 941) (by decide +kernel), tbG_at (p := 942) (by decide +kernel)⟩
section
variable {M : MI} {Q : Res → PH → Prop} {Z : State → Prop} {p : Program} {l : Launch} {e : Env} {R : Room} {s : State} {m : MethodId} {args : Array Value} {below : List Frame} {meth : Method} {cc : Code} {ad : Nat → Nat} {cA : Nat → ClassId} {D : va_G} {A : Nat → Prop} {X : PH → va_W} {h0 : PH} {k : KT} {pc c : Nat} {ls : Lc} {st : List Value} {h : PH}
theorem bc_cln (hC : Cb M Q Z p l e R s m args below meth cc ad cA D A X h0) (hk : ∀ pc c ls st h, k pc c ls st h → BtC M Z p l e R s m args below meth cc ad cA D A X h0 pc c ls st h) {idx : Nat} (hR : 1 ≤ M.fr ∧ 60 ≤ M.lo) (w1 : Cond.methodLink M.y.cls idx ⟨"[B", "clone", "()Ljava/lang/Object;"⟩ ∈ tbG)
    (hd : decode M.b pc = .ok (.invokevirtual idx, 3)) (hs : qcln M k pc c ls st h) : BtC M Z p l e R s m args below meth cc ad cA D A X h0 pc c ls st h := by
  intro H locs cells slots lsA hW hl h1 h2 h3
  obtain ⟨⟨hx, hb, hml, hown, hts⟩, hK, hA, hKQ, hCQ, hX, hfl, hst, ⟨r1, r2, r3, r4⟩, hnm0, hend⟩ := hC
  obtain ⟨L, hP, hD, hS, hKd, hMd, hLw⟩ := hW
  unfold qcln at hs
  split at hs
  · rename_i a r
    obtain ⟨h8, hs⟩ := cat8_of hs
    obtain ⟨hka, hfit, hcap, hs⟩ := hs
    obtain ⟨g0, g1, i9, hi⟩ := arr_at (X := X) (ad := ad) (cA := cA) hKd (t := 1) hka (by decide)
    show W p l e R s m args below meth cc H locs cells slots Z (F0 m pc lsA (.ref (ad a) :: r.map (tr ad)))
    rw [ad_own hCQ (hKd.own g0 g1).1]
    refine va_clone hx hb (hml.trans hl.1.symm) hown (hts _ w1) (hts _ cln_ok.1) (hts _ cln_ok.2.1) (hts _ cln_ok.2.2.1) (hts _ cln_ok.2.2.2) (hCQ.2.1 _ (by decide +kernel)) hK hP hD hS hA i9 1 hi rfl (cA_name hK (t := 1) rfl (by intro C; exact nofun)) ?_ (by omega) (by rw [cat_tr]; omega) (by omega) (by show slots + qln h a ≤ R.slots; omega) hd ?_
    · intro i v hv
      have hlt : i < qln h a := by
        have := (Array.getElem?_eq_some_iff.mp hv).1
        have e : (vp_cell (cA 1) (qln h a, aeq ad h a 1)).slots.size = qln h a := arrV_size _ _ _
        omega
      have hv2 : (arrV (cA 1) (qln h a) (fun j => .int (h.1 a j))).slots[i]? = some v := hv
      rw [arrV_read _ _ hlt] at hv2
      cases hv2
      exact hfit i hlt
    · intro q H1 hK1 hP1 hD1 hS1
      have hqL : q ∉ L := by
        intro hm
        obtain ⟨j, hj⟩ := va_pl_get (X := X h) (f := fun a => celQ ad cA h (uq a)) hm
        have e1 : ((X h ++ pq ad cA h L) ++ [(q, (Sum.inl (cA 1, qln h a, aeq ad h a 1) : va_E))])[j]? = _ := (List.getElem?_append_left (List.getElem?_eq_some_iff.mp hj).1).trans hj
        have e2 : ((X h ++ pq ad cA h L) ++ [(q, (Sum.inl (cA 1, qln h a, aeq ad h a 1) : va_E))])[(X h ++ pq ad cA h L).length]? = some (q, .inl (cA 1, qln h a, aeq ad h a 1)) := by
          rw [List.getElem?_append_right (Nat.le_refl _), Nat.sub_self]; rfl
        have := hD1.1 _ _ _ _ e1 e2 rfl
        have := (List.getElem?_eq_some_iff.mp hj).1
        have hlen : (X h ++ pq ad cA h L).length = (X h ++ va_pl L (fun a => celQ ad cA h (uq a))).length := rfl
        omega
      have hq0 : qkd h (uq q) = 0 := by
        by_cases z : qkd h (uq q) = 0
        · exact z
        · rcases hKd _ z with ⟨-, b, -⟩ | ⟨b, -⟩
          · rw [dq_uq] at b; exact absurd b hqL
          · have := uq_ge q; omega
      have hkd : qkd (cln' h (uq q) a) (uq q) = 17 := by
        rw [qkd_hi (uq_hi _)]
        show (if uq q = uq q then (fun j => if j = 0 then 17 else qln h a) else h.2.2.2 (uq q)) 0 = 17
        rw [if_pos rfl]; rfl
      have hc : celQ ad cA (cln' h (uq q) a) (uq q) = .inl (cA 1, qln h a, aeq ad h a 1) := by
        rw [celQ_ar (t := 1) hkd]
        have e1 : qln (cln' h (uq q) a) (uq q) = qln h a := by
          show (if uq q = uq q then (fun j => if j = 0 then 17 else qln h a) else h.2.2.2 (uq q)) 1 = _
          rw [if_pos rfl]; rfl
        have e2 : (cln' h (uq q) a).1 (uq q) = h.1 a := if_pos rfl
        rw [e1]
        show _ = Sum.inl (cA 1, qln h a, Sum.inl (h.1 a))
        rw [← e2]
        rfl
      have hWL : WL (flQ M) ad cA D X h0 A (cln' h (uq q) a) s s.heap H1 locs := WL.push hX hKd hMd hLw hqL Oth.cln (by rw [hkd]; decide) (by rw [hkd]; decide) hc.symm hP1 hD1 hS1
      have hgo := hk _ _ _ _ _ (hs (uq q) (uq_ge _) hq0) H1 locs (cells + 1) (slots + qln h a) lsA hWL hl (by omega) (by omega) hcap
      have e9 : ((Value.ref (uq q) :: r).map (tr ad)) = .ref q :: r.map (tr ad) := by
        show Value.ref (ad (uq q)) :: _ = _
        rw [ad_own hCQ (uq_ge _), dq_uq]
      rw [e9] at hgo
      exact hgo
  · cases hs
end
