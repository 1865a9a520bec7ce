/-! ===== how the world is made: the constructors and the law's first lines run as they stand, on a growing list of cells ===== -/
/-- a cell: an object (its class's number, its fields, references by number) or an array (its type's number, its length, its ints that were written, its references that were written) -/
abbrev BC : Type := (Nat × List Value) ⊕ (Nat × Nat × List (Nat × Int32) × List (Nat × Nat))
abbrev BW : Type := List BC
def asI : List (Nat × Int32) → Nat → Int32
  | [], _ => 0
  | (k, x) :: r, j => if j = k then x else asI r j
def asR : List (Nat × Nat) → Nat → Option Nat
  | [], _ => none
  | (k, x) :: r, j => if j = k then some x else asR r j
def bcC (ad : Nat → Nat) (t : Nat) (oi : List (Nat × Int32)) (orf : List (Nat × Nat)) : (Nat → Int32) ⊕ (Nat → Int64) ⊕ (Nat → UInt32) ⊕ (Nat → UInt64) ⊕ (Nat → Option Nat) := match t with
  | 0 => .inl (asI oi)
  | 1 => .inl (asI oi)
  | 2 => .inr (.inl (fun _ => 0))
  | 3 => .inr (.inr (.inr (.inl (fun _ => 0))))
  | _ => .inr (.inr (.inr (.inr (fun j => (asR orf j).map ad))))
def bcE (ad : Nat → Nat) (cA : Nat → ClassId) : BC → va_E
  | .inl (ci, fs) => .inr (ci, fs.map (tr ad))
  | .inr (t, n, oi, orf) => .inl (cA t, n, bcC ad t oi orf)
def bwd (ad : Nat → Nat) (cA : Nat → ClassId) (w : BW) : va_W := w.mapIdx (fun i c => (ad i, bcE ad cA c))
/-- the numbers are addresses one behind the other -/
def adB (ad : Nat → Nat) (B : Nat) : Prop := ∀ i, i < NK → ad i = B + i
def BH (ad : Nat → Nat) (cA : Nat → ClassId) (D : va_G) (A : Nat → Prop) (B : Nat) (H0 : Heap) (w : BW) (H : Heap) (locs : List Loc) : Prop :=
  va_P D pmCl (bwd ad cA w) H ∧ va_S A H0 H locs ∧ H.size = B + w.length ∧ w.length ≤ NK
section
variable {ad : Nat → Nat} {cA : Nat → ClassId} {D : va_G} {A : Nat → Prop} {B : Nat} {H0 H H1 : Heap} {w : BW} {locs : List Loc} {i : Nat} {c c1 : BC}
theorem bwd_at (i : Nat) : (bwd ad cA w)[i]? = (w[i]?).map (fun c => (ad i, bcE ad cA c)) := by
  unfold bwd
  rw [List.getElem?_mapIdx]
theorem bwd_get (h : w[i]? = some c) : (bwd ad cA w)[i]? = some (ad i, bcE ad cA c) := by rw [bwd_at, h]; rfl
theorem bwd_app : bwd ad cA (w ++ [c]) = bwd ad cA w ++ [(ad w.length, bcE ad cA c)] := by
  unfold bwd
  rw [List.mapIdx_append]
  simp
theorem bwd_set : (bwd ad cA w).set i (ad i, bcE ad cA c) = bwd ad cA (w.set i c) := by
  apply List.ext_getElem?
  intro j
  rw [bwd_at]
  by_cases e : i = j
  · subst e
    by_cases hl : i < w.length
    · rw [List.getElem?_set_self (by simpa [bwd] using hl), List.getElem?_set_self hl]; rfl
    · rw [List.getElem?_eq_none (by simp [bwd]; omega), List.getElem?_eq_none (by simp; omega)]; rfl
  · rw [List.getElem?_set_ne e, List.getElem?_set_ne e, bwd_at]
theorem bwd_D (hB : adB ad B) (hw : w.length ≤ NK) (hA : ∀ q, B ≤ q → A q) : va_D A (bwd ad cA w) := by
  have key : ∀ (i : Nat) (q : Nat × va_E), (bwd ad cA w)[i]? = some q → i < NK ∧ q.1 = B + i := by
    intro i q hq
    have hi : i < NK := by
      have := (List.getElem?_eq_some_iff.mp hq).1
      have : i < w.length := by simpa [bwd] using this
      omega
    refine ⟨hi, ?_⟩
    rw [bwd_at] at hq
    cases hc : w[i]? with
    | none => rw [hc] at hq; cases hq
    | some c => rw [hc] at hq; cases hq; exact hB i hi
  refine ⟨fun i j x y hi hj hxy => ?_, fun k q hk => ?_⟩
  · have a := (key i x hi).2
    have b := (key j y hj).2
    omega
  · rw [(key k q hk).2]
    exact hA _ (by omega)
theorem lt_of_get {α : Type} {w : List α} {i : Nat} {c : α} (h : w[i]? = some c) : i < w.length := (List.getElem?_eq_some_iff.mp h).1
theorem BH.push (hB : adB ad B) (hW : BH ad cA D A B H0 w H locs) (hl : w.length < NK) (e1 : va_at D pmCl (ad w.length, bcE ad cA c) H1) (z1 : H1.size = H.size + 1) (o1 : ∀ q, q < H.size → H1[q]? = H[q]?) : BH ad cA D A B H0 (w ++ [c]) H1 locs := by
  obtain ⟨hP, hS, hz, -⟩ := hW
  refine ⟨?_, ⟨Nat.le_trans hS.1 (by omega), fun x h1 h2 => (o1 x (Nat.lt_of_lt_of_le h1 hS.1)).trans (hS.2.1 x h1 h2), hS.2.2⟩, by rw [z1, hz, List.length_append]; rfl, by rw [List.length_append]; exact hl⟩
  rw [bwd_app]
  refine (hP.kept (fun k x hx => o1 x.1 ((hP k x hx).lt))).app (fun k x hx => ?_)
  have hk : k < 1 := lt_of_get hx
  rw [show k = 0 by omega] at hx
  cases hx
  exact e1
theorem BH.upd (hB : adB ad B) (hA : ∀ q, B ≤ q → A q) (hW : BH ad cA D A B H0 w H locs) (hi : w[i]? = some c) (e1 : va_at D pmCl (ad i, bcE ad cA c1) H1) (z : H1.size = H.size) (oq : ∀ q, q ≠ ad i → H1[q]? = H[q]?) (k : Nat) : BH ad cA D A B H0 (w.set i c1) H1 (locs ++ [⟨ad i, k⟩]) := by
  obtain ⟨hP, hS, hz, hn⟩ := hW
  have hD := bwd_D (cA := cA) hB hn hA
  refine ⟨?_, hS.put z oq (hD.2 i _ (bwd_get hi)), by rw [z, hz, List.length_set], by rw [List.length_set]; exact hn⟩
  rw [← bwd_set]
  exact hP.set hD (bwd_get hi) e1 oq
end
/-- a new object's fields -/
def dfl (ci : Nat) : List Value := (if ci < 9 then fso ci else fsq ci).map (fun so => match so with
  | 0 => .int 0
  | 1 => .long 0
  | _ => .null)
theorem dfl_ok : ((List.range 15).all (fun ci => match pmCl[ci]? with
  | some (_, T, N) => Nat.beq (dfl ci).length N && (List.range N).all (fun j => decide ((parseFieldDescriptor (T j).2.2.1).map defaultValue = some (vp_V (dfl ci) j)))
  | none => false)) = true := by decide +kernel
theorem dfl_tr (ad : Nat → Nat) (ci : Nat) : (dfl ci).map (tr ad) = dfl ci := by
  unfold dfl
  rw [List.map_map]
  refine List.map_congr_left (fun so _ => ?_)
  match so with
  | 0 => rfl
  | 1 => rfl
  | _ + 2 => rfl
/-- the type of a number -/
def tyN (t : Nat) : FieldType := match t with
  | 0 => .int
  | 1 => .byte
  | 2 => .long
  | 3 => .double
  | 4 => .object RX8
  | _ => .object "WaveUpgrade$Command"
/-- what a new cell of n slots takes of the room, six slots to a cell -/
def cst (n : Nat) : Nat := n / 6 + 1
/-- links of constructors between nest mates -/
def BN : List Jvm.Cond := [.methodLinkNest RX11 9 yX10_init RX11, .methodLinkNest RX8 26 yX3_init RX11, .methodLinkNest RX11 63 yX7_init RX11]
def bVm (s : State) : Prop := va_AO RX8 s ∧ va_AO "WaveUpgrade$Command" s ∧ ∀ w ∈ BN, va_Nw w s
theorem bVm.warm {s U : State} (hW : s.WarmedH U.vm) (h : bVm s) : bVm U := by
  refine ⟨h.1.moved hW.alike, h.2.1.moved hW.alike, fun w hw => ?_⟩
  have h1 := h.2.2 w hw
  simp only [BN, List.mem_cons, List.not_mem_nil, or_false] at hw
  rcases hw with rfl | rfl | rfl <;> exact va_Nw.warmM hW h1
theorem bVm.same {s U : State} (hv : s.vm = U.vm) (h : bVm s) : bVm U := by
  refine ⟨h.1.moved (hv ▸ Vm.Alike.refl s.vm), h.2.1.moved (hv ▸ Vm.Alike.refl s.vm), fun w hw => ?_⟩
  have h1 := h.2.2 w hw
  simp only [BN, List.mem_cons, List.not_mem_nil, or_false] at hw
  rcases hw with rfl | rfl | rfl <;> exact va_Nw.same rfl hv h1
/-- a method's frame while the world is made -/
def BCx (M : MI) (p : Program) (R : Room) (s : State) (m : MethodId) (args : Array Value) (meth : Method) (cc : Code) (ad : Nat → Nat) (cA : Nat → ClassId) (D : va_G) (A : Nat → Prop) (B : Nat) : Prop :=
  CallFix p m cc M.b M.nl s args tbG M.y.cls ∧ va_K D pmCl (pmTy cA) s ∧ (∀ q, B ≤ q → A q) ∧ B ≤ s.heap.size ∧ bVm s ∧
  (M.fr ≤ R.frames ∧ M.lo ≤ R.locals ∧ M.cap ≤ R.cells ∧ 6 * M.cap ≤ R.slots) ∧ (M.y.name = "<init>" → meth.name = "<init>") ∧ adB ad B
def fldG (M : MI) (idx ci j p : Nat) : Bool := match pmCl[ci]? with
  | some (_, T, N) => Nat.blt j N && atW p (.fieldLink M.y.cls idx (T j).1 (T j).2.1 (T j).2.2.1)
  | none => false
def fldB (M : MI) (idx ci j so p : Nat) : Bool := match pmCl[ci]? with
  | some (_, T, N) => Nat.blt j N && atW p (.fieldLink M.y.cls idx (T j).1 (T j).2.1 (T j).2.2.1) && (match so with
    | 0 => decide ((T j).2.2.1 = "I")
    | 1 => decide ((T j).2.2.1 = "Z")
    | 2 => decide ((T j).2.2.1 = "J")
    | _ => (match parseFieldDescriptor (T j).2.2.1 with
      | some (.object _) => true
      | some (.array _) => true
      | _ => false)) && (!(T j).2.2.2 || (decide (M.y.name = "<init>") && decide ((T j).1 = M.y.cls)))
  | none => false
/-- a value of a sort -/
def okv (so : Nat) (v : Value) : Bool := match so, v with
  | 0, .int _ => true
  | 1, .int x => decide (x = 0) || decide (x = 1)
  | 2, .long _ => true
  | 3, .ref _ => true
  | _, _ => false
section
variable {M : MI} {Z : State → Prop} {p : Program} {l : Launch} {e : Env} {R : Room} {s : State} {m : MethodId} {args : Array Value} {below : List Frame} {meth : Method} {cc : Code} {ad : Nat → Nat} {cA : Nat → ClassId} {D : va_G} {A : Nat → Prop} {B : Nat} {H : Heap} {locs : List Loc} {cells slots pc : Nat} {lsA : Array Slot} {rest : List Value} {w : BW}
/-- new -/
theorem b_new (hC : BCx M p R s m args meth cc ad cA D A B) (hW : BH ad cA D A B s.heap w H locs) {idx ci p1 p2 p3 : Nat} {C : String} {T : u_T} {N : Nat} (hc : pmCl[ci]? = some (C, T, N)) (w1 : atW p1 (.classLink M.y.cls idx C) = true) (w2 : atW p2 (.instantiable C N) = true) (w3 : atW p3 (.initialized C) = true)
    (hl : w.length < NK) {c : Nat} (h1 : cells ≤ c) (h2 : slots ≤ 6 * c) (h3 : c + cst N ≤ M.cap) (hd : decode M.b pc = .ok (.new idx, 3))
    (kk : ∀ (H1 : Heap) (cells slots : Nat), BH ad cA D A B s.heap (w ++ [.inl (ci, dfl ci)]) H1 locs → cells ≤ c + cst N → slots ≤ 6 * (c + cst N) → W p l e R s m args below meth cc H1 locs cells slots Z (F0 m (pc + 3) lsA (.ref (ad w.length) :: rest))) :
    W p l e R s m args below meth cc H locs cells slots Z (F0 m pc lsA rest) := by
  obtain ⟨⟨hx, hb, hml, hown, hts⟩, hK, hA, hBs, hAO, hroom, hin, hB⟩ := hC
  have hst : 1 ≤ cst N ∧ N ≤ 6 * cst N := by unfold cst; omega
  have hKn := hK.1 ci _ hc
  obtain ⟨hin2, ⟨ty0, hty⟩, hnm⟩ := cl_ok hc
  refine W.newcK hx hb hown (hts _ (tbG_at w1)) (hts _ (tbG_at w2)) (hts _ (tbG_at w3)) rfl hd (by omega) (by omega) hKn.2.1 rfl fun H1 kC hkC e1 z1 o1 => ?_
  have ea : H.size = ad w.length := by rw [hW.2.2.1, hB _ hl]
  have hdf := List.all_eq_true.mp dfl_ok ci (List.mem_range.mpr (lt_of_get hc))
  rw [hc] at hdf
  simp only [Bool.and_eq_true] at hdf
  have e2 : va_at D pmCl (ad w.length, bcE ad cA (.inl (ci, dfl ci))) H1 := by
    refine ⟨_, hc, ?_⟩
    show t_OB (ad w.length) (D.1 ci) N (D.2 ci) H1 (vp_V ((dfl ci).map (tr ad)))
    rw [dfl_tr, ← ea]
    refine (u_born ty0 hts hin2 hKn hkC e1 hty).to (fun j hj => ?_)
    have h9 := List.all_eq_true.mp hdf.2 j (List.mem_range.mpr hj)
    rw [hty j hj] at h9
    exact Option.some.inj (of_decide_eq_true h9)
  have := kk H1 (cells + 1) (slots + N) (hW.push hB hl e2 z1 o1) (by omega) (by omega)
  rw [← ea] at this
  exact this
/-- newarray -/
theorem b_newa (hC : BCx M p R s m args meth cc ad cA D A B) (hW : BH ad cA D A B s.heap w H locs) {at' : ArrayType} {t p1 : Nat} (ht : t < 3 ∧ newarray.typeOf at' = tyN t) (w1 : atW p1 (.arrayClass (newarray.typeOf at')) = true) {n : Int32} (hn : ¬ n < 0) (hn2 : n.toNatClampNeg ≤ 100000)
    (hl : w.length < NK) {c : Nat} (h1 : cells ≤ c) (h2 : slots ≤ 6 * c) (h3 : c + cst n.toNatClampNeg ≤ M.cap) (hd : decode M.b pc = .ok (.newarray at', 2))
    (kk : ∀ (H1 : Heap) (cells slots : Nat), BH ad cA D A B s.heap (w ++ [.inr (t, n.toNatClampNeg, [], [])]) H1 locs → cells ≤ c + cst n.toNatClampNeg → slots ≤ 6 * (c + cst n.toNatClampNeg) → W p l e R s m args below meth cc H1 locs cells slots Z (F0 m (pc + 2) lsA (.ref (ad w.length) :: rest))) :
    W p l e R s m args below meth cc H locs cells slots Z (F0 m pc lsA (.int n :: rest)) := by
  obtain ⟨⟨hx, hb, hml, hown, hts⟩, hK, hA, hBs, hAO, hroom, hin, hB⟩ := hC
  obtain ⟨ht4, hty⟩ := ht
  have hst : 1 ≤ cst n.toNatClampNeg ∧ n.toNatClampNeg ≤ 6 * cst n.toNatClampNeg := by unfold cst; omega
  have hbytes : n.toNatClampNeg * componentBytes (newarray.typeOf at') ≤ 536870912 := by
    have h8 : componentBytes (newarray.typeOf at') ≤ 8 := by
      rw [hty]
      match t, ht4 with
      | 0, _ => decide
      | 1, _ => decide
      | 2, _ => decide
    exact Nat.le_trans (Nat.mul_le_mul hn2 h8) (Nat.le_of_ble_eq_true rfl)
  refine va_newaK hx hb (hts _ (tbG_at w1)) rfl hd rfl hn rfl hbytes (by omega) (by omega) rfl fun H1 cA1 e1 z1 o1 hAr hNm => ?_
  have ea : H.size = ad w.length := by rw [hW.2.2.1, hB _ hl]
  have e2 : va_at D pmCl (ad w.length, bcE ad cA (.inr (t, n.toNatClampNeg, [], []))) H1 := by
    show H1[ad w.length]? = some (vp_cell (cA t) (n.toNatClampNeg, bcC ad t [] []))
    rw [← ea, e1, hty]
    rw [hty] at hNm
    have hcA : cA1 = cA t := by
      refine Option.some.inj (hNm.symm.trans ?_)
      match t, ht4 with
      | 0, _ => exact (hK.2 0 _ rfl).2
      | 1, _ => exact (hK.2 1 _ rfl).2
      | 2, _ => exact (hK.2 2 _ rfl).2
    rw [hcA]
    match t, ht4 with
    | 0, _ => rfl
    | 1, _ => rfl
    | 2, _ => rfl
  have := kk H1 (cells + 1) (slots + n.toNatClampNeg) (hW.push hB hl e2 z1 o1) (by omega) (by omega)
  rw [← ea] at this
  exact this
/-- anewarray -/
theorem b_newq (hC : BCx M p R s m args meth cc ad cA D A B) (hW : BH ad cA D A B s.heap w H locs) {idx t p1 : Nat} {C : String} (ht : (t = 4 ∧ C = RX8) ∨ (t = 5 ∧ C = "WaveUpgrade$Command")) (w1 : atW p1 (.classLink M.y.cls idx C) = true) {n : Int32} (hn : ¬ n < 0) (hn2 : n.toNatClampNeg ≤ 100000)
    (hl : w.length < NK) {c : Nat} (h1 : cells ≤ c) (h2 : slots ≤ 6 * c) (h3 : c + cst n.toNatClampNeg ≤ M.cap) (hd : decode M.b pc = .ok (.anewarray idx, 3))
    (kk : ∀ (H1 : Heap) (cells slots : Nat), BH ad cA D A B s.heap (w ++ [.inr (t, n.toNatClampNeg, [], [])]) H1 locs → cells ≤ c + cst n.toNatClampNeg → slots ≤ 6 * (c + cst n.toNatClampNeg) → W p l e R s m args below meth cc H1 locs cells slots Z (F0 m (pc + 3) lsA (.ref (ad w.length) :: rest))) :
    W p l e R s m args below meth cc H locs cells slots Z (F0 m pc lsA (.int n :: rest)) := by
  obtain ⟨⟨hx, hb, hml, hown, hts⟩, hK, hA, hBs, hAO, hroom, hin, hB⟩ := hC
  have hst : 1 ≤ cst n.toNatClampNeg ∧ n.toNatClampNeg ≤ 6 * cst n.toNatClampNeg := by unfold cst; omega
  have hao : va_AO C s := by
    rcases ht with ⟨-, rfl⟩ | ⟨-, rfl⟩
    · exact hAO.1
    · exact hAO.2.1
  refine W.anew hx hb hown (hts _ (tbG_at w1)) (va_AO.use hao) rfl hd rfl hn (by omega) (by omega) (by omega) fun cA1 kA comp f1 f2 f3 f4 => ?_
  generalize hH1 : H.push ({ cls := cA1, slots := Array.replicate n.toNatClampNeg .null, vm := .none } : Cell) = H1
  have z1 : H1.size = H.size + 1 := by rw [← hH1, Array.size_push]
  have o1 : ∀ q : Nat, q < H.size → H1[q]? = H[q]? := fun q hq => by rw [← hH1, Array.getElem?_push, if_neg (Nat.ne_of_lt hq)]
  have ea : H.size = ad w.length := by rw [hW.2.2.1, hB _ hl]
  have e2 : va_at D pmCl (ad w.length, bcE ad cA (.inr (t, n.toNatClampNeg, [], []))) H1 := by
    show H1[ad w.length]? = some (vp_cell (cA t) (n.toNatClampNeg, bcC ad t [] []))
    rw [← ea, ← hH1, Array.getElem?_push_size, arrV_new]
    rcases ht with ⟨rfl, rfl⟩ | ⟨rfl, rfl⟩
    · obtain ⟨_, _, -, -, -, h9⟩ := (hK.2 4 _ rfl).2
      rw [show cA1 = cA 4 from Option.some.inj (f1.symm.trans h9)]
      rfl
    · obtain ⟨_, _, -, -, -, h9⟩ := (hK.2 5 _ rfl).2
      rw [show cA1 = cA 5 from Option.some.inj (f1.symm.trans h9)]
      rfl
  have := kk H1 (cells + 1) (slots + n.toNatClampNeg) (hW.push hB hl e2 z1 o1) (by omega) (by omega)
  rw [← ea] at this
  exact this
theorem fits_of {so : Nat} {d : String} {v : Value} (h : (match so with
    | 0 => decide (d = "I")
    | 1 => decide (d = "Z")
    | 2 => decide (d = "J")
    | _ => (match parseFieldDescriptor d with
      | some (.object _) => true
      | some (.array _) => true
      | _ => false)) = true) (hv : okv so v = true) (ad : Nat → Nat) : ∃ ty, parseFieldDescriptor d = some ty ∧ narrow ty (tr ad v) = tr ad v ∧ fits ty (tr ad v) = true := by
  unfold okv at hv
  split at hv
  · exact ⟨_, by rw [of_decide_eq_true h]; exact pd_I, rfl, rfl⟩
  · rename_i x
    refine ⟨_, by rw [of_decide_eq_true h]; exact pd_Z, ?_⟩
    rcases Bool.or_eq_true _ _ ▸ hv with q | q
    · rw [of_decide_eq_true q]; exact ⟨rfl, rfl⟩
    · rw [of_decide_eq_true q]; exact ⟨rfl, rfl⟩
  · exact ⟨_, by rw [of_decide_eq_true h]; exact pd_J, rfl, rfl⟩
  · simp only at h
    split at h
    · rename_i e9; exact ⟨_, e9, rfl, rfl⟩
    · rename_i e9; exact ⟨_, e9, rfl, rfl⟩
    · cases h
  · cases hv
theorem map_set {ad : Nat → Nat} {fs : List Value} {j : Nat} {v : Value} : (fs.map (tr ad)).set j (tr ad v) = (fs.set j v).map (tr ad) := by rw [List.map_set]
/-- putfield -/
theorem b_put (hC : BCx M p R s m args meth cc ad cA D A B) (hW : BH ad cA D A B s.heap w H locs) {idx ci j so q a : Nat} {fs : List Value} {v : Value} (hf : fldB M idx ci j so q = true) (ha : w[a]? = some (.inl (ci, fs))) (hl : j < fs.length) (hv : okv so v = true) (hd : decode M.b pc = .ok (.putfield idx, 3))
    (kk : ∀ (H1 : Heap) (locs : List Loc), BH ad cA D A B s.heap (w.set a (.inl (ci, fs.set j v))) H1 locs → W p l e R s m args below meth cc H1 locs cells slots Z (F0 m (pc + 3) lsA rest)) :
    W p l e R s m args below meth cc H locs cells slots Z (F0 m pc lsA (tr ad v :: .ref (ad a) :: rest)) := by
  obtain ⟨⟨hx, hb, hml, hown, hts⟩, hK, hA, hBs, hAO, hroom, hin, hB⟩ := hC
  unfold fldB at hf
  split at hf
  · rename_i C T N hc
    simp only [Bool.and_eq_true] at hf
    obtain ⟨⟨⟨hjN, hw⟩, hso⟩, hfin⟩ := hf
    have hjN : j < N := blt_of hjN
    obtain ⟨ty, hd9, hn9, hfit⟩ := fits_of hso hv ad
    obtain ⟨hin2, ⟨ty0, hty⟩, hnm⟩ := cl_ok hc
    have hap := va_apart (own := C) hts hin2 ty0 hty hnm hK hc
    obtain ⟨r, g1, cell, q1, q2, q3, q4⟩ := hW.1 a _ (bwd_get ha)
    have hr : r = (C, T, N) := Option.some.inj (g1.symm.trans hc)
    subst hr
    obtain ⟨hS, hfc, kC, hkC, hkind⟩ := hK.1 ci _ hc
    obtain ⟨cf, kf, fi, f, hi, hsl⟩ := hS j hjN
    have hlay := hts _ (hin2 _ (u_in_lay hjN))
    have hst := (u_facts hfc hkC (u_lays hts hin2 hjN) hi).1
    have fin9 : ∀ (H' : Heap), H'[ad a]? = some (cell.setSlot f.slot (tr ad v)) → H'.size = H.size → (∀ q, q ≠ ad a → H'[q]? = H[q]?) → W p l e R s m args below meth cc H' (locs ++ [⟨ad a, f.slot⟩]) cells slots Z (F0 m (pc + 3) lsA rest) := by
      intro H' e1 e2 e3
      refine kk H' _ (hW.upd hB hA ha ?_ e2 e3 f.slot)
      refine ⟨_, hc, ?_⟩
      show t_OB (ad a) (D.1 ci) N (D.2 ci) H' (vp_V ((fs.set j v).map (tr ad)))
      rw [← map_set]
      rw [hsl] at e1
      exact t_OB.to (V := updV (vp_V (fs.map (tr ad))) j (tr ad v)) ⟨_, e1, q2, q3, t_set q4 hap hjN (tr ad v)⟩ (fun i _ => vp_updV_set (by rw [List.length_map]; exact hl) (tr ad v) i)
    have hlt : f.slot < cell.slots.size := by rw [hsl]; exact k2_hasslot (q4 j hjN)
    unfold u_lay at hlay
    by_cases hff : (T j).2.2.2 = true
    · rw [if_pos hff] at hlay
      rw [hff] at hfin
      simp only [Bool.not_true, Bool.false_or, Bool.and_eq_true, decide_eq_true_eq] at hfin
      have hcf : m.cls = cf := by
        obtain ⟨_, _, c', _, _, _, -, -, hf', -, -, -, hown2, -⟩ := Cond.laysFinal_spec hlay
        have e1 : c' = cf := by have := hi.symm.trans hf'; simp at this; exact this.1.symm
        rw [hfin.2] at hown2
        rw [← e1]; exact Option.some.inj (hown.symm.trans hown2)
      have h6 := u_fits hfc hkC hkind (Or.inr hlay) hi hd9 hn9 hfit
      exact W.putFinK hx hb hown (hts _ (tbG_at hw)) hi hst hcf (hin hfin.1) (by rw [q2]; exact h6) q1 q3 hlt rfl rfl hd fin9
    · rw [if_neg hff] at hlay
      have h6 := u_store hfc hkC hkind hlay hi hd9 hn9 hfit
      exact W.putK hx hb (f := f) ⟨hown, hts _ (tbG_at hw), ⟨_, _, _, hi⟩, hst⟩ (by rw [q2]; exact h6) q1 q3 hlt rfl rfl hd fin9
  · cases hf
/-- getfield -/
theorem b_get (hC : BCx M p R s m args meth cc ad cA D A B) (hW : BH ad cA D A B s.heap w H locs) {idx ci j q a : Nat} {fs : List Value} {v : Value} (hf : fldG M idx ci j q = true) (ha : w[a]? = some (.inl (ci, fs))) (hv : fs[j]? = some v) (hd : decode M.b pc = .ok (.getfield idx, 3))
    (kk : W p l e R s m args below meth cc H locs cells slots Z (F0 m (pc + 3) lsA (tr ad v :: rest))) :
    W p l e R s m args below meth cc H locs cells slots Z (F0 m pc lsA (.ref (ad a) :: rest)) := by
  obtain ⟨⟨hx, hb, hml, hown, hts⟩, hK, hA, hBs, hAO, hroom, hin, hB⟩ := hC
  unfold fldG at hf
  split at hf
  · rename_i C T N hc
    simp only [Bool.and_eq_true] at hf
    obtain ⟨hin2, -, -⟩ := cl_ok hc
    exact va_get hx hb hts hin2 hown hK hW.1 a (bwd_get ha) hc j (blt_of hf.1) (hts _ (tbG_at hf.2)) (fun _ h9 => h9) (by rw [List.getElem?_map, hv]; rfl) hd kk
  · cases hf
/-- iastore -/
theorem b_iast (hC : BCx M p R s m args meth cc ad cA D A B) (hW : BH ad cA D A B s.heap w H locs) {a n : Nat} {oi : List (Nat × Int32)} {orf : List (Nat × Nat)} {i x : Int32} {oi1 : List (Nat × Int32)} (ha : w[a]? = some (.inr (0, n, oi, orf))) (hin1 : vp_in i n) (h1 : asI oi1 = upd (asI oi) i.toNatClampNeg x) (hd : decode M.b pc = .ok (.iastore, 1))
    (kk : ∀ (H1 : Heap) (locs : List Loc), BH ad cA D A B s.heap (w.set a (.inr (0, n, oi1, orf))) H1 locs → W p l e R s m args below meth cc H1 locs cells slots Z (F0 m (pc + 1) lsA rest)) :
    W p l e R s m args below meth cc H locs cells slots Z (F0 m pc lsA (.int x :: .int i :: .ref (ad a) :: rest)) := by
  obtain ⟨⟨hx, hb, hml, hown, hts⟩, hK, hA, hBs, hAO, hroom, hin, hB⟩ := hC
  refine W.iast hx hb (hW.1 a _ (bwd_get ha)) ((hK.2 0 _ rfl).1 n (fun j => .int (asI oi j))) (fun q => by cases q) (by show ¬ (i < 0 ∨ (arrV _ _ _).slots.size ≤ _); rw [arrV_size]; exact hin1) rfl rfl hd fun H1 e1 z oq => ?_
  refine kk H1 _ (hW.upd hB hA ha ?_ z oq _)
  show H1[ad a]? = some (vp_cell (cA 0) (n, .inl (asI oi1)))
  rw [e1, h1]
  show some ((vp_cell (cA 0) (n, .inl (asI oi))).setSlot _ _) = _
  rw [vp_cell_i, vp_cell_i, arrV_store]
  congr 2
  funext q
  by_cases hq : q = i.toNatClampNeg
  · subst hq
    simp [updV, upd]
  · simp [updV, upd, hq]
/-- aastore of a state -/
theorem b_aast (hC : BCx M p R s m args meth cc ad cA D A B) (hW : BH ad cA D A B s.heap w H locs) {a n b : Nat} {oi : List (Nat × Int32)} {orf : List (Nat × Nat)} {i : Int32} {fs : List Value} (ha : w[a]? = some (.inr (4, n, oi, orf))) (hin1 : vp_in i n) (hb9 : w[b]? = some (.inl (6, fs))) (hd : decode M.b pc = .ok (.aastore, 1))
    (kk : ∀ (H1 : Heap) (locs : List Loc), BH ad cA D A B s.heap (w.set a (.inr (4, n, oi, (i.toNatClampNeg, b) :: orf))) H1 locs → W p l e R s m args below meth cc H1 locs cells slots Z (F0 m (pc + 1) lsA rest)) :
    W p l e R s m args below meth cc H locs cells slots Z (F0 m pc lsA (.ref (ad b) :: .int i :: .ref (ad a) :: rest)) := by
  obtain ⟨⟨hx, hb, hml, hown, hts⟩, hK, hA, hBs, hAO, hroom, hin, hB⟩ := hC
  have hlt : i.toNatClampNeg < n := Nat.not_le.mp fun q => hin1 (Or.inr q)
  have h0 : ¬ i < 0 := fun q => hin1 (Or.inl q)
  obtain ⟨r', hr', cellV, g1, g2, g3, -⟩ := hW.1 b _ (bwd_get hb9)
  have hcls := (hK.1 6 (RX8, TX8, 16) rfl).2
  obtain ⟨kA, comp, k1, k2, k3, -⟩ := (hK.2 4 _ rfl).2
  have hcomp : comp = D.1 6 := Option.some.inj (k3.symm.trans hcls.1)
  subst hcomp
  obtain ⟨kC, hkC, -⟩ := hcls.2
  refine W.aast hx hb (hW.1 a _ (bwd_get ha)) (fun q h => by cases h) (fun h => by cases h) k1 k2 rfl hkC ⟨h0, by show _ < (arrV _ _ _).slots.size; rw [arrV_size]; exact hlt⟩ g1 (fun q h => by rw [g3] at h; cases h) (by rw [g2]; exact hkC) (by rw [g2]; exact va_assign hcls) rfl rfl hd fun H1 e1 z oq => ?_
  refine kk H1 _ (hW.upd hB hA ha ?_ z oq _)
  show H1[ad a]? = some (vp_cell (cA 4) (n, .inr (.inr (.inr (.inr (fun j => (asR ((i.toNatClampNeg, b) :: orf) j).map ad))))))
  rw [e1]
  show some ((vp_cell (cA 4) (n, .inr (.inr (.inr (.inr (fun j => (asR orf j).map ad)))))).setSlot _ _) = _
  rw [vp_cell_q, vp_cell_q, arrV_store]
  congr 2
  funext q
  by_cases hq : q = i.toNatClampNeg
  · subst hq
    simp [updV, asR, va_rf]
  · simp [updV, asR, hq]
/-- arraylength -/
theorem b_alen (hC : BCx M p R s m args meth cc ad cA D A B) (hW : BH ad cA D A B s.heap w H locs) {a t n : Nat} {oi : List (Nat × Int32)} {orf : List (Nat × Nat)} (ht : t < 6) (ha : w[a]? = some (.inr (t, n, oi, orf))) (hd : decode M.b pc = .ok (.arraylength, 1))
    (kk : W p l e R s m args below meth cc H locs cells slots Z (F0 m (pc + 1) lsA (.int (nI n) :: rest))) :
    W p l e R s m args below meth cc H locs cells slots Z (F0 m pc lsA (.ref (ad a) :: rest)) := by
  obtain ⟨⟨hx, hb, hml, hown, hts⟩, hK, hA, hBs, hAO, hroom, hin, hB⟩ := hC
  have ht : ∃ ty, (pmTy cA)[t]? = some (cA t, ty) := by
    match t, ht with
    | 0, _ => exact ⟨_, rfl⟩
    | 1, _ => exact ⟨_, rfl⟩
    | 2, _ => exact ⟨_, rfl⟩
    | 3, _ => exact ⟨_, rfl⟩
    | 4, _ => exact ⟨_, rfl⟩
    | 5, _ => exact ⟨_, rfl⟩
  obtain ⟨ty, ht⟩ := ht
  exact va_alen hx hb hK hW.1 a t (bwd_get ha) ht rfl hd kk
end
