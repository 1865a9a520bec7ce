/-! ===== the maker's steps ===== -/
abbrev BE : Type := Nat × Instr × Nat × List Nat
def bget (pc : Nat) : List BE → Option (Instr × List Nat)
  | [] => none
  | (q, i, _, ax) :: r => match Nat.beq q pc with
    | true => some (i, ax)
    | false => bget pc r
def stI (oi : List (Nat × Int32)) (k : Nat) (x : Int32) : List (Nat × Int32) := match decide (x = 0) && !(oi.any (fun q => Nat.beq q.1 k)) with
  | true => oi
  | false => (k, x) :: oi
def inb (i : Int32) (n : Nat) : Bool := !(decide (i < 0)) && Nat.blt i.toNatClampNeg n
abbrev BSt : Type := Nat × Nat × Lc × List Value × BW
def bst1 (M : MI) (pc c : Nat) (ls : Lc) (st : List Value) (w : BW) (i : Instr) (ax : List Nat) : Option BSt := match i with
  | .aload_n n => match lget ls n.val with
    | some (.ref x) => some (pc + 1, c, ls, .ref x :: st, w)
    | _ => none
  | .iload_n n => match lget ls n.val with
    | some (.int x) => some (pc + 1, c, ls, .int x :: st, w)
    | _ => none
  | .iconst n => some (pc + 1, c, ls, .int (cI n) :: st, w)
  | .bipush n => some (pc + 2, c, ls, .int (cI n) :: st, w)
  | .sipush n => some (pc + 3, c, ls, .int (cI n) :: st, w)
  | .lconst n => some (pc + 1, c, ls, .long (lN n.val) :: st, w)
  | .dup => match st with
    | .ref x :: r => some (pc + 1, c, ls, .ref x :: .ref x :: r, w)
    | _ => none
  | .istore_n n => match st, Nat.blt n.val M.nl with
    | .int x :: r, true => some (pc + 1, c, lput1 ls n.val (.int x), r, w)
    | _, _ => none
  | .istore n => match st, Nat.blt n M.nl with
    | .int x :: r, true => some (pc + 2, c, lput1 ls n (.int x), r, w)
    | _, _ => none
  | .astore_n n => match st, Nat.blt n.val M.nl with
    | .ref x :: r, true => some (pc + 1, c, lput1 ls n.val (.ref x), r, w)
    | _, _ => none
  | .astore n => match st, Nat.blt n M.nl with
    | .ref x :: r, true => some (pc + 2, c, lput1 ls n (.ref x), r, w)
    | _, _ => none
  | .iinc n v => match lget ls n, Nat.blt n M.nl with
    | some (.int x), true => some (pc + 3, c, lput1 ls n (.int (x + cI v)), st, w)
    | _, _ => none
  | .goto _ => match ax with
    | [t] => some (t, c, ls, st, w)
    | _ => none
  | .if_icmp cd _ => match cd, ax, st with
    | .ge, [t], .int y :: .int x :: r => match decide (y ≤ x) with
      | true => some (t, c, ls, r, w)
      | false => some (pc + 3, c, ls, r, w)
    | _, _, _ => none
  | .new _ => match ax with
    | [ci, _, _, _] => match Nat.blt w.length NK && Nat.ble (c + cst (fso ci).length) M.cap with
      | true => some (pc + 3, c + cst (fso ci).length, ls, .ref w.length :: st, w ++ [.inl (ci, dfl ci)])
      | false => none
    | _ => none
  | .newarray _ => match ax, st with
    | [t, _], .int n :: r => match (!(decide (n < 0)) && Nat.ble n.toNatClampNeg 100000) && (Nat.blt w.length NK && Nat.ble (c + cst n.toNatClampNeg) M.cap) with
      | true => some (pc + 2, c + cst n.toNatClampNeg, ls, .ref w.length :: r, w ++ [.inr (t, n.toNatClampNeg, [], [])])
      | false => none
    | _, _ => none
  | .anewarray _ => match ax, st with
    | [t, _], .int n :: r => match (!(decide (n < 0)) && Nat.ble n.toNatClampNeg 100000) && (Nat.blt w.length NK && Nat.ble (c + cst n.toNatClampNeg) M.cap) with
      | true => some (pc + 3, c + cst n.toNatClampNeg, ls, .ref w.length :: r, w ++ [.inr (t, n.toNatClampNeg, [], [])])
      | false => none
    | _, _ => none
  | .putfield _ => match ax, st with
    | [ci, j, so, _], v :: .ref a :: r => match w[a]? with
      | some (.inl (ci', fs)) => match Nat.beq ci' ci && (Nat.blt j fs.length && okv so v) with
        | true => some (pc + 3, c, ls, r, w.set a (.inl (ci, fs.set j v)))
        | false => none
      | _ => none
    | _, _ => none
  | .getfield _ => match ax, st with
    | [ci, j, _], .ref a :: r => match w[a]? with
      | some (.inl (ci', fs)) => match Nat.beq ci' ci, fs[j]? with
        | true, some v => some (pc + 3, c, ls, v :: r, w)
        | _, _ => none
      | _ => none
    | _, _ => none
  | .iastore => match st with
    | .int x :: .int i :: .ref a :: r => match w[a]? with
      | some (.inr (0, n, oi, orf)) => match inb i n with
        | true => some (pc + 1, c, ls, r, w.set a (.inr (0, n, stI oi i.toNatClampNeg x, orf)))
        | false => none
      | _ => none
    | _ => none
  | .aastore => match st with
    | .ref b :: .int i :: .ref a :: r => match w[a]?, w[b]? with
      | some (.inr (4, n, oi, orf)), some (.inl (6, _)) => match inb i n with
        | true => some (pc + 1, c, ls, r, w.set a (.inr (4, n, oi, (i.toNatClampNeg, b) :: orf)))
        | false => none
      | _, _ => none
    | _ => none
  | .arraylength => match st with
    | .ref a :: r => match w[a]? with
      | some (.inr (t, n, _, _)) => match Nat.blt t 6 with
        | true => some (pc + 1, c, ls, .int (nI n) :: r, w)
        | false => none
      | _ => none
    | _ => none
  | .invokespecial _ => match ax, st with
    | [_], .ref _ :: r => match Nat.ble ((r.map (fun v => v.category)).sum) 8 with
      | true => some (pc + 3, c, ls, r, w)
      | false => none
    | _, _ => none
  | _ => none
def okB1 (M : MI) (pc : Nat) (i : Instr) (len : Nat) (ax : List Nat) : Bool := match i with
  | .bipush n => Nat.beq len 2 && decide ((Int8.ofInt n).toInt32 = cI n)
  | .sipush n => Nat.beq len 3 && decide ((Int16.ofInt n).toInt32 = cI n)
  | .istore _ => Nat.beq len 2
  | .astore _ => Nat.beq len 2
  | .iinc _ _ => Nat.beq len 3
  | .goto off => Nat.beq len 3 && (match ax with
    | [t] => decide ((pc : Int) + off = (t : Int))
    | _ => false)
  | .if_icmp _ off => Nat.beq len 3 && (match ax with
    | [t] => decide ((pc : Int) + off = (t : Int))
    | _ => false)
  | .new idx => Nat.beq len 3 && (match ax with
    | [ci, p1, p2, p3] => (match pmCl[ci]? with
      | some (C, _, N) => Nat.beq N (fso ci).length && (atW p1 (.classLink M.y.cls idx C) && (atW p2 (.instantiable C N) && atW p3 (.initialized C)))
      | none => false)
    | _ => false)
  | .newarray a => Nat.beq len 2 && (match ax with
    | [t, p] => Nat.blt t 3 && (decide (newarray.typeOf a = tyN t) && atW p (.arrayClass (newarray.typeOf a)))
    | _ => false)
  | .anewarray idx => Nat.beq len 3 && (match ax with
    | [4, p] => atW p (.classLink M.y.cls idx RX8)
    | [5, p] => atW p (.classLink M.y.cls idx "WaveUpgrade$Command")
    | _ => false)
  | .putfield idx => Nat.beq len 3 && (match ax with
    | [ci, j, so, p] => fldB M idx ci j so p
    | _ => false)
  | .getfield idx => Nat.beq len 3 && (match ax with
    | [ci, j, p] => fldG M idx ci j p
    | _ => false)
  | .invokespecial idx => Nat.beq len 3 && (match ax with
    | [p] => atW p (.methodLink M.y.cls idx Lib.objectInit) && (Nat.ble 1 M.fr && Nat.ble 20 M.lo)
    | _ => true)
  | .invokevirtual _ => Nat.beq len 3
  | _ => Nat.beq len 1
theorem stI_ok {oi : List (Nat × Int32)} {k : Nat} {x : Int32} : asI (stI oi k x) = upd (asI oi) k x := by
  unfold stI
  split
  · rename_i h
    simp only [Bool.and_eq_true, decide_eq_true_eq, Bool.not_eq_true'] at h
    obtain ⟨rfl, h⟩ := h
    have key : ∀ l : List (Nat × Int32), l.any (fun q => Nat.beq q.1 k) = false → asI l k = 0 := by
      intro l
      induction l with
      | nil => intro _; rfl
      | cons q r ih =>
        intro h
        simp only [List.any_cons, Bool.or_eq_false_iff] at h
        show (if k = q.1 then q.2 else asI r k) = 0
        rw [if_neg (fun e => by rw [← e] at h; simp at h), ih h.2]
    funext j
    unfold upd
    split
    · rename_i e; rw [e, key oi h]
    · rfl
  · funext j
    rfl
theorem inb_ok {i : Int32} {n : Nat} (h : inb i n = true) : vp_in i n := by
  simp only [inb, Bool.and_eq_true, Bool.not_eq_true', decide_eq_false_iff_not] at h
  intro q
  have := blt_of h.2
  rcases q with q | q
  · exact h.1 q
  · omega
section
variable {M : MI} {Z : State → Prop} {p : Program} {l : Launch} {e : Env} {R : Room} {s : State} {m : MethodId} {args : Array Value} {below : List Frame} {meth : Method} {cc : Code} {ad : Nat → Nat} {cA : Nat → ClassId} {D : va_G} {A : Nat → Prop} {B : Nat}
def BAt (M : MI) (Z : State → Prop) (p : Program) (l : Launch) (e : Env) (R : Room) (s : State) (m : MethodId) (args : Array Value) (below : List Frame) (meth : Method) (cc : Code) (ad : Nat → Nat) (cA : Nat → ClassId) (D : va_G) (A : Nat → Prop) (B : Nat) (pc c : Nat) (ls : Lc) (st : List Value) (w : BW) : Prop :=
  ∀ (H : Heap) (locs : List Loc) (cells slots : Nat) (lsA : Array Slot), BH ad cA D A B s.heap w H locs → lv_has lsA M.nl (tl ad ls) → cells ≤ c → slots ≤ 6 * c → c ≤ M.cap → W p l e R s m args below meth cc H locs cells slots Z (F0 m pc lsA (st.map (tr ad)))
set_option maxHeartbeats 2000000 in
theorem bst1_ok (hC : BCx M p R s m args meth cc ad cA D A B) {pc c len : Nat} {ls : Lc} {st : List Value} {w : BW} {i : Instr} {ax : List Nat} {pc' c' : Nat} {ls' : Lc} {st' : List Value} {w' : BW} (hd : decode M.b pc = .ok (i, len)) (hok : okB1 M pc i len ax = true)
    (hs : bst1 M pc c ls st w i ax = some (pc', c', ls', st', w')) (hk : BAt M Z p l e R s m args below meth cc ad cA D A B pc' c' ls' st' w') : BAt M Z p l e R s m args below meth cc ad cA D A B pc c ls st w := by
  have hC0 := hC
  obtain ⟨⟨hx, hb, hml, hown, hts⟩, hK, hA, hBs, hAO, hroom, hin, hB⟩ := hC
  intro H locs cells slots lsA hW hl h1 h2 h3
  unfold bst1 at hs
  split at hs
  · -- aload_n
    split at hs
    · rename_i x hg
      cases hs
      obtain rfl := beq_of hok
      exact lv_aload_n hx hb hd rfl (tl_get hl hg) (hk H locs cells slots lsA hW hl h1 h2 h3)
    · cases hs
  · -- iload_n
    split at hs
    · rename_i x hg
      cases hs
      obtain rfl := beq_of hok
      exact lv_iload_n hx hb hd rfl (tl_get hl hg) (hk H locs cells slots lsA hW hl h1 h2 h3)
    · cases hs
  · -- iconst
    cases hs
    obtain rfl := beq_of hok
    exact lv_iconst hx hb hd (cI_ofInt _) (hk H locs cells slots lsA hW hl h1 h2 h3)
  · -- bipush
    cases hs
    simp only [okB1, Bool.and_eq_true, decide_eq_true_eq] at hok
    obtain rfl := beq_of hok.1
    exact lv_bipush hx hb hd hok.2 (hk H locs cells slots lsA hW hl h1 h2 h3)
  · -- sipush
    cases hs
    simp only [okB1, Bool.and_eq_true, decide_eq_true_eq] at hok
    obtain rfl := beq_of hok.1
    exact lv_sipush hx hb hd hok.2 (hk H locs cells slots lsA hW hl h1 h2 h3)
  · -- lconst
    cases hs
    obtain rfl := beq_of hok
    exact lv_lconst hx hb hd rfl (hk H locs cells slots lsA hW hl h1 h2 h3)
  · -- dup
    split at hs
    · cases hs
      obtain rfl := beq_of hok
      exact lv_dup hx hb hd rfl (hk H locs cells slots lsA hW hl h1 h2 h3)
    · cases hs
  · -- istore_n
    split at hs
    · rename_i x r hn
      cases hs
      obtain rfl := beq_of hok
      exact lv_istore_n hx hb hd rfl hl (blt_of hn) rfl (fun ls' hl' => hk H locs cells slots ls' hW (lv_mono hl' tl_put1) h1 h2 h3)
    · cases hs
  · -- istore
    split at hs
    · rename_i x r hn
      cases hs
      obtain rfl := beq_of hok
      exact lv_istore hx hb hd hl (blt_of hn) rfl (fun ls' hl' => hk H locs cells slots ls' hW (lv_mono hl' tl_put1) h1 h2 h3)
    · cases hs
  · -- astore_n
    split at hs
    · rename_i x r hn
      cases hs
      obtain rfl := beq_of hok
      exact lv_astore_n hx hb hd rfl hl (blt_of hn) rfl (fun ls' hl' => hk H locs cells slots ls' hW (lv_mono hl' tl_put1) h1 h2 h3)
    · cases hs
  · -- astore
    split at hs
    · rename_i x r hn
      cases hs
      obtain rfl := beq_of hok
      exact lv_astore hx hb hd hl (blt_of hn) rfl (fun ls' hl' => hk H locs cells slots ls' hW (lv_mono hl' tl_put1) h1 h2 h3)
    · cases hs
  · -- iinc
    split at hs
    · rename_i x hg hn
      cases hs
      obtain rfl := beq_of hok
      obtain ⟨k9, hk9⟩ := List.getElem?_of_mem (tl_mem (ad := ad) (ls := ls) (q := (_, Value.int x)) |>.mpr ⟨.int x, hg, rfl⟩)
      exact lv_iinc (v := x + cI _) hx hb hd hl hk9 (by rw [cI_ofInt]) (blt_of hn) rfl (fun ls' hl' => hk H locs cells slots ls' hW (lv_mono hl' tl_put1) h1 h2 h3)
    · cases hs
  · -- goto
    split at hs
    · rename_i t
      cases hs
      simp only [okB1, Bool.and_eq_true, decide_eq_true_eq] at hok
      obtain rfl := beq_of hok.1
      exact lv_goto hx hb hd hok.2 (hk H locs cells slots lsA hW hl h1 h2 h3)
    · cases hs
  · -- if_icmp
    split at hs
    · rename_i t y x r
      simp only [okB1, Bool.and_eq_true, decide_eq_true_eq] at hok
      obtain rfl := beq_of hok.1
      refine lv_icmp_ge hx hb hd hok.2 (fun q => ?_) (fun q => ?_)
      · rw [decide_eq_true q] at hs
        cases hs
        exact hk H locs cells slots lsA hW hl h1 h2 h3
      · rw [decide_eq_false q] at hs
        cases hs
        exact hk H locs cells slots lsA hW hl h1 h2 h3
    · cases hs
  · -- new
    split at hs
    · rename_i ci p1 p2 p3
      split at hs
      · rename_i hcd
        cases hs
        simp only [okB1, Bool.and_eq_true] at hok
        obtain ⟨hlen, hok⟩ := hok
        obtain rfl := beq_of hlen
        split at hok
        · rename_i C T N hc
          simp only [Bool.and_eq_true] at hok hcd
          obtain ⟨hN, w1, w2, w3⟩ := hok
          have hN := Nat.eq_of_beq_eq_true hN
          have hcap := Nat.le_of_ble_eq_true hcd.2
          rw [← hN] at hcap hk
          exact b_new hC0 hW hc w1 w2 w3 (blt_of hcd.1) h1 h2 hcap hd (fun H1 cells slots hW1 g1 g2 => hk H1 locs cells slots lsA hW1 hl g1 g2 hcap)
        · cases hok
      · cases hs
    · cases hs
  · -- newarray
    split at hs
    · rename_i t p1 n r
      split at hs
      · rename_i hcd
        cases hs
        simp only [okB1, Bool.and_eq_true, decide_eq_true_eq] at hok
        obtain ⟨hlen, ht, hty, w1⟩ := hok
        obtain rfl := beq_of hlen
        simp only [Bool.and_eq_true, Bool.not_eq_true', decide_eq_false_iff_not] at hcd
        obtain ⟨⟨hn, hn2⟩, hl9, hcap⟩ := hcd
        have hcap := Nat.le_of_ble_eq_true hcap
        exact b_newa hC0 hW ⟨blt_of ht, hty⟩ w1 hn (Nat.le_of_ble_eq_true hn2) (blt_of hl9) h1 h2 hcap hd (fun H1 cells slots hW1 g1 g2 => hk H1 locs cells slots lsA hW1 hl g1 g2 hcap)
      · cases hs
    · cases hs
  · -- anewarray
    split at hs
    · rename_i t p1 n r
      split at hs
      · rename_i hcd
        cases hs
        simp only [okB1, Bool.and_eq_true] at hok
        obtain ⟨hlen, hok⟩ := hok
        obtain rfl := beq_of hlen
        simp only [Bool.and_eq_true, Bool.not_eq_true', decide_eq_false_iff_not] at hcd
        obtain ⟨⟨hn, hn2⟩, hl9, hcap⟩ := hcd
        have hcap := Nat.le_of_ble_eq_true hcap
        split at hok
        · rename_i hq
          cases hq
          exact b_newq hC0 hW (Or.inl ⟨rfl, rfl⟩) hok hn (Nat.le_of_ble_eq_true hn2) (blt_of hl9) h1 h2 hcap hd (fun H1 cells slots hW1 g1 g2 => hk H1 locs cells slots lsA hW1 hl g1 g2 hcap)
        · rename_i hq
          cases hq
          exact b_newq hC0 hW (Or.inr ⟨rfl, rfl⟩) hok hn (Nat.le_of_ble_eq_true hn2) (blt_of hl9) h1 h2 hcap hd (fun H1 cells slots hW1 g1 g2 => hk H1 locs cells slots lsA hW1 hl g1 g2 hcap)
        · cases hok
      · cases hs
    · cases hs
  · -- putfield
    split at hs
    · rename_i ci j so q v a r
      split at hs
      · rename_i ci' fs ha
        split at hs
        · rename_i hcd
          cases hs
          simp only [okB1, Bool.and_eq_true] at hok
          obtain ⟨hlen, hok⟩ := hok
          obtain rfl := beq_of hlen
          simp only [Bool.and_eq_true] at hcd
          obtain ⟨hci, hj, hv⟩ := hcd
          rw [Nat.eq_of_beq_eq_true hci] at ha
          exact b_put hC0 hW hok ha (blt_of hj) hv hd (fun H1 locs1 hW1 => hk H1 locs1 cells slots lsA hW1 hl h1 h2 h3)
        · cases hs
      · cases hs
    · cases hs
  · -- getfield
    split at hs
    · rename_i ci j q a r
      split at hs
      · rename_i ci' fs ha
        split at hs
        · rename_i v hci hv
          cases hs
          simp only [okB1, Bool.and_eq_true] at hok
          obtain ⟨hlen, hok⟩ := hok
          obtain rfl := beq_of hlen
          rw [Nat.eq_of_beq_eq_true hci] at ha
          exact b_get hC0 hW hok ha hv hd (hk H locs cells slots lsA hW hl h1 h2 h3)
        · cases hs
      · cases hs
    · cases hs
  · -- iastore
    split at hs
    · rename_i x i a r
      split at hs
      · rename_i n oi orf ha
        split at hs
        · rename_i hcd
          cases hs
          obtain rfl := beq_of hok
          exact b_iast hC0 hW ha (inb_ok hcd) stI_ok hd (fun H1 locs1 hW1 => hk H1 locs1 cells slots lsA hW1 hl h1 h2 h3)
        · cases hs
      · cases hs
    · cases hs
  · -- aastore
    split at hs
    · rename_i b i a r
      split at hs
      · rename_i n oi orf fs ha hb9
        split at hs
        · rename_i hcd
          cases hs
          obtain rfl := beq_of hok
          exact b_aast hC0 hW ha (inb_ok hcd) hb9 hd (fun H1 locs1 hW1 => hk H1 locs1 cells slots lsA hW1 hl h1 h2 h3)
        · cases hs
      · cases hs
    · cases hs
  · -- arraylength
    split at hs
    · rename_i a r
      split at hs
      · rename_i t n oi orf ha
        split at hs
        · rename_i hcd
          cases hs
          obtain rfl := beq_of hok
          exact b_alen hC0 hW (blt_of hcd) ha hd (hk H locs cells slots lsA hW hl h1 h2 h3)
        · cases hs
      · cases hs
    · cases hs
  · -- invokespecial of Object
    split at hs
    · rename_i q a r
      split at hs
      · rename_i hcd
        cases hs
        simp only [okB1, Bool.and_eq_true] at hok
        obtain ⟨hlen, w1, hf9, hlo⟩ := hok
        obtain rfl := beq_of hlen
        have h8 := Nat.le_of_ble_eq_true hcd
        have hlo := Nat.le_of_ble_eq_true hlo
        have hf9 := Nat.le_of_ble_eq_true hf9
        refine W.objInit (rest := st'.map (tr ad)) hx hb hown (hts _ (tbG_at w1)) (hts _ (tbG_at (p := 44) (by decide +kernel))) (hts _ (tbG_at (p := 45) (by decide +kernel))) rfl (by rw [hml]; exact hl.1) rfl hd (by omega) ?_ (hk H locs cells slots lsA hW hl h1 h2 h3)
        rw [cat_tr]
        show 2 * 0 + _ + 12 ≤ R.locals
        omega
      · cases hs
    · cases hs
  · cases hs
end
