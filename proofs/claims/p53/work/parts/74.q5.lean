/-! ===== the law's own cells: reads, writes, new ones ===== -/
/-- only the number n may differ -/
def Oth (n : Nat) (h h' : PH) : Prop := ∀ a, a ≠ n → h'.1 a = h.1 a ∧ h'.2.1 a = h.2.1 a ∧ h'.2.2.1 a = h.2.2.1 a ∧ h'.2.2.2 a = h.2.2.2 a
theorem Oth.si (h : PH) (n k : Nat) (x : Int32) : Oth n h (si h n k x) := fun _ e => ⟨up2_a _ _ _ e, rfl, rfl, rfl⟩
theorem Oth.sr (h : PH) (n k : Nat) (x : Option Nat) : Oth n h (sr h n k x) := fun _ e => ⟨rfl, rfl, up2_a _ _ _ e, rfl⟩
theorem Oth.cpi (h : PH) (a sp n dp m : Nat) : Oth n h (cpi h a sp n dp m) := fun _ e => ⟨if_neg e, rfl, rfl, rfl⟩
/-- n refs of the array a from place sp on, copied to the array b at place dp -/
def cpr (h : PH) (a sp b dp n : Nat) : PH := (h.1, h.2.1, fun c => if c = b then va_cpy (h.2.2.1 a) (h.2.2.1 b) sp dp n else h.2.2.1 c, h.2.2.2)
theorem Oth.cpr (h : PH) (a sp n dp m : Nat) : Oth n h (cpr h a sp n dp m) := fun _ e => ⟨rfl, rfl, if_neg e, rfl⟩
/-- a new cell: its kind, its length; all else is 0 and null -/
def nw (h : PH) (q kd n : Nat) : PH := (fun a => if a = q then fun _ => 0 else h.1 a, fun a => if a = q then fun _ => 0 else h.2.1 a, fun a => if a = q then fun _ => none else h.2.2.1 a, fun a => if a = q then (fun j => if j = 0 then kd else n) else h.2.2.2 a)
theorem Oth.nw (h : PH) (q kd n : Nat) : Oth q h (nw h q kd n) := fun _ e => ⟨if_neg e, if_neg e, if_neg e, if_neg e⟩
theorem Oth.lw {n : Nat} {h h' : PH} (hn : 2000 ≤ n) (o : Oth n h h') : Lw h h' := fun a ha => o a (by omega)
theorem Oth.kd {n m : Nat} {h h' : PH} (o : Oth n h h') (e : m ≠ n) : qkd h' m = qkd h m := by unfold qkd; rw [(o m e).2.2.2]
theorem qkd_hi {h : PH} {n : Nat} (hn : 1000 ≤ n) : qkd h n = h.2.2.2 n 0 := by
  unfold qkd
  have : Nat.blt n 1000 = false := by
    cases e : Nat.blt n 1000
    · rfl
    · have := Nat.blt_eq.mp e; omega
  rw [this]
theorem qkd_nw {h : PH} {q kd n : Nat} (hq : 1000 ≤ q) : qkd (nw h q kd n) q = kd := by
  rw [qkd_hi hq]; unfold nw; simp
theorem qln_nw {h : PH} {q kd n : Nat} : qln (nw h q kd n) q = n := by
  unfold qln nw; simp
theorem celQ_eq {ad : Nat → Nat} {cA : Nat → ClassId} {h h' : PH} {n : Nat} (e : h'.1 n = h.1 n ∧ h'.2.1 n = h.2.1 n ∧ h'.2.2.1 n = h.2.2.1 n ∧ h'.2.2.2 n = h.2.2.2 n) : celQ ad cA h' n = celQ ad cA h n := by
  obtain ⟨e1, e2, e3, e4⟩ := e
  have k0 : qkd h' n = qkd h n := by unfold qkd; rw [e4]
  have k1 : qln h' n = qln h n := by unfold qln; rw [e4]
  have f : ∀ so j, fvq ad h' n so j = fvq ad h n so j := by
    intro so j; unfold fvq gi gl gr; rw [e1, e2, e3]
  have g : ∀ t, aeq ad h' n t = aeq ad h n t := by
    intro t; unfold aeq; rw [e1, e3]
  unfold celQ fvqs
  simp only [k0, k1, f, g]
theorem celQ_ob {ad : Nat → Nat} {cA : Nat → ClassId} {h : PH} {n ci : Nat} (h1 : ci ≤ 23) (e : qkd h n + 8 = ci) : celQ ad cA h n = .inr (ci, fvqs ad h n ci) := by
  have : Nat.blt (qkd h n) 16 = true := Nat.blt_eq.mpr (by omega)
  unfold celQ
  rw [this, e]
theorem celQ_ar {ad : Nat → Nat} {cA : Nat → ClassId} {h : PH} {n t : Nat} (e : qkd h n = 16 + t) : celQ ad cA h n = .inl (cA t, qln h n, aeq ad h n t) := by
  have : Nat.blt (qkd h n) 16 = false := by
    cases q : Nat.blt (qkd h n) 16
    · rfl
    · have := Nat.blt_eq.mp q; omega
  unfold celQ
  rw [this, e, Nat.add_sub_cancel_left]
theorem KdOk.own {h : PH} {L : List Nat} {n : Nat} (k : KdOk h L) (h0 : ¬ qkd h n = 0) (h1 : qkd h n < 32) : 2000 ≤ n ∧ dq n ∈ L := by
  rcases k n h0 with ⟨a, b, -⟩ | ⟨-, b⟩
  · exact ⟨a, b⟩
  · omega
theorem KdOk.oth {h h' : PH} {L : List Nat} {n : Nat} (k : KdOk h L) (o : Oth n h h') (e : qkd h' n = qkd h n) : KdOk h' L := by
  intro m hm
  have : qkd h' m = qkd h m := by
    by_cases z : m = n
    · rw [z]; exact e
    · exact o.kd z
  rw [this] at hm ⊢
  exact k m hm
theorem pq_get {X : va_W} {ad : Nat → Nat} {cA : Nat → ClassId} {h : PH} {L : List Nat} {n : Nat} (k : KdOk h L) (h0 : ¬ qkd h n = 0) (h1 : qkd h n < 32) : ∃ i : Nat, (X ++ pq ad cA h L)[i]? = some (dq n, celQ ad cA h n) := by
  obtain ⟨a, b⟩ := k.own h0 h1
  obtain ⟨i, hi⟩ := va_pl_get (X := X) (f := fun a => celQ ad cA h (uq a)) b
  refine ⟨i, ?_⟩
  simp only [uq_dq a] at hi
  exact hi
theorem pq_congr {ad : Nat → Nat} {cA : Nat → ClassId} {h' : PH} {L : List Nat} {f : Nat → va_E} (e : ∀ a ∈ L, f a = celQ ad cA h' (uq a)) : va_pl L f = pq ad cA h' L := by
  unfold pq va_pl
  exact List.map_congr_left fun a ha => by rw [e a ha]
theorem pq_set {A : Nat → Prop} {X : va_W} {ad : Nat → Nat} {cA : Nat → ClassId} {h h' : PH} {L : List Nat} {n i : Nat} {e : va_E} (k : KdOk h L) (h0 : ¬ qkd h n = 0) (h1 : qkd h n < 32) (hD : va_D A (X ++ pq ad cA h L)) (hi : (X ++ pq ad cA h L)[i]? = some (dq n, celQ ad cA h n)) (o : Oth n h h') (he : e = celQ ad cA h' n) : (X ++ pq ad cA h L).set i (dq n, e) = X ++ pq ad cA h' L := by
  obtain ⟨a, b⟩ := k.own h0 h1
  have hi' : (X ++ va_pl L (fun a => celQ ad cA h (uq a)))[i]? = some (dq n, (fun a => celQ ad cA h (uq a)) (dq n)) := by
    simp only [uq_dq a]; exact hi
  have e1 := va_pl_set (e := e) hD b hi'
  refine e1.trans ?_
  have e2 : va_pl L (va_up (fun a => celQ ad cA h (uq a)) (dq n) e) = pq ad cA h' L := by
    refine pq_congr (h' := h') ?_
    intro c _
    by_cases z : c = dq n
    · rw [z, va_up_self, he, uq_dq a]
    · rw [va_up_ne _ _ z]
      refine (celQ_eq (o (uq c) ?_)).symm
      intro w
      apply z
      rw [← w, dq_uq]
  exact congrArg (fun w => X ++ w) e2
theorem pq_push {X : va_W} {ad : Nat → Nat} {cA : Nat → ClassId} {h h' : PH} {L : List Nat} {q : Nat} {e : va_E} (hq : q ∉ L) (o : Oth (uq q) h h') (he : e = celQ ad cA h' (uq q)) : (X ++ pq ad cA h L) ++ [(q, e)] = X ++ pq ad cA h' (L ++ [q]) := by
  have e1 := va_pl_push (f := fun a => celQ ad cA h (uq a)) (e := e) hq
  have e2 : va_pl (L ++ [q]) (va_up (fun a => celQ ad cA h (uq a)) q e) = pq ad cA h' (L ++ [q]) := by
    refine pq_congr (h' := h') ?_
    intro c _
    by_cases z : c = q
    · rw [z, va_up_self, he]
    · rw [va_up_ne _ _ z]
      refine (celQ_eq (o (uq c) ?_)).symm
      intro w
      exact z (uq_inj w)
  rw [List.append_assoc]
  exact congrArg (fun w => X ++ w) (e1.trans e2)
theorem fvqs_len {ad : Nat → Nat} {h : PH} {n ci : Nat} : (fvqs ad h n ci).length = (fsq ci).length := by simp [fvqs]
theorem fvqs_get {ad : Nat → Nat} {h : PH} {n ci j so : Nat} (hj : (fsq ci).getD j 9 = so) (h9 : so ≠ 9) : (fvqs ad h n ci)[j]? = some (fvq ad h n so j) := by
  have hl : j < (fsq ci).length := by
    rcases Nat.lt_or_ge j (fsq ci).length with q | q
    · exact q
    · exfalso; apply h9; rw [← hj]; simp [List.getD_eq_getElem?_getD, List.getElem?_eq_none q]
  unfold fvqs
  rw [List.getElem?_map, List.getElem?_range hl]
  have : (fsq ci).getD j 0 = so := by
    rw [← hj]; simp [List.getD_eq_getElem?_getD, List.getElem?_eq_getElem hl]
  rw [List.getD_eq_getElem?_getD] at this
  simp [this]
theorem fvqs_set {ad : Nat → Nat} {h h' : PH} {n ci j : Nat} {v : Value} (hj : fvq ad h' n ((fsq ci).getD j 0) j = v) (hne : ∀ k so, k ≠ j → fvq ad h' n so k = fvq ad h n so k) : (fvqs ad h n ci).set j v = fvqs ad h' n ci := by
  apply List.ext_getElem?
  intro k
  by_cases hk : k = j
  · subst hk
    by_cases hl : k < (fsq ci).length
    · rw [List.getElem?_set_self (by rw [fvqs_len]; exact hl)]
      unfold fvqs
      rw [List.getElem?_map, List.getElem?_range hl]
      simp only [Option.map_some]
      rw [hj]
    · rw [List.getElem?_eq_none (by rw [List.length_set, fvqs_len]; omega), List.getElem?_eq_none (by rw [fvqs_len]; omega)]
  · rw [List.getElem?_set_ne (Ne.symm hk)]
    by_cases hl : k < (fsq ci).length
    · unfold fvqs
      rw [List.getElem?_map, List.getElem?_map, List.getElem?_range hl]
      simp only [Option.map_some]
      rw [hne k _ hk]
    · rw [List.getElem?_eq_none (by rw [fvqs_len]; omega), List.getElem?_eq_none (by rw [fvqs_len]; omega)]
theorem sd0 {ci j so : Nat} (hj : (fsq ci).getD j 9 = so) (h9 : so ≠ 9) : (fsq ci).getD j 0 = so := by
  rcases Nat.lt_or_ge j (fsq ci).length with q | q
  · rw [← hj]; simp [List.getD_eq_getElem?_getD, List.getElem?_eq_getElem q]
  · exfalso; apply h9; rw [← hj]; simp [List.getD_eq_getElem?_getD, List.getElem?_eq_none q]
theorem qkd_si {h : PH} {a j n : Nat} {x : Int32} : qkd (si h a j x) n = qkd h n := rfl
theorem qkd_sr {h : PH} {a j n : Nat} {x : Option Nat} : qkd (sr h a j x) n = qkd h n := rfl
theorem qln_si {h : PH} {a j n : Nat} {x : Int32} : qln (si h a j x) n = qln h n := rfl
theorem qln_sr {h : PH} {a j n : Nat} {x : Option Nat} : qln (sr h a j x) n = qln h n := rfl
theorem fv_si {ad : Nat → Nat} {h : PH} {n j ci : Nat} {x : Int32} (hj : (fsq ci).getD j 9 = 0) : (fvqs ad h n ci).set j (.int x) = fvqs ad (si h n j x) n ci := by
  refine fvqs_set ?_ (fun k so hk => ?_)
  · rw [sd0 hj (by decide)]
    show Value.int (up2 h.1 n j x n j) = _
    rw [up2_s]
  · unfold fvq gi gl gr si
    simp only
    rw [up2_k _ _ _ hk]
theorem fv_sr {ad : Nat → Nat} {h : PH} {n j ci : Nat} {x : Option Nat} (hj : (fsq ci).getD j 9 = 2) : (fvqs ad h n ci).set j (va_rf (x.map ad)) = fvqs ad (sr h n j x) n ci := by
  refine fvqs_set ?_ (fun k so hk => ?_)
  · rw [sd0 hj (by decide)]
    show va_rf ((up2 h.2.2.1 n j x n j).map ad) = _
    rw [up2_s]
  · unfold fvq gi gl gr sr
    simp only
    rw [up2_k _ _ _ hk]
theorem ae_si {ad : Nat → Nat} {h : PH} {n j t : Nat} {x : Int32} (ht : t = 0 ∨ t = 1 ∨ t = 6) : (Sum.inl (upd (h.1 n) j x) : (Nat → Int32) ⊕ (Nat → Int64) ⊕ (Nat → UInt32) ⊕ (Nat → UInt64) ⊕ (Nat → Option Nat)) = aeq ad (si h n j x) n t := by
  have e : up2 h.1 n j x n = upd (h.1 n) j x := by funext k; simp [up2, upd]
  rcases ht with rfl | rfl | rfl
  all_goals
    show _ = Sum.inl (up2 h.1 n j x n)
    rw [e]
theorem ae_sr {ad : Nat → Nat} {h : PH} {n j : Nat} {v : Nat} : (Sum.inr (.inr (.inr (.inr (va_up (fun k => (h.2.2.1 n k).map ad) j (some (ad v)))))) : (Nat → Int32) ⊕ (Nat → Int64) ⊕ (Nat → UInt32) ⊕ (Nat → UInt64) ⊕ (Nat → Option Nat)) = aeq ad (sr h n j (some v)) n 7 := by
  have e : (fun k => (up2 h.2.2.1 n j (some v) n k).map ad) = va_up (fun k => (h.2.2.1 n k).map ad) j (some (ad v)) := by
    funext k
    simp only [up2, va_up, if_true]
    split <;> rfl
  unfold aeq sr
  simp only
  rw [e]
