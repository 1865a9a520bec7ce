/-! ===== a statement of a cluster's text: what it does, and the class's reading of it ===== -/
section
variable {q : Nat → PH → Prop} {kk kj : Int32 → PH → Prop} {kl : Int64 → PH → Prop} {kv : PH → Prop} {h h' : PH} {s t : RW} {C E L : Nat} {a b n m p v w : Nat} {f g : FI} {nm : Nat → Int64} {c : Nat → Nat} {td : Nat → Bool}
/-- an error and its place, or the cluster, its names, the settings told, the place after -/
abbrev Rs : Type := Sum (Nat × Nat) (RW × (Nat → Int64) × (Nat → Bool) × Nat)
def aNum (c : Nat → Nat) (n lo hi p : Nat) (K : Nat → Nat → Rs) : Rs := if tK c n p = 2 then (if lo ≤ tV c n p ∧ tV c n p ≤ hi then K (tV c n p) (tE c n p) else .inl (2, tS c n p)) else .inl (1, tS c n p)
def aNew (c : Nat → Nat) (n : Nat) (nm : Nat → Int64) (o m p : Nat) (K : Nat → Rs) : Rs := if tK c n p = 1 then (if fndT c n nm o m p = 0 then K (tE c n p) else .inl (3, tS c n p)) else .inl (1, tS c n p)
def aFnd (c : Nat → Nat) (n : Nat) (nm : Nat → Int64) (o m p : Nat) (K : Nat → Rs) : Rs := if tK c n p = 1 then (if fndT c n nm o m p = 0 then .inl (3, tS c n p) else K (fndT c n nm o m p - 1)) else .inl (1, tS c n p)
def aVer (c : Nat → Nat) (n : Nat) (s : RW) (nm : Nat → Int64) (td : Nat → Bool) (p : Nat) : Rs :=
  aNew c n nm 0 (nn (s 0)) p fun p1 => aNum c n 1 9 p1 fun lo p2 => aNum c n lo 9 p2 fun hi p3 => .inr (verS s (nI lo) (nI hi), upn nm (nn (s 0)) (lN (tM c n p)), td, p3)
def aTal (c : Nat → Nat) (n : Nat) (s : RW) (nm : Nat → Int64) (td : Nat → Bool) (p : Nat) : Rs :=
  aFnd c n nm 0 (nn (s 0)) p fun a => aFnd c n nm 0 (nn (s 0)) (tE c n p) fun b =>
    if b = a then .inl (3, tS c n (tE c n p)) else if tlk s a b = true then .inl (4, tS c n (tE c n p)) else .inr (talS s a b, nm, td, tE c n (tE c n p))
def aPla (c : Nat → Nat) (n : Nat) (s : RW) (nm : Nat → Int64) (td : Nat → Bool) (p : Nat) : Rs :=
  aNew c n nm 8 (nn (s 1)) p fun p1 => .inr (plaS s, upn nm (8 + nn (s 1)) (lN (tM c n p)), td, p1)
def aMem (c : Nat → Nat) (n : Nat) (s : RW) (nm : Nat → Int64) (td : Nat → Bool) (p : Nat) : Rs :=
  aNew c n nm 13 (nn (s 2)) p fun p1 => aFnd c n nm 8 (nn (s 1)) p1 fun a => aFnd c n nm 0 (nn (s 0)) (tE c n p1) fun v =>
    if joN s a v = true then (if kwB c n (tE c n (tE c n p1)) 22 = true then .inr (memS s a v true, upn nm (13 + nn (s 2)) (lN (tM c n p)), td, tE c n (tE c n (tE c n p1))) else .inr (memS s a v false, upn nm (13 + nn (s 2)) (lN (tM c n p)), td, tE c n (tE c n p1)))
    else .inl (5, tS c n (tE c n p1))
def aLnk (c : Nat → Nat) (n : Nat) (s : RW) (nm : Nat → Int64) (td : Nat → Bool) (p : Nat) : Rs :=
  aFnd c n nm 13 (nn (s 2)) p fun a => aFnd c n nm 13 (nn (s 2)) (tE c n p) fun b =>
    if mf s a 0 = mf s b 0 then .inl (3, tS c n (tE c n p)) else if par s a b = true then .inl (4, tS c n (tE c n p)) else if tlk s (vN s a) (vN s b) = true then .inr (lnkS s a b, nm, td, tE c n (tE c n p)) else .inl (5, tS c n (tE c n p))
def aPls (c : Nat → Nat) (n : Nat) (nm : Nat → Int64) (td : Nat → Bool) (w : Nat) : Nat → RW → Nat → Rs
  | 0, s, p => .inr (s, nm, td, p)
  | k + 1, s, p => aFnd c n nm 8 (nn (s 1)) p fun a => if s (44 + a) = -1 then (if tK c n (tE c n p) = 1 then aPls c n nm td w k (wpS s a w) (tE c n p) else .inr (wpS s a w, nm, td, tE c n p)) else .inl (4, tS c n p)
def aWav (c : Nat → Nat) (n : Nat) (s : RW) (nm : Nat → Int64) (td : Nat → Bool) (p : Nat) : Rs := aPls c n nm td (nn (s 3)) 6 (wvS s) p
def updB (td : Nat → Bool) (w : Nat) : Nat → Bool := fun j => td j || decide (j = w)
/-- the least and the most of a setting -/
def sLo (w : Nat) : Nat := [1, 0, 1, 1, 0, 0].getD (w - 5) 0
def sHi (w : Nat) : Nat := [9, 7, 12, 99, 99, 999].getD (w - 5) 0
def aSet (c : Nat → Nat) (n : Nat) (s : RW) (nm : Nat → Int64) (td : Nat → Bool) (w p : Nat) : Rs := aNum c n (sLo w) (sHi w) p fun x p1 => .inr (ups s w (nI x), nm, updB td w, p1)
/-- what is wrong already at the first word, or 0 -/
def eFst (s : RW) (td : Nat → Bool) (i : Nat) : Nat :=
  if i = 0 then (if nn (s 0) < 8 then 0 else 6) else if i = 1 then 0 else if i = 2 then (if nn (s 1) < 5 then 0 else 6) else if i = 3 then (if nn (s 2) < 12 then 0 else 6)
  else if i = 4 then (if nn (s 4) < 20 then 0 else 6) else if i = 5 then (if nn (s 3) < 5 then 0 else 6) else if td (i - 1) = true then 4 else if i < 8 then (if nn (s 2) = 0 then 0 else 4) else 0
def aRst (c : Nat → Nat) (n : Nat) (s : RW) (nm : Nat → Int64) (td : Nat → Bool) (i p : Nat) : Rs :=
  if i = 0 then aVer c n s nm td p else if i = 1 then aTal c n s nm td p else if i = 2 then aPla c n s nm td p else if i = 3 then aMem c n s nm td p
  else if i = 4 then aLnk c n s nm td p else if i = 5 then aWav c n s nm td p else aSet c n s nm td (i - 1) p
def aSgn (c : Nat → Nat) (n : Nat) (r : Rs) : Rs := match r with
  | .inl e => .inl e
  | .inr (s, nm, td, p) => if tK c n p = 3 then .inr (s, nm, td, tE c n p) else .inl (1, tS c n p)
def aStm (c : Nat → Nat) (n : Nat) (s : RW) (nm : Nat → Int64) (td : Nat → Bool) (p : Nat) : Rs := match fst1 12 (kwB c n p) with
  | 0 => .inl (1, tS c n p)
  | i + 1 => if eFst s td i = 0 then aSgn c n (aRst c n s nm td i (tE c n p)) else .inl (eFst s td i, tS c n p)
def aAll (c : Nat → Nat) (n : Nat) : Nat → RW → (Nat → Int64) → (Nat → Bool) → Nat → Rs
  | 0, s, nm, td, p => .inr (s, nm, td, p)
  | k + 1, s, nm, td, p => if tK c n p = 0 then .inr (s, nm, td, p) else match aStm c n s nm td p with
    | .inl e => .inl e
    | .inr (s', nm', td', p') => aAll c n k s' nm' td' p'
/-! the class's state while it reads -/
def WS2 (b k : Nat) : Prop := WD b k ∨ WB b k ∨ (b = 4 ∧ k = 3)
def VS2 (b : Nat) : Prop := VD b ∨ VA b
theorem F2b (x : Fz WB VA h h') : Fz WS2 VS2 h h' := x.mono (fun _ _ y => Or.inr (Or.inl y)) (fun _ y => Or.inr y)
theorem F2d (x : Fz WD VD h h') : Fz WS2 VS2 h h' := x.mono (fun _ _ y => Or.inl y) (fun _ y => Or.inl y)
def CS (c : Nat → Nat) (n : Nat) (s : RW) (nm : Nat → Int64) (td : Nat → Bool) (p : Nat) (h : PH) : Prop := PR s ∧ DR nm s h ∧ CB c n h ∧ CT c n p h ∧ p ≤ n ∧ gi h 4 3 = mk 6 (fun i => td (i + 5)) ∧ gi h 1 2 = nI 0 ∧ gi h 1 3 = -(nI 1)
theorem CS.P (S : CS c n s nm td p h) : PR s := S.1
theorem CS.D (S : CS c n s nm td p h) : DR nm s h := S.2.1
theorem CS.B (S : CS c n s nm td p h) : CB c n h := S.2.2.1
theorem CS.T (S : CS c n s nm td p h) : CT c n p h := S.2.2.2.1
theorem CS.pn (S : CS c n s nm td p h) : p ≤ n := S.2.2.2.2.1
theorem CS.tl (S : CS c n s nm td p h) : gi h 4 3 = mk 6 (fun i => td (i + 5)) := S.2.2.2.2.2.1
theorem CS.e2 (S : CS c n s nm td p h) : gi h 1 2 = nI 0 := S.2.2.2.2.2.2.1
theorem CS.e3 (S : CS c n s nm td p h) : gi h 1 3 = -(nI 1) := S.2.2.2.2.2.2.2
theorem CS.ad {p' : Nat} (S : CS c n s nm td p h) (x : Fz WA VA h h') (T : CT c n p' h') (hp : p' ≤ n) : CS c n s nm td p' h' :=
  ⟨S.P, S.D.fb (FA_B x), S.B.fb (FA_B x), T, hp, (x.1 4 3 (by unfold WA; omega)).trans S.tl, (x.1 1 2 (by unfold WA; omega)).trans S.e2, (x.1 1 3 (by unfold WA; omega)).trans S.e3⟩
theorem CS.dr {nm' : Nat → Int64} (S : CS c n s nm td p h) (x : Fz WD VD h h') (P : PR t) (D : DR nm' t h') : CS c n t nm' td p h' :=
  ⟨P, D, S.B.fd x, S.T.fd x, S.pn, (x.1 4 3 (by unfold WD; omega)).trans S.tl, (x.1 1 2 (by unfold WD; omega)).trans S.e2, (x.1 1 3 (by unfold WD; omega)).trans S.e3⟩
/-- what a reader of the class gives back -/
def Kr (c : Nat → Nat) (n : Nat) (h : PH) (kk : Int32 → PH → Prop) (r : Rs) : Prop :=
  (∀ e pl, r = .inl (e, pl) → ∀ h', Fz WS2 VS2 h h' → ER (nI e) pl h' → kk (nI 0) h') ∧
  (∀ s nm td p, r = .inr (s, nm, td, p) → ∀ h', Fz WS2 VS2 h h' → CS c n s nm td p h' → kk (nI 1) h')
theorem Kr.fz {r : Rs} (x : Fz WS2 VS2 h h') (K : Kr c n h kk r) : Kr c n h' kk r := ⟨fun e pl er h2 y => K.1 e pl er h2 (x.trans y), fun s nm td p er h2 y => K.2 s nm td p er h2 (x.trans y)⟩
theorem Kr.er {e pl : Nat} (K : Kr c n h kk (.inl (e, pl))) (x : Fz WS2 VS2 h h') (y : ER (nI e) pl h') : kk (nI 0) h' := K.1 e pl rfl h' x y
theorem Kr.ok (K : Kr c n h kk (.inr (s, nm, td, p))) (S : CS c n s nm td p h) : kk (nI 1) h := K.2 s nm td p rfl h (Fz.refl _ _ _) S
theorem a_num {lo hi : Nat} {F : Nat → Nat → Rs} (hlo : lo < 2000) (hhi : hi < 2000) (S : CS c n s nm td p h) (K : Kr c n h kk (aNum c n lo hi p F)) (E0 : ∀ h', kk (nI 0) h' → kj (-(nI 1)) h')
    (E1 : ∀ x p' h', x < 1000 → lo ≤ x → x ≤ hi → CS c n s nm td p' h' → Kr c n h' kk (F x p') → kj (nI x) h') : MetPM m_X10_takeNumber [.ref 1, .int (nI lo), .int (nI hi)] h (rI q kj) := by
  unfold aNum at K
  refine c_takeNumber hlo hhi S.pn S.B S.T (fun d h1 x1 y1 => ?_) (fun d d2 h1 x1 y1 => ?_) (fun d d2 h1 x1 T1 => ?_)
  · rw [if_neg d] at K
    exact E0 _ (K.er (F2b x1) y1)
  · rw [if_pos d, if_neg d2] at K
    exact E0 _ (K.er (F2b x1) y1)
  · rw [if_pos d, if_pos d2] at K
    exact E1 _ _ _ (tV_lt S.pn d) d2.1 d2.2 (S.ad x1 T1 (tE_le S.pn).2) (K.fz (F2b (FA_B x1)))
theorem lN0 {x y : Int64} (N : NmE x y) : ¬ lg_cmp x (lN 0) = 0 := by
  obtain ⟨d, p, k, h1, h2, h3, h4, h5⟩ := N
  intro z
  rw [lgc_0, h4, pk_lEQ (w8_63 h2 h3) (by omega)] at z
  have b2 : 0 < w8 d p k := by
    obtain ⟨k', rfl⟩ : ∃ k', k = k' + 1 := ⟨k - 1, by omega⟩
    have := leC_t (h3 k' (by omega))
    unfold w8
    omega
  omega
/-- the names of one of the draft's tables -/
def TB (nm : Nat → Int64) (s : RW) (b0 mx o m : Nat) : Prop := (b0 = 31 ∧ mx = 8 ∧ o = 0 ∧ m = nn (s 0)) ∨ (b0 = 36 ∧ mx = 5 ∧ o = 8 ∧ m = nn (s 1)) ∨ (b0 = 41 ∧ mx = 12 ∧ o = 13 ∧ m = nn (s 2))
theorem TB.ok {b0 mx o : Nat} (B : TB nm s b0 mx o m) (P : PR s) (D : DR nm s h) : NB b0 mx ∧ gi h b0 1 = nI m ∧ m ≤ mx ∧ (b0 = 31 ∨ b0 = 36 ∨ b0 = 41) ∧ ∀ i, i < m → NmE (gl h (b0 + 1) i) (nm (o + i)) := by
  rcases B with ⟨rfl, rfl, rfl, rfl⟩ | ⟨rfl, rfl, rfl, rfl⟩ | ⟨rfl, rfl, rfl, rfl⟩
  · exact ⟨Or.inr (Or.inr (Or.inl ⟨rfl, rfl⟩)), D.1.nv.trans P.v.1.1, P.v.1.2, Or.inl rfl, fun i hi => by rw [Nat.zero_add]; exact D.2.2.1 i hi⟩
  · exact ⟨Or.inr (Or.inr (Or.inr (Or.inl ⟨rfl, rfl⟩))), D.1.np.trans P.x.1.1, P.x.1.2, Or.inr (Or.inl rfl), fun i hi => D.2.2.2.1 i hi⟩
  · exact ⟨Or.inr (Or.inr (Or.inr (Or.inr ⟨rfl, rfl⟩))), D.1.nm.trans P.x.2.1.1, P.x.2.1.2, Or.inr (Or.inr rfl), fun i hi => D.2.2.2.2 i hi⟩
theorem a_new {b0 mx o : Nat} {F : Nat → Rs} (B : TB nm s b0 mx o m) (S : CS c n s nm td p h) (K : Kr c n h kk (aNew c n nm o m p F)) (E0 : ∀ x h', lg_cmp x (lN 0) = 0 → kk (nI 0) h' → kl x h')
    (E1 : ∀ x p' h', ¬ lg_cmp x (lN 0) = 0 → NmE x (lN (tM c n p)) → CS c n s nm td p' h' → Kr c n h' kk (F p') → kl x h') : MetPM m_X10_takeNewName [.ref 1, .ref b0] h (rL q kl) := by
  unfold aNew at K
  obtain ⟨b1, b2, b3, b4, b5⟩ := B.ok S.P S.D
  refine c_takeNewName b1 b4 S.pn S.B S.T b2 b3 b5 (fun d h1 x1 y1 => ?_) (fun d d2 h1 x1 y1 => ?_) (fun d d2 h1 x1 T1 => ?_)
  · rw [if_neg d] at K
    exact E0 _ _ (lgc_0.mpr rfl) (K.er (F2b x1) y1)
  · rw [if_pos d, if_neg d2] at K
    exact E0 _ _ (lgc_0.mpr rfl) (K.er (F2b x1) y1)
  · rw [if_pos d, if_pos d2] at K
    have N := tok_E S.pn d
    exact E1 _ _ _ (lN0 N) N (S.ad x1 T1 (tE_le S.pn).2) (K.fz (F2b (FA_B x1)))
theorem a_fnd {b0 mx o : Nat} {F : Nat → Rs} (B : TB nm s b0 mx o m) (S : CS c n s nm td p h) (K : Kr c n h kk (aFnd c n nm o m p F)) (E0 : ∀ h', kk (nI 0) h' → kj (-(nI 1)) h')
    (E1 : ∀ a, a < m → tK c n p = 1 → Kr c n h kk (F a) → kj (nI a) h) : MetPM m_X10_findName [.ref 1, .ref b0] h (rI q kj) := by
  unfold aFnd at K
  obtain ⟨b1, b2, b3, b4, b5⟩ := B.ok S.P S.D
  refine c_findName b1 S.pn S.T b2 b3 b5 (fun d h1 x1 y1 => ?_) (fun d d2 h1 x1 y1 => ?_) (fun j d d2 hj => ?_)
  · rw [if_neg d] at K
    exact E0 _ (K.er (F2b x1) y1)
  · rw [if_pos d, if_pos d2] at K
    exact E0 _ (K.er (F2b x1) y1)
  · rw [if_pos d, d2, if_neg (by omega), Nat.add_sub_cancel] at K
    exact E1 _ hj d K
theorem a_next (S : CS c n s nm td p h) (K : ∀ h', Fz WS2 VS2 h h' → CS c n s nm td (tE c n p) h' → kv h') : MetPM m_X10_advance [.ref 1] h (rV q kv) :=
  c_next S.pn S.B S.T (fun h1 x1 T1 => K h1 (F2b (FA_B x1)) (S.ad x1 T1 (tE_le S.pn).2))
theorem a_fail {e : Nat} (S : CS c n s nm td p h) (K : Kr c n h kk (.inl (e, tS c n p))) : MetPM m_X10_fail [.ref 1, .int (nI e)] h (rI q (fun x h' => isB x ∧ kk x h')) :=
  c_fail S.T (fun h1 x1 y1 => ⟨isB_0, K.er (F2b x1) y1⟩)
end

