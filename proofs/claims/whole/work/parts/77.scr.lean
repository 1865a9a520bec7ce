/-! ===== a script: what reading it comes to; the class's small readers ===== -/
section
variable {q : Nat → PH → Prop} {kk kj : Int32 → PH → Prop} {kl : Int64 → PH → Prop} {kv : PH → Prop} {h h' : PH} {s t g : RW} {C E L : Nat} {a b n m p v w j : Nat} {nm : Nat → Int64} {c : Nat → Nat} {td : Nat → Bool} {J : RW → (Nat → Int64) → (Nat → Bool) → Nat → PH → Prop}
/-- a program as a row: item k at 4k (kind, 10 an end), 4k+1, 4k+2 (arguments), 4k+3 (a repeat's end); 1000 its length, 1001 the repeats that are open, 1002 its commands, 1003 and 1004 where the open ones begin -/
def pK (g : RW) (k : Nat) : Int32 := g (4 * k)
def pX (g : RW) (k : Nat) : Int32 := g (4 * k + 1)
def pY (g : RW) (k : Nat) : Int32 := g (4 * k + 2)
def pE (g : RW) (k : Nat) : Nat := nn (g (4 * k + 3))
def pM (g : RW) : Nat := nn (g 1000)
def pD (g : RW) : Nat := nn (g 1001)
def pC (g : RW) : Nat := nn (g 1002)
def pS (g : RW) (o : Nat) : Nat := nn (g (1003 + o))
def pg0 : RW := fun _ => nI 0
/-- a command more -/
def aPut (g : RW) (j x y : Nat) : RW := fun i =>
  if i = 4 * pM g then nI j else if i = 4 * pM g + 1 then nI x else if i = 4 * pM g + 2 then nI y else if i = 1000 then nI (pM g + 1) else if i = 1001 then nI (if j = 9 then pD g + 1 else pD g) else if i = 1002 then nI (pC g + 1)
  else if j = 9 ∧ i = 1003 + pD g then nI (pM g) else g i
/-- the end of the innermost repeat -/
def aEnd (g : RW) : RW := fun i =>
  if i = 4 * pM g then nI 10 else if i = 4 * pS g (pD g - 1) + 3 then nI (pM g) else if i = 1000 then nI (pM g + 1) else if i = 1001 then nI (pD g - 1) else g i
def aArg (c : Nat → Nat) (n : Nat) (s : RW) (nm : Nat → Int64) (j p : Nat) (K : Nat → Nat → Nat → Rs) : Rs :=
  if j = 0 ∨ j = 8 then aNum c n 0 999 p (fun x p1 => K x 0 p1)
  else if j = 1 then aFnd c n nm 0 (nn (s 0)) p (fun a => K a 0 (tE c n p))
  else if j < 4 then K 0 0 p
  else if j < 6 then aFnd c n nm 13 (nn (s 2)) p (fun a => K a 0 (tE c n p))
  else if j = 6 then aFnd c n nm 13 (nn (s 2)) p (fun a => aNum c n 0 999 (tE c n p) (fun y p1 => K a y p1))
  else if j = 7 then aFnd c n nm 13 (nn (s 2)) p (fun a => aFnd c n nm 0 (nn (s 0)) (tE c n p) (fun v => K a v (tE c n (tE c n p))))
  else aNum c n 1 20 p (fun x p1 => K x 0 p1)
def aCmd (c : Nat → Nat) (n : Nat) (s : RW) (nm : Nat → Int64) (td : Nat → Bool) (g : RW) (p : Nat) : Rs := match fst1 10 (kwC c n p) with
  | 0 => .inl (1, tS c n p)
  | j + 1 => if j = 9 ∧ pD g = 2 then .inl (4, tS c n p) else if pC g = 30 then .inl (6, tS c n p)
    else aArg c n s nm j (tE c n p) (fun x y p1 => if tK c n p1 = (if j = 9 then 4 else 3) then .inr (aPut g j x y, nm, td, tE c n p1) else .inl (1, tS c n p1))
def aScr (c : Nat → Nat) (n : Nat) (s : RW) (nm : Nat → Int64) (td : Nat → Bool) : Nat → RW → Nat → Rs
  | 0, g, p => .inr (g, nm, td, p)
  | k + 1, g, p => if tK c n p = 0 ∧ pD g = 0 then .inr (g, nm, td, p)
    else if tK c n p = 5 ∧ 0 < pD g then (if tK c n (tE c n p) = 3 then aScr c n s nm td k (aEnd g) (tE c n (tE c n p)) else .inl (1, tS c n (tE c n p)))
    else match aCmd c n s nm td g p with
      | .inl e => .inl e
      | .inr (g', _, _, p') => aScr c n s nm td k g' p'
/-! the class's small readers -/
/-- a frame in which the commands' list may change -/
def Fq (W : Nat → Nat → Prop) (V : Nat → Prop) (h h' : PH) : Prop := (∀ b k, ¬ W b k → gi h' b k = gi h b k) ∧ (∀ b, ¬ V b → h'.2.1 b = h.2.1 b) ∧ (∀ b, b ≠ 6 → b ≠ 99999 → h'.2.2.1 b = h.2.2.1 b)
theorem Fz.tq {W : Nat → Nat → Prop} {V : Nat → Prop} (x : Fz W V h h') : Fq W V h h' := ⟨x.1, x.2.1, fun b _ h2 => x.2.2 b h2⟩
theorem Fq.refl (W : Nat → Nat → Prop) (V : Nat → Prop) (h : PH) : Fq W V h h := ⟨fun _ _ _ => rfl, fun _ _ => rfl, fun _ _ _ => rfl⟩
theorem Fq.trans {W : Nat → Nat → Prop} {V : Nat → Prop} {h1 : PH} (x : Fq W V h h1) (y : Fq W V h1 h') : Fq W V h h' := ⟨fun b k e => (y.1 b k e).trans (x.1 b k e), fun b e => (y.2.1 b e).trans (x.2.1 b e), fun b e e2 => (y.2.2 b e e2).trans (x.2.2 b e e2)⟩
theorem Fq.sr {W : Nat → Nat → Prop} {V : Nat → Prop} {k : Nat} {x : Option Nat} : Fq W V h (sr h 6 k x) := ⟨fun _ _ _ => rfl, fun _ _ => rfl, fun b hb _ => funext fun j => if_neg hb⟩
def WCs (b k : Nat) : Prop := (b = 1 ∧ 2 ≤ k) ∨ (5 ≤ b ∧ b ≤ 12)
def VCs (b : Nat) : Prop := b = 1
theorem FCb (x : Fz WB VA h h') : Fq WCs VCs h h' := (x.mono (W2 := WCs) (V2 := VCs) (fun b k y => by unfold WB at y; unfold WCs; omega) (fun b y => y)).tq
theorem FCi {k : Nat} {x : Int32} (hb : 5 ≤ b ∧ b ≤ 12) : Fq WCs VCs h (si h b k x) := (Fz.si (W := WCs) (V := VCs) h x (Or.inr hb)).tq
/-- the names of the class's layout are those of the model -/
def NmL (nm : Nat → Int64) (s : RW) (h : PH) : Prop := (∀ i, i < nn (s 0) → NmE (gl h 17 i) (nm i)) ∧ (∀ i, i < nn (s 2) → NmE (gl h 27 i) (nm (13 + i)))
def CY (c : Nat → Nat) (n : Nat) (s : RW) (nm : Nat → Int64) (p : Nat) (h : PH) : Prop := (gi h 16 1 = nI (nn (s 0)) ∧ nn (s 0) ≤ 8 ∧ gi h 26 1 = nI (nn (s 2)) ∧ nn (s 2) ≤ 12) ∧ NmL nm s h ∧ CB c n h ∧ CT c n p h ∧ p ≤ n ∧ gi h 1 2 = nI 0 ∧ gi h 1 3 = -(nI 1)
theorem CY.l (S : CY c n s nm p h) : gi h 16 1 = nI (nn (s 0)) ∧ nn (s 0) ≤ 8 ∧ gi h 26 1 = nI (nn (s 2)) ∧ nn (s 2) ≤ 12 := S.1
theorem CY.N (S : CY c n s nm p h) : NmL nm s h := S.2.1
theorem CY.B (S : CY c n s nm p h) : CB c n h := S.2.2.1
theorem CY.T (S : CY c n s nm p h) : CT c n p h := S.2.2.2.1
theorem CY.pn (S : CY c n s nm p h) : p ≤ n := S.2.2.2.2.1
theorem CY.e2 (S : CY c n s nm p h) : gi h 1 2 = nI 0 := S.2.2.2.2.2.1
theorem CY.e3 (S : CY c n s nm p h) : gi h 1 3 = -(nI 1) := S.2.2.2.2.2.2
theorem CY.ad {p' : Nat} (S : CY c n s nm p h) (x : Fz WA VA h h') (T : CT c n p' h') (hp : p' ≤ n) : CY c n s nm p' h' := by
  have g : ∀ b i, b ≠ 1 → gl h' b i = gl h b i := fun b i hb => by
    show h'.2.1 b i = h.2.1 b i
    rw [x.2.1 b (by unfold VA; omega)]
  refine ⟨?_, ⟨fun i hi => ?_, fun i hi => ?_⟩, S.B.fb (FA_B x), T, hp, (x.1 1 2 (by unfold WA; omega)).trans S.e2, (x.1 1 3 (by unfold WA; omega)).trans S.e3⟩
  · rw [x.1 16 1 (by unfold WA; omega), x.1 26 1 (by unfold WA; omega)]; exact S.l
  · rw [g 17 i (by omega)]; exact S.N.1 i hi
  · rw [g 27 i (by omega)]; exact S.N.2 i hi
/-- what the program's cells change is nothing of this -/
theorem CY.pr (S : CY c n s nm p h) (x : Fz (fun b _ => 5 ≤ b ∧ b ≤ 12) (fun _ => False) h h') : CY c n s nm p h' := by
  have g : ∀ b i, gl h' b i = gl h b i := fun b i => by
    show h'.2.1 b i = h.2.1 b i
    rw [x.2.1 b (fun y => y)]
  refine ⟨?_, ⟨fun i hi => ?_, fun i hi => ?_⟩, S.B.fz x (by omega) (fun k => by omega), ?_, S.pn, (x.1 1 2 (by omega)).trans S.e2, (x.1 1 3 (by omega)).trans S.e3⟩
  · rw [x.1 16 1 (by omega), x.1 26 1 (by omega)]; exact S.l
  · rw [g 17 i]; exact S.N.1 i hi
  · rw [g 27 i]; exact S.N.2 i hi
  · have T := S.T
    unfold CT at T ⊢
    rw [x.1 1 4 (by omega), x.1 1 5 (by omega), x.1 1 8 (by omega), x.1 1 7 (by omega), g]
    exact T
def Kz (J : RW → (Nat → Int64) → (Nat → Bool) → Nat → PH → Prop) (h : PH) (kk : Int32 → PH → Prop) (r : Rs) : Prop :=
  (∀ e pl, r = .inl (e, pl) → ∀ h', Fq WCs VCs h h' → ER (nI e) pl h' → kk (nI 0) h') ∧
  (∀ g nm td p, r = .inr (g, nm, td, p) → ∀ h', Fq WCs VCs h h' → J g nm td p h' → kk (nI 1) h')
theorem Kz.fz {r : Rs} (x : Fq WCs VCs h h') (K : Kz J h kk r) : Kz J h' kk r := ⟨fun e pl er h2 y => K.1 e pl er h2 (x.trans y), fun s nm td p er h2 y => K.2 s nm td p er h2 (x.trans y)⟩
theorem Kz.er {e pl : Nat} (K : Kz J h kk (.inl (e, pl))) (x : Fq WCs VCs h h') (y : ER (nI e) pl h') : kk (nI 0) h' := K.1 e pl rfl h' x y
theorem Kz.ok (K : Kz J h kk (.inr (g, nm, td, p))) (S : J g nm td p h) : kk (nI 1) h := K.2 g nm td p rfl h (Fq.refl _ _ _) S
theorem y_num {lo hi : Nat} {F : Nat → Nat → Rs} (hlo : lo < 2000) (hhi : hi < 2000) (S : CY c n s nm p h) (K : Kz J h kk (aNum c n lo hi p F)) (E0 : ∀ h', Fz WB VA h h' → (∀ h2, Fq WCs VCs h' h2 → gi h2 1 2 = gi h' 1 2 → gi h2 1 3 = gi h' 1 3 → kk (nI 0) h2) → kj (-(nI 1)) h')
    (E1 : ∀ x p' h', x < 1000 → lo ≤ x → x ≤ hi → Fz WB VA h h' → CY c n s nm p' h' → Kz J h' kk (F x p') → kj (nI x) h') : MetPM m_X10_takeNumber [.ref 1, .int (nI lo), .int (nI hi)] h (rI q kj) := by
  unfold aNum at K
  refine c_takeNumber hlo hhi S.pn S.B S.T (fun d h1 x1 y1 => ?_) (fun d d2 h1 x1 y1 => ?_) (fun d d2 h1 x1 T1 => ?_)
  · rw [if_neg d] at K
    exact E0 _ x1 (fun h2 x2 e2 e3 => K.er ((FCb x1).trans x2) ⟨e2.trans y1.1, e3.trans y1.2⟩)
  · rw [if_pos d, if_neg d2] at K
    exact E0 _ x1 (fun h2 x2 e2 e3 => K.er ((FCb x1).trans x2) ⟨e2.trans y1.1, e3.trans y1.2⟩)
  · rw [if_pos d, if_pos d2] at K
    exact E1 _ _ _ (tV_lt S.pn d) d2.1 d2.2 (FA_B x1) (S.ad x1 T1 (tE_le S.pn).2) (K.fz (FCb (FA_B x1)))
def YB (s : RW) (b0 o m : Nat) : Prop := (b0 = 16 ∧ o = 0 ∧ m = nn (s 0)) ∨ (b0 = 26 ∧ o = 13 ∧ m = nn (s 2))
theorem y_fnd {b0 o : Nat} {F : Nat → Rs} (B : YB s b0 o m) (S : CY c n s nm p h) (K : Kz J h kk (aFnd c n nm o m p F)) (E0 : ∀ h', Fz WB VA h h' → (∀ h2, Fq WCs VCs h' h2 → gi h2 1 2 = gi h' 1 2 → gi h2 1 3 = gi h' 1 3 → kk (nI 0) h2) → kj (-(nI 1)) h')
    (E1 : ∀ a, a < m → tK c n p = 1 → Kz J h kk (F a) → kj (nI a) h) : MetPM m_X10_findName [.ref 1, .ref b0] h (rI q kj) := by
  unfold aFnd at K
  have ob : ∃ mx, NB b0 mx ∧ gi h b0 1 = nI m ∧ m ≤ mx ∧ ∀ i, i < m → NmE (gl h (b0 + 1) i) (nm (o + i)) := by
    rcases B with ⟨rfl, rfl, rfl⟩ | ⟨rfl, rfl, rfl⟩
    · exact ⟨8, Or.inl ⟨rfl, rfl⟩, S.l.1, S.l.2.1, fun i hi => by rw [Nat.zero_add]; exact S.N.1 i hi⟩
    · exact ⟨12, Or.inr (Or.inl ⟨rfl, rfl⟩), S.l.2.2.1, S.l.2.2.2, fun i hi => S.N.2 i hi⟩
  obtain ⟨mx, b1, b2, b3, b5⟩ := ob
  refine c_findName b1 S.pn S.T b2 b3 b5 (fun d h1 x1 y1 => ?_) (fun d d2 h1 x1 y1 => ?_) (fun j d d2 hj => ?_)
  · rw [if_neg d] at K
    exact E0 _ x1 (fun h2 x2 e2 e3 => K.er ((FCb x1).trans x2) ⟨e2.trans y1.1, e3.trans y1.2⟩)
  · rw [if_pos d, if_pos d2] at K
    exact E0 _ x1 (fun h2 x2 e2 e3 => K.er ((FCb x1).trans x2) ⟨e2.trans y1.1, e3.trans y1.2⟩)
  · rw [if_pos d, d2, if_neg (by omega), Nat.add_sub_cancel] at K
    exact E1 _ hj d K
theorem y_next (S : CY c n s nm p h) (K : ∀ h', Fz WB VA h h' → CY c n s nm (tE c n p) h' → kv h') : MetPM m_X10_advance [.ref 1] h (rV q kv) :=
  c_next S.pn S.B S.T (fun h1 x1 T1 => K h1 (FA_B x1) (S.ad x1 T1 (tE_le S.pn).2))
theorem y_fail {e : Nat} (S : CY c n s nm p h) (K : Kz J h kk (.inl (e, tS c n p))) : MetPM m_X10_fail [.ref 1, .int (nI e)] h (rI q (fun x h' => isB x ∧ kk x h')) :=
  c_fail S.T (fun h1 x1 y1 => ⟨isB_0, K.er (FCb x1) y1⟩)
theorem y_sign {k : Nat} {F : Nat → Rs} (hk : k < 100) (S : CY c n s nm p h) (K : Kz J h kk (if tK c n p = k then F (tE c n p) else .inl (1, tS c n p))) (E1 : ∀ h', Fz WB VA h h' → CY c n s nm (tE c n p) h' → Kz J h' kk (F (tE c n p)) → kk (nI 1) h') : MetPM m_X10_takeSign [.ref 1, .int (nI k)] h (rI q (fun x h' => isB x ∧ kk x h')) := by
  refine c_takeSign hk S.pn S.B S.T (fun d h1 x1 y1 => ?_) (fun d h1 x1 T1 => ?_)
  · rw [if_neg d] at K
    exact ⟨isB_0, K.er (FCb x1) y1⟩
  · rw [if_pos d] at K
    exact ⟨isB_1, E1 h1 (FA_B x1) (S.ad x1 T1 (tE_le S.pn).2) (K.fz (FCb (FA_B x1)))⟩
end
