/-! ===== what holds between calls ===== -/
section
variable {s t : RW} {C E : Nat} {a : Nat} {f g z : FI} {h h' : PH}
/-- what may be changed: ints by cell and place, longs by cell; the program's references -/
def Fz (W : Nat → Nat → Prop) (V : Nat → Prop) (h h' : PH) : Prop := (∀ b k, ¬ W b k → gi h' b k = gi h b k) ∧ (∀ b, ¬ V b → h'.2.1 b = h.2.1 b) ∧ (∀ b, b ≠ 99999 → h'.2.2.1 b = h.2.2.1 b)
theorem Fz.refl (W : Nat → Nat → Prop) (V : Nat → Prop) (h : PH) : Fz W V h h := ⟨fun _ _ _ => rfl, fun _ _ => rfl, fun _ _ => rfl⟩
theorem Fz.trans {W : Nat → Nat → Prop} {V : Nat → Prop} {h1 : PH} (x : Fz W V h h1) (y : Fz W V h1 h') : Fz W V h h' := ⟨fun b k e => (y.1 b k e).trans (x.1 b k e), fun b e => (y.2.1 b e).trans (x.2.1 b e), fun b e => (y.2.2 b e).trans (x.2.2 b e)⟩
theorem Fz.mono {W W2 : Nat → Nat → Prop} {V V2 : Nat → Prop} (x : Fz W V h h') (m : ∀ b k, W b k → W2 b k) (n : ∀ b, V b → V2 b) : Fz W2 V2 h h' := ⟨fun b k e => x.1 b k (fun z => e (m b k z)), fun b e => x.2.1 b (fun z => e (n b z)), x.2.2⟩
theorem Fz.fr {U : Nat → Nat → Bool} {W : Nat → Nat → Prop} {V : Nat → Prop} (x : Fr U h h') (m : ∀ b k, U b k = true → W b k) : Fz W V h h' := ⟨fun b k e => x.1 b k (by
  cases z : U b k
  · rfl
  · exact absurd (m b k z) e), fun b _ => by rw [x.2], fun b _ => by rw [x.2]⟩
theorem Fz.cell {W : Nat → Nat → Prop} {V : Nat → Prop} (x : Fz W V h h') {b : Nat} (e : ∀ k, ¬ W b k) : h'.1 b = h.1 b := funext fun k => x.1 b k (e k)
theorem Fz.sl {W : Nat → Nat → Prop} {V : Nat → Prop} (h : PH) {a k : Nat} (x : Int64) (v : V a) : Fz W V h (sl h a k x) := ⟨fun _ _ _ => rfl, fun b e => by
  show (up2 h.2.1 a k x) b = _
  funext j
  exact if_neg (fun z => e (by rw [z]; exact v)), fun _ _ => rfl⟩
theorem Fz.sd {W : Nat → Nat → Prop} {V : Nat → Prop} (h : PH) {a k : Nat} (x : Nat) : Fz W V h (sd h a k x) := ⟨fun _ _ _ => rfl, fun _ _ => rfl, fun _ _ => rfl⟩
theorem Fz.si {W : Nat → Nat → Prop} {V : Nat → Prop} (h : PH) {a k : Nat} (x : Int32) (v : W a k) : Fz W V h (si h a k x) := ⟨fun b j e => by
  rw [gi_si]
  by_cases c : b = a
  · subst c
    by_cases d : j = k
    · subst d; exact absurd v e
    · rw [if_pos rfl, if_neg d]
  · rw [if_neg c], fun _ _ => rfl, fun _ _ => rfl⟩
/-- free cells -/
def WZ (b k : Nat) : Prop := (67 ≤ b ∧ b ≤ 73) ∨ (30 ≤ b ∧ b ≤ 44) ∨ (4 ≤ b ∧ b ≤ 12) ∨ (b = 1 ∧ 4 ≤ k) ∨ (135 ≤ b ∧ b ≤ 145) ∨ (b = 130 ∧ (k = 0 ∨ (3 ≤ k ∧ k ≤ 9) ∨ k = 23 ∨ (25 ≤ k ∧ k ≤ 27) ∨ (33 ≤ k ∧ k ≤ 36)))
def VZ (b : Nat) : Prop := b = 1 ∨ b = 130 ∨ b = 139 ∨ b = 32 ∨ b = 37 ∨ b = 42 ∨ b = 147
/-- and those of a change -/
def WX (b k : Nat) : Prop := WZ b k ∨ (60 ≤ b ∧ b ≤ 66) ∨ b = 13 ∨ (88 ≤ b ∧ b ≤ 129) ∨ b = 132 ∨ b = 134 ∨ (b = 130 ∧ k = 21)
theorem Fz.x {V : Nat → Prop} (x : Fz WZ V h h') : Fz WX V h h' := x.mono (fun _ _ z => Or.inl z) (fun _ z => z)
/-! names: eight letters at most, packed by eight bits and by five -/
def leC (x : Nat) : Bool := Nat.ble 97 x && Nat.ble x 122
def w8 (c : Nat → Nat) (p : Nat) : Nat → Nat
  | 0 => 0
  | k + 1 => w8 c p k * 256 + c (p + k)
def w5 (c : Nat → Nat) (p : Nat) : Nat → Nat
  | 0 => 0
  | k + 1 => w5 c p k * 32 + (c (p + k) - 96)
def NmE (x y : Int64) : Prop := ∃ (c : Nat → Nat) (p k : Nat), 1 ≤ k ∧ k ≤ 8 ∧ (∀ j, j < k → leC (c (p + j)) = true) ∧ x = lN (w8 c p k) ∧ y = lN (w5 c p k)
def NmR (L n : Nat) (s : RW) (h : PH) : Prop :=
  (∀ i, i < nn (s 0) → NmE (gl h (L + 2) i) (gl h n i)) ∧ (∀ i, i < nn (s 1) → NmE (gl h (L + 7) i) (gl h n (8 + i))) ∧ (∀ i, i < nn (s 2) → NmE (gl h (L + 12) i) (gl h n (13 + i))) ∧
  (∀ i j, i < j → j < nn (s 0) → gl h n i ≠ gl h n j) ∧ (∀ i j, i < j → j < nn (s 1) → gl h n (8 + i) ≠ gl h n (8 + j)) ∧ (∀ i j, i < j → j < nn (s 2) → gl h n (13 + i) ≠ gl h n (13 + j))
def IC (C E : Nat) (h : PH) : Prop := Rk C E (h.1 132) ∧ CR 60 (h.1 132) h
def IT (h : PH) : Prop := ∃ n, n ≤ 900 ∧ gi h 1 1 = nI n ∧ gi h 130 2 = nI n ∧ (∀ j, j < n → ∃ c, c < 256 ∧ gi h 2 j = sb_b c ∧ gi h 131 j = nI c) ∧ gi h 1 2 = gi h 130 10 ∧ gi h 1 3 = gi h 130 11
def IN (h : PH) : Prop := NmR 15 137 (h.1 132) h
def IS (C E : Nat) (h : PH) : Prop := isB (gi h 130 22) ∧ gi h 0 5 = gi h 130 22 ∧ (gi h 130 22 = 1 → Rk C E (h.1 133) ∧ LyR 45 (h.1 133) h.1 ∧ StR 81 (h.1 133) h.1 ∧ NmR 45 138 (h.1 133) h)
/-- the i-th row that lies among the past -/
def pst (h : PH) (i : Nat) : RW := fun k => gi h 134 (253 * i + k)
def hix (u w i : Nat) : Nat := (w + 6 - (u - 1 - i)) % 6
def IH (C E : Nat) (h : PH) : Prop := ∃ u w, u ≤ 6 ∧ w < 6 ∧ gi h 13 1 = nI u ∧ gi h 13 2 = nI w ∧ gi h 130 21 = nI u ∧ (∀ j, j < 6 → gr h 14 j = some (88 + 7 * j)) ∧
  ∀ i, i < u → Rk C E (pst h i) ∧ LyR 15 (pst h i) h.1 ∧ StR (88 + 7 * hix u w i) (pst h i) h.1
def IP (h : PH) : Prop := ∃ r, r ≤ 336 ∧ gi h 0 10 = nI r ∧ isB (gi h 130 39) ∧ (gi h 130 39 = 1 → gi h 130 38 = nI r) ∧ (gi h 130 39 = 0 → r = 0) ∧ ∀ j, j < r → gi h 3 j = gi h 146 j
/-- the law's script; the draft's ring of events -/
def IZ (z : FI) (h : PH) : Prop := h.1 998 = z 0 ∧ h.1 999 = z 1 ∧ ∃ w, w < 30 ∧ gi h 79 2 = nI w
def Inv (z : FI) (C E : Nat) (h : PH) : Prop := IC C E h ∧ IT h ∧ IN h ∧ IS C E h ∧ IH C E h ∧ IP h ∧ IZ z h
theorem Inv.ic (I : Inv z C E h) : IC C E h := I.1
theorem Inv.it (I : Inv z C E h) : IT h := I.2.1
theorem Inv.inn (I : Inv z C E h) : IN h := I.2.2.1
theorem Inv.is (I : Inv z C E h) : IS C E h := I.2.2.2.1
theorem Inv.ih (I : Inv z C E h) : IH C E h := I.2.2.2.2.1
theorem Inv.ip (I : Inv z C E h) : IP h := I.2.2.2.2.2.1
theorem Inv.iz (I : Inv z C E h) : IZ z h := I.2.2.2.2.2.2
/-! what the components need -/
theorem StR.heap (X : ∀ b, a ≤ b → b ≤ a + 6 → g b = f b) (S : StR a s f) : StR a s g := by
  have e : ∀ i, i ≤ 6 → g (a + i) = f (a + i) := fun i hi => X _ (by omega) (by omega)
  have e0 : g a = f a := X a (by omega) (by omega)
  refine ⟨⟨?_, ?_, ?_, ?_, ?_, ?_⟩, ⟨?_, ?_, ?_, ?_, ?_, ?_⟩, ?_⟩
  · rw [e 1 (by omega)]; exact S.ve
  · rw [e 2 (by omega)]; exact S.co
  · rw [e 3 (by omega)]; exact S.un
  · rw [e 4 (by omega)]; exact S.me
  · rw [e0]; exact S.ds
  · rw [e0]; exact S.he
  · rw [e0]; exact S.ib
  · rw [e0]; exact S.ck
  · rw [e0]; exact S.fo
  · rw [e0]; exact S.st
  · rw [e0]; exact S.pl
  · rw [e0]; exact S.se
  · have := S.ev
    unfold StE
    rw [e 5 (by omega), e 6 (by omega)]; exact this
theorem CR.heap (X : CR 60 s h) (e : ∀ b, (15 ≤ b ∧ b ≤ 29) ∨ (60 ≤ b ∧ b ≤ 66) → h'.1 b = h.1 b) : CR 60 s h' := ⟨X.1.heap fun b h1 h2 => e b (by omega), X.2.heap fun b h1 h2 => e b (by omega)⟩
theorem NmR.fz {W : Nat → Nat → Prop} {V : Nat → Prop} {L n : Nat} (x : Fz W V h h') (v1 : ¬ V (L + 2)) (v2 : ¬ V (L + 7)) (v3 : ¬ V (L + 12)) (v4 : ¬ V n) (e0 : t 0 = s 0) (e1 : t 1 = s 1) (e2 : t 2 = s 2) (N : NmR L n s h) : NmR L n t h' := by
  have g : ∀ b, ¬ V b → ∀ i, gl h' b i = gl h b i := fun b hb i => by
    show h'.2.1 b i = h.2.1 b i
    rw [x.2.1 b hb]
  unfold NmR
  simp only [g _ v1, g _ v2, g _ v3, g _ v4, e0, e1, e2]
  exact N
theorem IT.fz {W : Nat → Nat → Prop} {V : Nat → Prop} (x : Fz W V h h') (w1 : ∀ k, 1 ≤ k → k ≤ 3 → ¬ W 1 k) (w2 : ∀ k, ¬ W 2 k) (w3 : ∀ k, ¬ W 131 k) (w4 : ∀ k, k = 2 ∨ k = 10 ∨ k = 11 → ¬ W 130 k) (I : IT h) : IT h' := by
  obtain ⟨n, a1, a2, a3, a4, a5, a6⟩ := I
  refine ⟨n, a1, ?_, ?_, fun j hj => ?_, ?_, ?_⟩
  · rw [x.1 _ _ (w1 1 (by omega) (by omega))]; exact a2
  · rw [x.1 _ _ (w4 2 (by omega))]; exact a3
  · rw [x.1 _ _ (w2 j), x.1 _ _ (w3 j)]; exact a4 j hj
  · rw [x.1 _ _ (w1 2 (by omega) (by omega)), x.1 _ _ (w4 10 (by omega))]; exact a5
  · rw [x.1 _ _ (w1 3 (by omega) (by omega)), x.1 _ _ (w4 11 (by omega))]; exact a6
theorem IS.fz {W : Nat → Nat → Prop} {V : Nat → Prop} (x : Fz W V h h') (w1 : ¬ W 0 5) (w2 : ¬ W 130 22) (w3 : ∀ k, ¬ W 133 k) (w4 : ∀ b k, (45 ≤ b ∧ b ≤ 59) ∨ (81 ≤ b ∧ b ≤ 87) → ¬ W b k) (v1 : ¬ V 47) (v2 : ¬ V 52) (v3 : ¬ V 57) (v4 : ¬ V 138) (I : IS C E h) : IS C E h' := by
  obtain ⟨a1, a2, a3⟩ := I
  have e133 : h'.1 133 = h.1 133 := x.cell w3
  unfold IS
  rw [x.1 _ _ w1, x.1 _ _ w2, e133]
  refine ⟨a1, a2, fun z => ?_⟩
  obtain ⟨b1, b2, b3, b4⟩ := a3 z
  exact ⟨b1, b2.heap fun b h1 h2 => x.cell fun k => w4 b k (by omega), b3.heap fun b h1 h2 => x.cell fun k => w4 b k (by omega), b4.fz x v1 v2 v3 v4 rfl rfl rfl⟩
theorem hix_lt {u w i : Nat} : hix u w i < 6 := Nat.mod_lt _ (by omega)
theorem IH.fz {W : Nat → Nat → Prop} {V : Nat → Prop} (x : Fz W V h h') (w1 : ∀ k, ¬ W 13 k) (w2 : ¬ W 130 21) (w3 : ∀ k, ¬ W 134 k) (w4 : ∀ b k, (15 ≤ b ∧ b ≤ 29) ∨ (88 ≤ b ∧ b ≤ 129) → ¬ W b k) (I : IH C E h) : IH C E h' := by
  obtain ⟨u, w, a1, a2, a3, a4, a5, a6, a7⟩ := I
  have e134 : h'.1 134 = h.1 134 := x.cell w3
  have ep : ∀ i, pst h' i = pst h i := fun i => by
    funext k
    show h'.1 134 _ = h.1 134 _
    rw [e134]
  refine ⟨u, w, a1, a2, ?_, ?_, ?_, fun j hj => ?_, fun i hi => ?_⟩
  · rw [x.1 _ _ (w1 1)]; exact a3
  · rw [x.1 _ _ (w1 2)]; exact a4
  · rw [x.1 _ _ w2]; exact a5
  · show h'.2.2.1 14 j = _
    rw [x.2.2 14 (by omega)]; exact a6 j hj
  · rw [ep]
    obtain ⟨b1, b2, b3⟩ := a7 i hi
    have := hix_lt (u := u) (w := w) (i := i)
    exact ⟨b1, b2.heap fun b h1 h2 => x.cell fun k => w4 b k (by omega), b3.heap fun b h1 h2 => x.cell fun k => w4 b k (by omega)⟩
theorem IP.fz {W : Nat → Nat → Prop} {V : Nat → Prop} (x : Fz W V h h') (w1 : ¬ W 0 10) (w2 : ¬ W 130 38) (w3 : ¬ W 130 39) (w4 : ∀ k, ¬ W 3 k) (w5 : ∀ k, ¬ W 146 k) (I : IP h) : IP h' := by
  obtain ⟨r, a1, a2, a3, a4, a5, a6⟩ := I
  refine ⟨r, a1, ?_, ?_, ?_, ?_, fun j hj => ?_⟩
  · rw [x.1 _ _ w1]; exact a2
  · rw [x.1 _ _ w3]; exact a3
  · rw [x.1 _ _ w3, x.1 _ _ w2]; exact a4
  · rw [x.1 _ _ w3]; exact a5
  · rw [x.1 _ _ (w4 j), x.1 _ _ (w5 j)]; exact a6 j hj
theorem IZ.fz {W : Nat → Nat → Prop} {V : Nat → Prop} (x : Fz W V h h') (w1 : ∀ k, ¬ W 998 k) (w2 : ∀ k, ¬ W 999 k) (w3 : ¬ W 79 2) (I : IZ z h) : IZ z h' := ⟨(x.cell w1).trans I.1, (x.cell w2).trans I.2.1, by rw [x.1 _ _ w3]; exact I.2.2⟩
theorem Inv.fz (x : Fz WZ VZ h h') (I : Inv z C E h) : Inv z C E h' := by
  have e132 : h'.1 132 = h.1 132 := x.cell fun k => by unfold WZ; omega
  have nv : ∀ b, ¬ (b = 1 ∨ b = 130 ∨ b = 139 ∨ b = 32 ∨ b = 37 ∨ b = 42 ∨ b = 147) → ¬ VZ b := fun b z => z
  refine ⟨⟨?_, ?_⟩, I.it.fz x ?_ ?_ ?_ ?_, ?_, I.is.fz x ?_ ?_ ?_ ?_ (nv _ (by omega)) (nv _ (by omega)) (nv _ (by omega)) (nv _ (by omega)), I.ih.fz x ?_ ?_ ?_ ?_, I.ip.fz x ?_ ?_ ?_ ?_ ?_, I.iz.fz x ?_ ?_ ?_⟩
  · rw [e132]; exact I.ic.1
  · rw [e132]; exact I.ic.2.heap fun b hb => x.cell fun k => by unfold WZ; omega
  · intro k h1 h2; unfold WZ; omega
  · intro k; unfold WZ; omega
  · intro k; unfold WZ; omega
  · intro k hk; unfold WZ; omega
  · unfold IN; rw [e132]; exact NmR.fz x (nv _ (by omega)) (nv _ (by omega)) (nv _ (by omega)) (nv _ (by omega)) rfl rfl rfl I.inn
  · unfold WZ; omega
  · unfold WZ; omega
  · intro k; unfold WZ; omega
  · intro b k hb; unfold WZ; omega
  · intro k; unfold WZ; omega
  · unfold WZ; omega
  · intro k; unfold WZ; omega
  · intro b k hb; unfold WZ; omega
  · unfold WZ; omega
  · unfold WZ; omega
  · unfold WZ; omega
  · intro k; unfold WZ; omega
  · intro k; unfold WZ; omega
  · intro k; unfold WZ; omega
  · intro k; unfold WZ; omega
  · unfold WZ; omega
theorem Inv.mono {D F : Nat} (h1 : C ≤ D) (h2 : E ≤ F) (I : Inv z C E h) : Inv z D F h := by
  refine ⟨⟨I.ic.1.mono h1 h2, I.ic.2⟩, I.it, I.inn, ⟨I.is.1, I.is.2.1, fun z => ?_⟩, ?_, I.ip, I.iz⟩
  · have := I.is.2.2 z
    exact ⟨this.1.mono h1 h2, this.2⟩
  · obtain ⟨u, w, a1, a2, a3, a4, a5, a6, a7⟩ := I.ih
    exact ⟨u, w, a1, a2, a3, a4, a5, a6, fun i hi => ⟨(a7 i hi).1.mono h1 h2, (a7 i hi).2⟩⟩
end

