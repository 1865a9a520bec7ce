/-! ===== the model's state while it reads a cluster ===== -/
section
variable {q : Nat → PH → Prop} {kk kj : Int32 → PH → Prop} {kl : Int64 → PH → Prop} {kv k1 : PH → Prop} {h h' : PH} {s t : RW} {C E L : Nat} {a b n m p v w e pl : Nat} {f g : FI} {nm : Nat → Int64} {c : Nat → Nat} {td : Nat → Bool}
def WP (b k : Nat) : Prop := (b = 130 ∧ ((4 ≤ k ∧ k ≤ 9) ∨ k = 23)) ∨ (b = 132 ∧ k < 253)
def VP (b : Nat) : Prop := b = 130 ∨ b = 137
def W9 (b k : Nat) : Prop := b = 130 ∧ 4 ≤ k ∧ k ≤ 9
theorem FP9 (x : Fz W9 VT h h') : Fz WP VP h h' := x.mono (fun b k y => by unfold W9 at y; unfold WP; omega) (fun b y => Or.inl y)
theorem F9i {k : Nat} {x : Int32} (h1 : 4 ≤ k ∧ k ≤ 9) : Fz W9 VT h (si h 130 k x) := Fz.si h x ⟨rfl, h1⟩
theorem FPt (x : Fz WT VT h h') : Fz WP VP h h' := x.mono (fun b k y => by unfold WT at y; unfold WP; omega) (fun b y => Or.inl y)
theorem FPr (x : Fr WR h h') : Fz WP VP h h' := Fz.fr x (fun b k y => by
  unfold WR at y
  rw [Bool.and_eq_true] at y
  have y1 := Nat.eq_of_beq_eq_true y.1
  have y2 : k < 253 := Nat.le_of_ble_eq_true y.2
  exact Or.inr ⟨y1, y2⟩)
theorem FPi {k : Nat} {x : Int32} (h1 : (4 ≤ k ∧ k ≤ 9) ∨ k = 23) : Fz WP VP h (si h 130 k x) := Fz.si h x (Or.inl ⟨rfl, h1⟩)
theorem FPs {k : Nat} {x : Int32} (h1 : k < 253) : Fz WP VP h (si h 132 k x) := Fz.si h x (Or.inr ⟨rfl, h1⟩)
/-- the counts of the row -/
def CNT (s : RW) : Prop := isN (s 0) 8 ∧ isN (s 1) 5 ∧ isN (s 2) 12 ∧ isN (s 3) 5 ∧ isN (s 4) 20
def ME (e pl : Nat) (h : PH) : Prop := 1 ≤ e ∧ e < 7 ∧ gi h 130 8 = nI e ∧ gi h 130 9 = nI pl ∧ CNT (h.1 132)
/-- no name twice in a table -/
def ND (nm : Nat → Int64) (s : RW) : Prop := (∀ i j, i < j → j < nn (s 0) → nm i ≠ nm j) ∧ (∀ i j, i < j → j < nn (s 1) → nm (8 + i) ≠ nm (8 + j)) ∧ (∀ i j, i < j → j < nn (s 2) → nm (13 + i) ≠ nm (13 + j))
def TD (td : Nat → Bool) (x : Int32) : Prop := ∀ w, 5 ≤ w → w ≤ 10 → bt x w = td w
/-- the row, the names: the rest of the state -/
def MX (c : Nat → Nat) (n : Nat) (s : RW) (nm : Nat → Int64) (td : Nat → Bool) (p : Nat) (h : PH) : Prop := h.1 132 = s ∧ (∀ i, gl h 137 i = nm i) ∧ MB c n h ∧ MT c n p h ∧ p ≤ n ∧ gi h 130 8 = nI 0 ∧ gi h 130 9 = -(nI 1) ∧ TD td (gi h 130 23)
def MS (c : Nat → Nat) (n : Nat) (s : RW) (nm : Nat → Int64) (td : Nat → Bool) (p : Nat) (h : PH) : Prop := PR s ∧ ND nm s ∧ MX c n s nm td p h
theorem MX.r (S : MX c n s nm td p h) : h.1 132 = s := S.1
theorem MX.ns (S : MX c n s nm td p h) : ∀ i, gl h 137 i = nm i := S.2.1
theorem MX.B (S : MX c n s nm td p h) : MB c n h := S.2.2.1
theorem MX.T (S : MX c n s nm td p h) : MT c n p h := S.2.2.2.1
theorem MX.pn (S : MX c n s nm td p h) : p ≤ n := S.2.2.2.2.1
theorem MX.e8 (S : MX c n s nm td p h) : gi h 130 8 = nI 0 := S.2.2.2.2.2.1
theorem MX.e9 (S : MX c n s nm td p h) : gi h 130 9 = -(nI 1) := S.2.2.2.2.2.2.1
theorem MX.tl (S : MX c n s nm td p h) : TD td (gi h 130 23) := S.2.2.2.2.2.2.2
theorem PR.cnt (P : PR s) : CNT s := ⟨P.v.1, P.x.1, P.x.2.1, P.x.2.2.1, P.x.2.2.2.1⟩
theorem MX.ad {p' : Nat} (S : MX c n s nm td p h) (x : Fz WT VT h h') (T : MT c n p' h') (hp : p' ≤ n) : MX c n s nm td p' h' :=
  ⟨(x.cell (fun k => by unfold WT; omega)).trans S.r, fun i => by
    rw [← S.ns i]
    show h'.2.1 137 i = h.2.1 137 i
    rw [x.2.1 137 (by unfold VT; omega)], S.B.ft x, T, hp, (x.1 130 8 (by unfold WT; omega)).trans S.e8, (x.1 130 9 (by unfold WT; omega)).trans S.e9, by rw [x.1 130 23 (by unfold WT; omega)]; exact S.tl⟩
/-- the row changes -/
theorem MX.row (S : MX c n s nm td p h) (x : Fr WR h h') (e : h'.1 132 = t) : MX c n t nm td p h' := by
  have g : ∀ b, b ≠ 132 → h'.1 b = h.1 b := fun b hb => x.cell (fun k => by
    unfold WR
    cases z : Nat.beq b 132
    · rfl
    · exact absurd (Nat.eq_of_beq_eq_true z) hb)
  have gg : ∀ b k, b ≠ 132 → gi h' b k = gi h b k := fun b k hb => congrFun (g b hb) k
  have l : ∀ b k, gl h' b k = gl h b k := fun b k => by
    show h'.2.1 b k = h.2.1 b k
    rw [x.2]
  refine ⟨e, fun i => (l _ _).trans (S.ns i), ⟨S.B.1, S.B.2.1, (gg _ _ (by omega)).trans S.B.2.2.1, fun j hj => (gg _ _ (by omega)).trans (S.B.2.2.2 j hj)⟩, ?_, S.pn, (gg _ _ (by omega)).trans S.e8, (gg _ _ (by omega)).trans S.e9, by rw [gg _ _ (by omega)]; exact S.tl⟩
  have T := S.T
  unfold MT at T ⊢
  rw [gg _ _ (by omega), gg _ _ (by omega), gg _ _ (by omega), gg _ _ (by omega), l]
  exact T
def Km (c : Nat → Nat) (n : Nat) (h : PH) (kv : PH → Prop) (r : Rs) : Prop :=
  (∀ e pl, r = .inl (e, pl) → ∀ h', Fz WP VP h h' → ME e pl h' → kv h') ∧
  (∀ s nm td p, r = .inr (s, nm, td, p) → ∀ h', Fz WP VP h h' → MS c n s nm td p h' → kv h')
theorem Km.fz {r : Rs} (x : Fz WP VP h h') (K : Km c n h kv r) : Km c n h' kv r := ⟨fun e pl er h2 y => K.1 e pl er h2 (x.trans y), fun s nm td p er h2 y => K.2 s nm td p er h2 (x.trans y)⟩
theorem Km.er (K : Km c n h kv (.inl (e, pl))) (x : Fz WP VP h h') (y : ME e pl h') : kv h' := K.1 e pl rfl h' x y
theorem Km.ok (K : Km c n h kv (.inr (s, nm, td, p))) (S : MS c n s nm td p h) : kv h := K.2 s nm td p rfl h (Fz.refl _ _ _) S
theorem s_good (e8 : gi h 130 8 = nI 0) (K : kk (nI 1) h) : MetPM m_X12_isGood [.ref 130] h (rI q kk) := t_X12_isGood (by rw [e8]; exact ⟨fun y => absurd rfl y, fun _ => ⟨isB_1, K⟩⟩)
theorem ME.ne (M : ME e pl h) : ¬ gi h 130 8 = 0 := by
  rw [M.2.2.1]
  intro y
  have := (nI_eq (a := e) (b := 0) (by have := M.2.1; omega) (by omega)).mp y
  have := M.1
  omega
theorem e_good (M : ME e pl h) (K : kk (nI 0) h) : MetPM m_X12_isGood [.ref 130] h (rI q kk) := t_X12_isGood ⟨fun _ => ⟨isB_0, K⟩, fun y => absurd y M.ne⟩
theorem e_wrong {x : Int32} (M : ME e pl h) (K : kv h) : MetPM m_X12_wrong [.ref 130, .int x] h (rV q kv) := by
  have h1 := M.1
  have h2 := M.2.1
  refine t_X12_wrong ?_
  rw [M.2.2.1]
  exact pk_le e 0 (fun y => absurd y (by omega)) (fun _ => K)
theorem e_isWord {x : Int64} (M : ME e pl h) (K : kk (nI 0) h) : MetPM m_X12_isWord [.ref 130, .long x] h (rI q kk) := t_X12_isWord ⟨fun _ => ⟨isB_0, K⟩, fun y => absurd y M.ne⟩
theorem e_mustSign {x : Int32} (M : ME e pl h) (K : kv h) : MetPM m_X12_mustSign [.ref 130, .int x] h (rV q kv) :=
  t_X12_mustSign (e_good M ⟨fun _ => e_good M ⟨fun _ => K, fun y => absurd rfl y⟩, fun y => absurd rfl y⟩)
theorem e_number {x y : Int32} (M : ME e pl h) (K : ∀ z, kk z h) : MetPM m_X12_number [.ref 130, .int x, .int y] h (rI q kk) :=
  t_X12_number (e_good M ⟨fun _ => u_X12_number_20 (e_good M ⟨fun _ => u_X12_number_49 (e_good M ⟨fun _ => u_X12_number_60 (K _), fun y => absurd rfl y⟩), fun y => absurd rfl y⟩), fun y => absurd rfl y⟩)
theorem e_newName {x y z : Int32} (M : ME e pl h) (K : kv h) : MetPM m_X12_newName [.ref 130, .int x, .int y, .int z] h (rV q kv) := by
  have r : ∀ {x y z : Int32} {q}, At m_X12_newName (rV q kv) 11 0 [some (.ref 130), some (.int x), some (.int y), some (.int z)] [] h := fun {x y z q} =>
    u_X12_newName_11 (e_good M ⟨fun _ => u_X12_newName_22 (e_good M ⟨fun _ => u_X12_newName_42 (e_good M ⟨fun _ => u_X12_newName_64 (e_good M ⟨fun y => absurd rfl y, fun _ => K⟩), fun y => absurd rfl y⟩), fun y => absurd rfl y⟩), fun y => absurd rfl y⟩)
  exact t_X12_newName ⟨fun _ => r, fun _ => e_wrong M r⟩
theorem l_named {o : Nat} {y : Int64} (ho : o + m ≤ 25) (e12 : gl h 130 12 = y) (hn : ∀ i j, i < j → j < m → gl h 137 (o + i) ≠ gl h 137 (o + j)) (K : kk (pre1 (fst1 m (fun i => decide (gl h 137 (o + i) = y)))) h) : ∀ k j, j + k = m → At m_X12_named (rI q kk) 5 0 [some (.ref 130), some (.int (nI o)), some (.int (nI m)), some (.int (pre1 (fst1 j (fun i => decide (gl h 137 (o + i) = y))))), some (.int (nI j))] [] h := by
  intro k
  induction k with
  | zero =>
    intro j hj
    refine u_X12_named_5 (pk_le m j (fun _ => ?_) (fun y => absurd y (by omega)))
    have : j = m := by omega
    subst this; exact K
  | succ k ih =>
    intro j hj
    refine u_X12_named_5 (pk_le m j (fun y => absurd y (by omega)) (fun _ => ?_))
    rw [nI_add, cl (by omega), e12, lgc_0, nI_add]
    have ih2 := ih (j + 1) (by omega)
    rw [show fst1 (j + 1) (fun i => decide (gl h 137 (o + i) = y)) = if fst1 j (fun i => decide (gl h 137 (o + i) = y)) = 0 then (if (fun i => decide (gl h 137 (o + i) = y)) j = true then j + 1 else 0) else fst1 j (fun i => decide (gl h 137 (o + i) = y)) from rfl] at ih2
    refine ⟨vp_in_nI (by omega) (by omega), fun d => ?_, fun d => ?_⟩
    · have : (if fst1 j (fun i => decide (gl h 137 (o + i) = y)) = 0 then (if (fun i => decide (gl h 137 (o + i) = y)) j = true then j + 1 else 0) else fst1 j (fun i => decide (gl h 137 (o + i) = y))) = fst1 j (fun i => decide (gl h 137 (o + i) = y)) := by
        by_cases z : fst1 j (fun i => decide (gl h 137 (o + i) = y)) = 0
        · rw [if_pos z, if_neg (by show ¬ decide (gl h 137 (o + j) = y) = true; rw [decide_eq_false d]; decide), z]
        · rw [if_neg z]
      rw [this] at ih2
      exact ih2
    · have z : fst1 j (fun i => decide (gl h 137 (o + i) = y)) = 0 := fst1_no (fun i hi => decide_eq_false (fun z => hn i j hi (by omega) (z.trans d.symm)))
      rw [if_pos z, if_pos (decide_eq_true d)] at ih2
      exact ih2
theorem s_named {o : Nat} {y : Int64} (ho : o + m ≤ 25) (e12 : gl h 130 12 = y) (hn : ∀ i j, i < j → j < m → gl h 137 (o + i) ≠ gl h 137 (o + j)) (K : kk (pre1 (fst1 m (fun i => decide (gl h 137 (o + i) = y)))) h) : MetPM m_X12_named [.ref 130, .int (nI o), .int (nI m)] h (rI q kk) := t_X12_named (l_named ho e12 hn K m 0 (by omega))
theorem l_namede {o : Nat} (ho : o + m ≤ 25) (K : ∀ x, kk x h) : ∀ k j, j + k = m → ∀ x, At m_X12_named (rI q kk) 5 0 [some (.ref 130), some (.int (nI o)), some (.int (nI m)), some (.int x), some (.int (nI j))] [] h := by
  intro k
  induction k with
  | zero => exact fun j hj x => u_X12_named_5 (pk_le m j (fun _ => K _) (fun y => absurd y (by omega)))
  | succ k ih =>
    intro j hj x
    refine u_X12_named_5 (pk_le m j (fun y => absurd y (by omega)) (fun _ => ?_))
    rw [nI_add, nI_add]
    exact ⟨vp_in_nI (by omega) (by omega), fun _ => ih (j + 1) (by omega) _, fun _ => ih (j + 1) (by omega) _⟩
theorem e_seen {o : Nat} (M : ME e pl h) (ho : o + m ≤ 25) (K : ∀ x, kk x h) : MetPM m_X12_seenName [.ref 130, .int (nI o), .int (nI m)] h (rI q kk) :=
  t_X12_seenName (e_good M ⟨fun _ => u_X12_seenName_20 (t_X12_named (l_namede ho (fun x => e_good M ⟨fun _ => u_X12_seenName_44 (K _), fun y => absurd rfl y⟩) m 0 (by omega) _)), fun y => absurd rfl y⟩)
theorem e_told {o : Nat} (M : ME e pl h) (ho : o + m ≤ 25) (K : ∀ x, kk x h) : MetPM m_X12_told [.ref 130, .int (nI o), .int (nI m)] h (rI q kk) :=
  t_X12_told (e_seen M ho (fun x => e_good M ⟨fun _ => K _, fun y => absurd rfl y⟩))
end
