/-! ===== what will be: the questions, both sides ===== -/
section
variable {q : Nat → PH → Prop} {kk : Int32 → PH → Prop} {kv : PH → Prop} {h : PH} {s t : RW} {C E : Nat} {a : Nat} {f g : FI}
def WQ (b k : Nat) : Bool := (Nat.beq b 132 && Nat.blt k 253) || (Nat.beq b 136 || (Nat.beq b 130 && (Nat.beq k 0 || (Nat.beq k 25 || (Nat.beq k 26 || Nat.beq k 27)))))
def W136 (b k : Nat) : Bool := Nat.beq b 136
theorem WM_WQ {b k : Nat} (e : WQ b k = false) : WM b k = false := by
  unfold WQ at e
  unfold WM
  revert e
  cases Nat.beq b 132 <;> cases Nat.blt k 253 <;> cases Nat.beq b 136 <;> cases Nat.beq b 130 <;> cases Nat.beq k 0 <;> cases Nat.beq k 25 <;> cases Nat.beq k 26 <;> cases Nat.beq k 27 <;> decide
theorem WR_WQ {b k : Nat} (e : WQ b k = false) : WR b k = false := by
  unfold WQ at e
  unfold WR
  revert e
  cases Nat.beq b 132 && Nat.blt k 253
  · intro _; rfl
  · intro z; cases z
theorem W136_WQ {b k : Nat} (e : WQ b k = false) : W136 b k = false := by
  unfold WQ at e
  unfold W136
  revert e
  cases Nat.beq b 136
  · intro _; rfl
  · cases Nat.beq b 132 && Nat.blt k 253 <;> (intro z; cases z)
theorem l_thinks {h0 : PH} (K : ∀ h', Fr W136 h0 h' → (∀ j, j < 253 → gi h' 136 j = gi h0 132 j) → kv h') : ∀ k i h, i + k = 253 → Fr W136 h0 h → (∀ j, j < i → gi h 136 j = gi h0 132 j) → At m_X12_thinks (rV q kv) 2 0 [some (.ref 130), some (.int (nI i))] [] h := by
  intro k
  induction k with
  | zero =>
    intro i h hi F A
    refine u_X12_thinks_2 (pk_le 253 i (fun _ => ?_) (fun z => absurd z (by omega)))
    exact K h F (fun j hj => A j (by omega))
  | succ k ih =>
    intro i h hi F A
    refine u_X12_thinks_2 (pk_le 253 i (fun z => absurd z (by omega)) (fun _ => ⟨rv (by omega), rv (by omega), ?_⟩))
    rw [cl (by omega), nI_add]
    refine ih (i + 1) _ (by omega) (F.and _ rfl) (fun j hj => ?_)
    by_cases c : j = i
    · subst c; rw [gi_same, F.1 132 j rfl]
    · rw [gi_ok c]; exact A j (by omega)
theorem s_thinks (K : ∀ h', Fr W136 h h' → (∀ j, j < 253 → gi h' 136 j = gi h 132 j) → kv h') : MetPM m_X12_thinks [.ref 130] h (rV q kv) := t_X12_thinks (l_thinks K _ 0 h (Nat.zero_add _) (Fr.refl _ _) (fun j hj => absurd hj (Nat.not_lt_zero j)))
theorem l_noMore {h0 : PH} (K : ∀ h', Fr WR h0 h' → (∀ j, j < 253 → gi h' 132 j = gi h0 136 j) → kv h') : ∀ k i h, i + k = 253 → Fr WR h0 h → (∀ j, j < i → gi h 132 j = gi h0 136 j) → At m_X12_thinksNoMore (rV q kv) 2 0 [some (.ref 130), some (.int (nI i))] [] h := by
  intro k
  induction k with
  | zero =>
    intro i h hi F A
    refine u_X12_thinksNoMore_2 (pk_le 253 i (fun _ => ?_) (fun z => absurd z (by omega)))
    exact K h F (fun j hj => A j (by omega))
  | succ k ih =>
    intro i h hi F A
    refine u_X12_thinksNoMore_2 (pk_le 253 i (fun z => absurd z (by omega)) (fun _ => ⟨rv (by omega), rv (by omega), ?_⟩))
    rw [cl (by omega), nI_add]
    refine ih (i + 1) _ (by omega) (F.and _ (WR_t (by omega))) (fun j hj => ?_)
    by_cases c : j = i
    · subst c; rw [gi_same, F.1 136 j rfl]
    · rw [gi_ok c]; exact A j (by omega)
theorem s_noMore (K : ∀ h', Fr WR h h' → (∀ j, j < 253 → gi h' 132 j = gi h 136 j) → kv h') : MetPM m_X12_thinksNoMore [.ref 130] h (rV q kv) := t_X12_thinksNoMore (l_noMore K _ 0 h (Nat.zero_add _) (Fr.refl _ _) (fun j hj => absurd hj (Nat.not_lt_zero j)))
/-- a thought: what is done to the row is forgotten -/
theorem think_fr {h0 h1 h2 h3 : PH} (hs : h0.1 132 = s) (f1 : Fr W136 h0 h1) (a1 : ∀ j, j < 253 → gi h1 136 j = gi h0 132 j) (f2 : Fr WM h1 h2) (f3 : Fr WR h2 h3) (a3 : ∀ j, j < 253 → gi h3 132 j = gi h2 136 j) : Fr WQ h0 h3 ∧ h3.1 132 = s := by
  have T := ((f1.mono fun b k e => W136_WQ e).trans (f2.mono fun b k e => WM_WQ e)).trans (f3.mono fun b k e => WR_WQ e)
  refine ⟨T, funext fun i => ?_⟩
  show gi h3 132 i = s i
  by_cases c : i < 253
  · rw [a3 i c, f2.1 136 i rfl, a1 i c]
    exact congrFun hs i
  · have e : Nat.blt i 253 = false := by
      cases z : Nat.blt i 253
      · rfl
      · exact absurd (Nat.le_of_ble_eq_true z) c
    rw [T.1 132 i (by unfold WQ; rw [e]; rfl)]
    exact congrFun hs i
/-- what a question of the reference leaves: its code is c -/
def Qs (s : RW) (c : Nat) (h h' : PH) : Prop := Fr WQ h h' ∧ h'.1 132 = s ∧ gi h' 130 0 = nI c
theorem Qs.of0 (hs : h.1 132 = s) (c : Nat) : Qs s c h (si h 130 0 (nI c)) := ⟨Fr.wr h _ rfl, hs0 hs, gi_same⟩
theorem Qs.th {h0 h1 h2 h3 : PH} (hs : h0.1 132 = s) {c : Nat} (f1 : Fr W136 (si h0 130 0 (nI c)) h1) (a1 : ∀ j, j < 253 → gi h1 136 j = gi (si h0 130 0 (nI c)) 132 j) (f2 : Fr WM h1 h2) (f3 : Fr WR h2 h3) (a3 : ∀ j, j < 253 → gi h3 132 j = gi h2 136 j) : Qs s c h0 h3 := by
  have T := think_fr (hs0 hs) f1 a1 f2 f3 a3
  refine ⟨(Fr.wr h0 _ rfl).trans T.1, T.2, ?_⟩
  rw [f3.1 130 0 rfl, f2.1 130 0 rfl, f1.1 130 0 rfl, gi_same]
theorem thk_row {h1 : PH} (hs : h.1 132 = s) (f1 : Fr W136 h h1) : h1.1 132 = s := (f1.cell fun k => rfl).trans hs
theorem s_minutesToEnd {x : Int32} (R : Rk C E s) (hC : C + 2000 < 2 ^ 29) (hE : E + 30 * 2000 < 2 ^ 31) (hs : h.1 132 = s) (K0 : inR x 0 2000 = false → kk (nI 0) (si h 130 0 (nI 1))) (K1 : inR x 0 2000 = true → ∀ h', Qs s 0 h h' → kk (pre1 (endF s (nn x))) h') : MetPM m_X12_minutesToEnd [.ref 130, .int x] h (rI q kk) := by
  refine t_X12_minutesToEnd (s_isInR (a := 0) (b := 2000) (by omega) (by omega) (s_gate (fun e => g0 (K0 e)) (fun e => g1 ?_)))
  have K := K1 e
  obtain ⟨e1, _, e2⟩ := inR_n (a := 0) (b := 2000) (by omega) e
  generalize nn x = j at K e1 e2
  subst e1
  refine s_thinks (fun h1 f1 a1 => s_toEnd R e2 (by omega) (by omega) (thk_row (hs0 hs) f1) (fun h2 f2 => s_noMore (fun h3 f3 a3 => ?_)))
  exact K h3 (Qs.th hs f1 a1 f2 f3 a3)
def fre (s : RW) (m : Nat) : Nat := endF (lyS s m 5 (b2i false)) 2000
theorem s_ifFree {m : Nat} {h0 : PH} (R : Rk C E s) (hC : C + 2000 < 2 ^ 29) (hE : E + 30 * 2000 < 2 ^ 31) (hs : h.1 132 = s) (hm : m < nn (s 2)) (K : ∀ h', Fr WQ h h' → h'.1 132 = s → gi h' 130 0 = gi h 130 0 → kk (pre1 (fre s m)) h') : MetPM m_X12_ifFree [.ref 130, .int (nI m)] h (rI q kk) := by
  have hm2 := R.m.2
  refine t_X12_ifFree (s_thinks (fun h1 f1 a1 => s_lays (thk_row hs f1) (by omega) (fun h2 e2 r2 => ?_)))
  have f2 : Fr WM h1 h2 := by rw [e2]; exact Fr.wr h1 _ (WM_t (by omega))
  have R2 : Rk C E (lyS s m 5 (b2i false)) := R.ly hm (Or.inr ⟨rfl, b2i_c false⟩)
  refine s_toEnd (n := 2000) R2 (by omega) (by omega) (by omega) r2 (fun h3 f3 => s_noMore (fun h4 f4 a4 => ?_))
  have T := think_fr hs f1 a1 (f2.trans f3) f4 a4
  exact K h4 T.1 T.2 (by rw [f4.1 130 0 rfl, f3.1 130 0 rfl, f2.1 130 0 rfl, f1.1 130 0 rfl])
theorem s_minutesIfFree {x : Int32} (R : Rk C E s) (hC : C + 2000 < 2 ^ 29) (hE : E + 30 * 2000 < 2 ^ 31) (hs : h.1 132 = s) (K0 : inM s x = false → kk (nI 0) (si h 130 0 (nI 1))) (K1 : inM s x = true → ∀ h', Qs s 0 h h' → kk (pre1 (fre s (nn x))) h') : MetPM m_X12_minutesIfFree [.ref 130, .int x] h (rI q kk) := by
  refine t_X12_minutesIfFree (s_isM R hs (s_gate (fun e => f0 (K0 e)) (fun e => f1 ?_)))
  have K := K1 e
  obtain ⟨e1, e2⟩ := inM_t R e
  generalize nn x = j at K e1 e2
  subst e1
  exact s_ifFree (h0 := h) R hC hE (hs0 hs) e2 (fun h' f1 q1 c1 => K h' ⟨(Fr.wr h _ rfl).trans f1, q1, by rw [c1, gi_same]⟩)
/-- the best member to free, one more, and its minutes -/
def bst (s : RW) : Nat → Nat × Nat
  | 0 => (0, 2001)
  | n + 1 => if decide (mf s n 5 = nI 1) = true ∧ fre s n ≠ 0 ∧ fre s n - 1 < (bst s n).2 then (n + 1, fre s n - 1) else bst s n
theorem fre_le {m : Nat} : fre s m ≤ 2001 := fst1_le
theorem bst_ok : ∀ n, (bst s n).1 ≤ n ∧ (bst s n).2 ≤ 2001 ∧ ((bst s n).1 = 0 → (bst s n).2 = 2001)
  | 0 => ⟨Nat.le_refl _, Nat.le_refl _, fun _ => rfl⟩
  | n + 1 => by
    have ih := bst_ok n
    have := fre_le (s := s) (m := n)
    rw [bst]
    split
    · exact ⟨Nat.le_refl _, by show fre s n - 1 ≤ 2001; omega, fun z => by cases z⟩
    · exact ⟨by omega, ih.2.1, ih.2.2⟩
theorem l_bestM {h0 : PH} (R : Rk C E s) (hC : C + 2000 < 2 ^ 29) (hE : E + 30 * 2000 < 2 ^ 31) (K : ∀ h', Fr WQ h0 h' → h'.1 132 = s → gi h' 130 0 = gi h0 130 0 → kk (pre1 (bst s (nn (s 2))).1) h') : ∀ k i h x2 o4, i + k = nn (s 2) → Fr WQ h0 h → h.1 132 = s → gi h 130 0 = gi h0 130 0 → ((bst s i).1 ≠ 0 → x2 = nI (bst s i).2) → At m_X12_bestToFree (rI q kk) 11 0 [some (.ref 130), some (.int (pre1 (bst s i).1)), some (.int x2), some (.int (nI i)), o4] [] h := by
  have hm2 := R.m.2
  intro k
  induction k with
  | zero =>
    intro i h x2 o4 hi F hs c0 hx
    refine u_X12_bestToFree_11 ⟨rv (by omega), ?_⟩
    rw [rd hs 2 (by omega), R.m.1]
    refine pk_le (nn (s 2)) i (fun _ => ?_) (fun z => absurd z (by omega))
    have : i = nn (s 2) := by omega
    subst this
    exact K h F hs c0
  | succ k ih =>
    intro i h x2 o4 hi F hs c0 hx
    refine u_X12_bestToFree_11 ⟨rv (by omega), ?_⟩
    rw [rd hs 2 (by omega), R.m.1]
    refine pk_le (nn (s 2)) i (fun z => absurd z (by omega)) (fun hlt => s_of hs (by omega) ?_)
    have bo := bst_ok (s := s) i
    have fl := fre_le (s := s) (m := i)
    have no : bst s (i + 1) = bst s i → ∀ h x4, Fr WQ h0 h → h.1 132 = s → gi h 130 0 = gi h0 130 0 → At m_X12_bestToFree (rI q kk) 67 0 [some (.ref 130), some (.int (pre1 (bst s i).1)), some (.int x2), some (.int (nI i)), some (.int x4)] [] h := fun e h x4 F hs c0 => by
      refine u_X12_bestToFree_67 ?_
      rw [nI_add]
      have ih2 := ih (i + 1) h x2 (some (.int x4)) (by omega) F hs c0
      rw [e] at ih2
      exact ih2 hx
    have yes : bst s (i + 1) = (i + 1, fre s i - 1) → ∀ h, Fr WQ h0 h → h.1 132 = s → gi h 130 0 = gi h0 130 0 → At m_X12_bestToFree (rI q kk) 62 0 [some (.ref 130), some (.int (pre1 (bst s i).1)), some (.int x2), some (.int (nI i)), some (.int (nI (fre s i - 1)))] [] h := fun e h F hs c0 => by
      refine u_X12_bestToFree_62 (u_X12_bestToFree_67 ?_)
      rw [nI_add]
      have ih2 := ih (i + 1) h (nI (fre s i - 1)) (some (.int (nI (fre s i - 1)))) (by omega) F hs c0
      rw [e] at ih2
      exact ih2 (fun _ => rfl)
    rw [he_eq R hlt]
    cases hb : decide (mf s i 5 = nI 1)
    · have e : bst s (i + 1) = bst s i := by
        rw [bst, if_neg]
        rw [hb]
        rintro ⟨z, -⟩
        cases z
      exact ⟨fun _ => ⟨fun _ => no e h _ F hs c0, fun z => absurd rfl z⟩, fun z => absurd z (by decide)⟩
    · refine ⟨fun z => absurd rfl z, fun _ => s_ifFree (h0 := h0) R hC hE hs hlt (fun h1 f1 r1 c1 => ?_)⟩
      have F1 := F.trans f1
      have c2 := c1.trans c0
      rw [pre1_n1 (by omega)]
      refine ⟨fun c => no ?_ h1 _ F1 r1 c2, fun c => ?_⟩
      · rw [bst, if_neg]
        rintro ⟨-, z, -⟩
        exact z c
      · obtain ⟨w, ew⟩ : ∃ w, fre s i = w + 1 := ⟨fre s i - 1, by omega⟩
        have ep : pre1 (fre s i) = nI (fre s i - 1) := by rw [ew]; rfl
        rw [ep, pre1_n1 (by omega)]
        refine ⟨fun d => yes ?_ h1 F1 r1 c2, fun d => ?_⟩
        · rw [bst, if_pos]
          refine ⟨hb, c, ?_⟩
          rw [bo.2.2 d]; omega
        · refine pk_lt (fre s i - 1) (bst s i).2 (fun g => yes ?_ h1 F1 r1 c2) (fun g => no ?_ h1 _ F1 r1 c2) (hy := hx d)
          · rw [bst, if_pos ⟨hb, c, g⟩]
          · rw [bst, if_neg]
            rintro ⟨-, -, z⟩
            omega
theorem s_bestToFree (R : Rk C E s) (hC : C + 2000 < 2 ^ 29) (hE : E + 30 * 2000 < 2 ^ 31) (hs : h.1 132 = s) (K : ∀ h', Qs s 0 h h' → kk (pre1 (bst s (nn (s 2))).1) h') : MetPM m_X12_bestToFree [.ref 130] h (rI q kk) :=
  t_X12_bestToFree (l_bestM (h0 := si h 130 0 (nI 0)) R hC hE (fun h' f1 r1 c1 => K h' ⟨(Fr.wr h _ rfl).trans f1, r1, by rw [c1, gi_same]⟩) _ 0 _ (nI 0) none (Nat.zero_add _) (Fr.refl _ _) (hs0 hs) rfl (fun z => absurd rfl z))
theorem l_chg {h0 h9 : PH} {n : Nat} {b : Int32} (R : Rk C E s) (hC : C + n < 2 ^ 29) (hE : E + 30 * n < 2 ^ 31) (hs9 : h9.1 132 = s) (f9 : Fr W136 (si h9 130 0 (nI 0)) h0) (a9 : ∀ j, j < 253 → gi h0 136 j = gi (si h9 130 0 (nI 0)) 132 j) (K : ∀ h', Qs s 0 h9 h' → kk (nI (chN s n)) h') : ∀ k i h, i + k = n → Fr WM h0 h → h.1 132 = itS i s → gi h 130 27 = b + nI (chN s i) → At m_X12_changesIn (rI q kk) 29 0 [some (.ref 130), some (.int (nI n)), some (.int b), some (.int (nI i))] [] h := by
  intro k
  induction k with
  | zero =>
    intro i h hi F hs hb
    refine u_X12_changesIn_29 (pk_le n i (fun _ => s_noMore (fun h1 f1 a1 => ?_)) (fun z => absurd z (by omega)))
    have : i = n := by omega
    subst this
    rw [f1.1 130 27 rfl, hb, Int32.add_comm, Int32.add_sub_cancel]
    exact K h1 (Qs.th hs9 f9 a9 F f1 a1)
  | succ k ih =>
    intro i h hi F hs hb
    refine u_X12_changesIn_29 (pk_le n i (fun z => absurd z (by omega)) (fun _ => ?_))
    refine s_minute (R.it i (by omega) (by omega)) (by omega) (by omega) hs (fun h1 f1 r1 g1 => ?_)
    rw [nI_add]
    refine ih (i + 1) h1 (by omega) (F.trans f1) r1 ?_
    rw [g1, hb, Int32.add_assoc, nI_add]
    rfl
theorem s_changesIn {x : Int32} (R : Rk C E s) (hC : C + 2000 < 2 ^ 29) (hE : E + 30 * 2000 < 2 ^ 31) (hs : h.1 132 = s) (K0 : inR x 0 2000 = false → kk (nI 0) (si h 130 0 (nI 1))) (K1 : inR x 0 2000 = true → ∀ h', Qs s 0 h h' → kk (nI (chN s (nn x))) h') : MetPM m_X12_changesIn [.ref 130, .int x] h (rI q kk) := by
  refine t_X12_changesIn (s_isInR (a := 0) (b := 2000) (by omega) (by omega) (s_gate (fun e => g0 (K0 e)) (fun e => g1 ?_)))
  have K := K1 e
  obtain ⟨e1, _, e2⟩ := inR_n (a := 0) (b := 2000) (by omega) e
  generalize nn x = j at K e1 e2
  subst e1
  refine s_thinks (fun h1 f1 a1 => l_chg R (by omega) (by omega) hs f1 a1 K _ 0 h1 (Nat.zero_add _) (Fr.refl _ _) (thk_row (hs0 hs) f1) ?_)
  show gi h1 130 27 = gi h1 130 27 + nI 0
  rw [show nI 0 = (0 : Int32) from rfl, Int32.add_zero]
def wsB (s : RW) (m : Nat) (x : Int32) : Bool := going s && decide (minS (lyS s m 4 x) 12 = nI 3)
theorem s_wouldStop {x y : Int32} (R : Rk C E s) (hC : C + 2000 < 2 ^ 29) (hE : E + 30 * 2000 < 2 ^ 31) (hs : h.1 132 = s) (K0 : inM s x = false → kk (nI 0) (si h 130 0 (nI 1))) (K2 : inM s x = true → inR y 0 999 = false → kk (nI 0) (si h 130 0 (nI 2))) (K1 : inM s x = true → inR y 0 999 = true → ∀ h', Qs s 0 h h' → kk (b2i (wsB s (nn x) y)) h') : MetPM m_X12_wouldStop [.ref 130, .int x, .int y] h (rI q kk) := by
  have hm2 := R.m.2
  refine t_X12_wouldStop (s_isM R hs (s_isInR (a := 0) (b := 999) (by omega) (by omega) (s_gate2 (fun e => g0 ⟨isB_0, K0 e⟩) (fun e e2 => g0 ⟨isB_0, K2 e e2⟩) (fun e e2 => g1 ?_))))
  have K := K1 e e2
  obtain ⟨e1, e3⟩ := inM_t R e
  obtain ⟨e4, _, e5⟩ := inR_n (a := 0) (b := 999) (by omega) e2
  have hy : isN y 999 := ⟨e4, e5⟩
  generalize nn x = j at K e1 e3
  subst e1
  have R2 : Rk C E (lyS s j 4 y) := R.ly e3 (Or.inl ⟨rfl, hy⟩)
  refine s_thinks (fun h1 f1 a1 => s_isGoing (thk_row (hs0 hs) f1) (s_lays (thk_row (hs0 hs) f1) (by omega) (fun h2 e7 r2 => ?_)))
  have f2 : Fr WM h1 h2 := by rw [e7]; exact Fr.wr h1 _ (WM_t (by omega))
  refine s_minute R2 (by omega) (by omega) r2 (fun h3 f3 r3 _ => ?_)
  have fin : ∀ h4, Fr WR h3 h4 → (∀ j, j < 253 → gi h4 132 j = gi h3 136 j) → Qs s 0 h h4 := fun h4 f4 a4 => Qs.th hs f1 a1 (f2.trans f3) f4 a4
  unfold wsB at K
  refine bq (fun g => s_noMore (fun h4 f4 a4 => ⟨isB_0, ?_⟩)) (fun g => ⟨rv (by omega), ?_⟩)
  · have K := K h4 (fin h4 f4 a4)
    rw [g] at K; exact K
  · rw [rd r3 12 (by omega)]
    refine ⟨fun c => s_noMore (fun h4 f4 a4 => ⟨isB_0, ?_⟩), fun c => s_noMore (fun h4 f4 a4 => ⟨isB_1, ?_⟩)⟩
    · have K := K h4 (fin h4 f4 a4)
      rw [g, decide_eq_false c] at K; exact K
    · have K := K h4 (fin h4 f4 a4)
      rw [g, decide_eq_true c] at K; exact K
/-! the class: on its trial -/
theorem c_trial (R : Rk C E s) (X : CR 60 s h) (K : ∀ h', Fr (WS 67) h h' → CR 67 s h' → kv h') : MetPM m_X8_copyFrom [.ref 67, .ref 60] h (rV q kv) :=
  c_copySt (Or.inl ⟨rfl, rfl⟩) X.2.ib (fun h1 f1 c1 => K h1 f1 ⟨X.1.fr (Or.inr rfl) f1, X.2.cp R.m.2 c1⟩)
theorem c_minutesToEnd {x : Int32} (R : Rk C E s) (hC : C + 2002 < 2 ^ 29) (hE : E + 30 * 2002 < 2 ^ 31) (X : CR 60 s h) (K0 : inR x 0 2000 = false → q 1 h) (K1 : inR x 0 2000 = true → ∀ h', Fr (WS 67) h h' → kk (pre1 (endF s (nn x))) h') : MetPM m_X11_minutesToEnd [.ref 0, .int x] h (rI q kk) := by
  refine t_X11_minutesToEnd ⟨Nat.le_of_ble_eq_true rfl, c_needAhead K0 (fun e => ?_)⟩
  have K := K1 e
  obtain ⟨e1, _, e2⟩ := inR_n (a := 0) (b := 2000) (by omega) e
  generalize nn x = j at K e1 e2
  subst e1
  exact c_trial R X (fun h1 f1 X1 => c_toDone (Or.inr rfl) R e2 (by omega) (by omega) X1 (fun h2 f2 => K h2 (f1.trans f2)))
theorem c_freed {m : Nat} (R : Rk C E s) (hC : C + 2002 < 2 ^ 29) (hE : E + 30 * 2002 < 2 ^ 31) (X : CR 60 s h) (hm : m < nn (s 2)) (K : ∀ h', Fr (WS 67) h h' → kk (pre1 (fre s m)) h') : MetPM m_X11_minutesWhenFreed [.ref 0, .int (nI m)] h (rI q kk) := by
  have hm2 := R.m.2
  refine t_X11_minutesWhenFreed (c_trial R X (fun h1 f1 X1 => ?_))
  rw [show gi h1 67 8 = _ from X1.2.he, mk_clr (by omega) (by omega)]
  have em : mk (nn (s 2)) (fun j => decide (mf s j 5 = nI 1) && !decide (j = m)) = mk (nn (s 2)) (fun o => decide (mf (lyS s m 5 (b2i false)) o 5 = nI 1)) := mk_eq fun o ho => by
    by_cases c : o = m
    · subst c; rw [mf_lys]; simp; decide
    · rw [mf_ly (by omega) (by omega) (by omega)]; simp [c]
  have X2 := X1.ly5 (b := false) (Or.inr rfl) R hm em
  have R2 : Rk C E (lyS s m 5 (b2i false)) := R.ly hm (Or.inr ⟨rfl, b2i_c false⟩)
  exact c_toDone (n := 2000) (Or.inr rfl) R2 (by omega) (by omega) (by omega) X2 (fun h2 f2 => K h2 ((f1.and _ (WS_t (by omega) (by omega))).trans f2))
theorem c_minutesIfFree {x : Int32} (R : Rk C E s) (hC : C + 2002 < 2 ^ 29) (hE : E + 30 * 2002 < 2 ^ 31) (X : CR 60 s h) (K0 : inM s x = false → q 2 h) (K1 : inM s x = true → ∀ h', Fr (WS 67) h h' → kk (pre1 (fre s (nn x))) h') : MetPM m_X11_minutesIfFree [.ref 0, .int x] h (rI q kk) := by
  refine t_X11_minutesIfFree ⟨Nat.le_of_ble_eq_true rfl, c_needMember R X.1 K0 (fun e => ?_)⟩
  have K := K1 e
  obtain ⟨e1, e2⟩ := inM_t R e
  generalize nn x = j at K e1 e2
  subst e1
  exact c_freed R hC hE X e2 K
theorem StR.cp2 (X : ∀ b, b < 67 → g b = f b) (S : StR 60 s f) : StR 60 s g := by
  refine ⟨⟨?_, ?_, ?_, ?_, ?_, ?_⟩, ⟨?_, ?_, ?_, ?_, ?_, ?_⟩, ?_⟩
  · rw [X 61 (by omega)]; exact S.ve
  · rw [X 62 (by omega)]; exact S.co
  · rw [X 63 (by omega)]; exact S.un
  · rw [X 64 (by omega)]; exact S.me
  · rw [X 60 (by omega)]; exact S.ds
  · rw [X 60 (by omega)]; exact S.he
  · rw [X 60 (by omega)]; exact S.ib
  · rw [X 60 (by omega)]; exact S.ck
  · rw [X 60 (by omega)]; exact S.fo
  · rw [X 60 (by omega)]; exact S.st
  · rw [X 60 (by omega)]; exact S.pl
  · rw [X 60 (by omega)]; exact S.se
  · have := S.ev
    unfold StE
    rw [X 65 (by omega), X 66 (by omega)]; exact this
theorem CR.tr {h' : PH} (X : CR 60 s h) (f : Fr (WS 67) h h') : CR 60 s h' := by
  have e : ∀ b, b < 67 → h'.1 b = h.1 b := fun b hb => f.cell fun k => WS_f (by omega)
  refine ⟨X.1.fr (Or.inr rfl) f, X.2.cp2 ?_⟩
  exact e
theorem l_bestC {h0 : PH} (R : Rk C E s) (hC : C + 2002 < 2 ^ 29) (hE : E + 30 * 2002 < 2 ^ 31) (K : ∀ h', Fr (WS 67) h0 h' → kk (pre1 (bst s (nn (s 2))).1) h') : ∀ k i h o4, i + k = nn (s 2) → Fr (WS 67) h0 h → CR 60 s h → At m_X11_bestToFree (rI q kk) 8 0 [some (.ref 0), some (.int (pre1 (bst s i).1)), some (.int (nI (bst s i).2)), some (.int (nI i)), o4] [] h := by
  have hm2 := R.m.2
  intro k
  induction k with
  | zero =>
    intro i h o4 hi F X
    refine u_X11_bestToFree_8 (nm_le R X.1 (fun z => ?_) (fun z => absurd z (by omega)) (by omega))
    rw [z]; exact K h F
  | succ k ih =>
    intro i h o4 hi F X
    refine u_X11_bestToFree_8 (nm_le R X.1 (fun z => absurd z (by omega)) (fun z => ?_) (by omega))
    have bo := bst_ok (s := s) i
    have fl := fre_le (s := s) (m := i)
    have no : bst s (i + 1) = bst s i → ∀ h o4, Fr (WS 67) h0 h → CR 60 s h → At m_X11_bestToFree (rI q kk) 8 0 [some (.ref 0), some (.int (pre1 (bst s i).1)), some (.int (nI (bst s i).2)), some (.int (nI i + nI 1)), o4] [] h := fun e h o4 F X => by
      have ih2 := ih (i + 1) h o4 (by omega) F X
      rw [e] at ih2
      rw [nI_add]; exact ih2
    refine c_isIn (by omega) ?_
    rw [show gi h 60 8 = _ from X.2.he, bt_mk_in (by omega) z]
    refine bq (fun e => ⟨fun _ => no ?_ h _ F X, fun y => absurd rfl y⟩) (fun e => c_freed R hC hE X z (fun h1 f1 => ?_))
    · rw [bst, if_neg]
      rw [e]
      rintro ⟨y, -⟩
      cases y
    · have F1 := F.trans f1
      have X1 := X.tr f1
      rw [pre1_n1 (by omega)]
      refine ⟨fun c => no ?_ h1 _ F1 X1, fun c => ?_⟩
      · rw [bst, if_neg]
        rintro ⟨-, y, -⟩
        exact y c
      · obtain ⟨w, ew⟩ : ∃ w, fre s i = w + 1 := ⟨fre s i - 1, by omega⟩
        have ep : pre1 (fre s i) = nI (fre s i - 1) := by rw [ew]; rfl
        rw [ep]
        refine pk_le (bst s i).2 (fre s i - 1) (fun g => no ?_ h1 _ F1 X1) (fun g => ?_)
        · rw [bst, if_neg]
          rintro ⟨-, -, y⟩
          omega
        · have e9 : bst s (i + 1) = (i + 1, fre s i - 1) := by rw [bst, if_pos ⟨e, c, g⟩]
          have ih2 := ih (i + 1) h1 (some (.int (nI (fre s i - 1)))) (by omega) F1 X1
          rw [e9] at ih2
          rw [nI_add]; exact ih2
theorem c_bestToFree (R : Rk C E s) (hC : C + 2002 < 2 ^ 29) (hE : E + 30 * 2002 < 2 ^ 31) (X : CR 60 s h) (K : ∀ h', Fr (WS 67) h h' → kk (pre1 (bst s (nn (s 2))).1) h') : MetPM m_X11_bestToFree [.ref 0] h (rI q kk) := t_X11_bestToFree (l_bestC R hC hE K _ 0 h none (Nat.zero_add _) (Fr.refl _ _) X)
theorem c_changesIn {x : Int32} (R : Rk C E s) (hC : C + 2002 < 2 ^ 29) (hE : E + 30 * 2002 < 2 ^ 31) (X : CR 60 s h) (K0 : inR x 0 2000 = false → q 1 h) (K1 : inR x 0 2000 = true → ∀ h', Fr (WS 67) h h' → kk (nI (chN s (nn x))) h') : MetPM m_X11_changesIn [.ref 0, .int x] h (rI q kk) := by
  refine t_X11_changesIn ⟨Nat.le_of_ble_eq_true rfl, c_needAhead K0 (fun e => ?_)⟩
  have K := K1 e
  obtain ⟨e1, _, e2⟩ := inR_n (a := 0) (b := 2000) (by omega) e
  generalize nn x = j at K e1 e2
  subst e1
  exact c_trial R X (fun h1 f1 X1 => c_within (Or.inr rfl) R e2 (by omega) (by omega) X1 (fun h2 f2 => K h2 (f1.trans f2)))
theorem c_wouldStop {x y : Int32} (R : Rk C E s) (hC : C + 2002 < 2 ^ 29) (hE : E + 30 * 2002 < 2 ^ 31) (X : CR 60 s h) (K0 : inM s x = false → q 2 h) (K2 : inM s x = true → inR y 0 999 = false → q 1 h) (K1 : inM s x = true → inR y 0 999 = true → ∀ h', Fr (WS 67) h h' → kk (b2i (wsB s (nn x) y)) h') : MetPM m_X11_wouldStop [.ref 0, .int x, .int y] h (rI q kk) := by
  have hm2 := R.m.2
  refine t_X11_wouldStop ⟨Nat.le_of_ble_eq_true rfl, c_needMember R X.1 K0 (fun e => ⟨Nat.le_of_ble_eq_true rfl, c_needMeasure (K2 e) (fun e2 => ?_)⟩)⟩
  have K := K1 e e2
  obtain ⟨e1, e3⟩ := inM_t R e
  obtain ⟨e4, _, e5⟩ := inR_n (a := 0) (b := 999) (by omega) e2
  have hy : isN y 999 := ⟨e4, e5⟩
  generalize nn x = j at K e1 e3
  subst e1
  have R2 : Rk C E (lyS s j 4 y) := R.ly e3 (Or.inl ⟨rfl, hy⟩)
  unfold wsB at K
  refine c_isActive (Or.inl rfl) X.2 (bp (fun g => ⟨isB_0, ?_⟩) (fun g => c_trial R X (fun h1 f1 X1 => ⟨vp_in_nI (by omega) (by omega), ?_⟩)))
  · have K := K h (Fr.refl _ _)
    rw [g] at K; exact K
  · rw [cl (by omega)]
    refine c_passMinute (Or.inr rfl) R2 (by omega) (by omega) (X1.ly4 (Or.inr rfl) R e3) (fun h2 f2 X2 => ?_)
    have F : Fr (WS 67) h h2 := (f1.and (a := 71) (k := j) y (WS_t (by omega) (by omega))).trans f2
    rw [show gi h2 67 9 = _ from X2.2.st]
    refine ⟨fun c => ⟨isB_0, ?_⟩, fun c => ⟨isB_1, ?_⟩⟩
    · have K := K h2 F
      rw [g, decide_eq_false c] at K; exact K
    · have K := K h2 F
      rw [g, decide_eq_true c] at K; exact K
end
