/-! ===== links, waves; the class's draft ===== -/
section
variable {q : Nat → PH → Prop} {kk : Int32 → PH → Prop} {kl : Int64 → PH → Prop} {kv : PH → Prop} {h h' : PH} {s t : RW} {C E L : Nat} {a b n p w : Nat} {f g : FI} {nm : Nat → Int64}
def lnkS (s : RW) (a b : Nat) : RW := ups (lyS (lyS s a 6 (mf s a 6 ||| ((nI 1) <<< (nI b &&& 31)))) b 6 (mf s b 6 ||| ((nI 1) <<< (nI a &&& 31)))) 4 (s 4 + nI 1)
theorem lnk_lo {i : Nat} (h : i < 49) (h2 : i ≠ 4) : lnkS s a b i = s i := by
  unfold lnkS
  rw [ups_n h2, lyS_lo h, lyS_lo h]
theorem lnk_o {o x : Nat} (hx : x < 7) (h : x ≠ 6) : mf (lnkS s a b) o x = mf s o x := by
  unfold lnkS
  rw [mf_up (by omega), mf_ly (by omega) hx (by omega), mf_ly (by omega) hx (by omega)]
theorem lnk_6 {x : Nat} (hx : x ≠ a) (hx2 : x ≠ b) : mf (lnkS s a b) x 6 = mf s x 6 := by
  unfold lnkS
  rw [mf_up (by omega), mf_ly (by omega) (by omega) (by omega), mf_ly (by omega) (by omega) (by omega)]
theorem lnk_b {x y : Nat} (hab : a ≠ b) (ha : a < 32) (hb : b < 32) (hy : y < 32) : bt (mf (lnkS s a b) x 6) y = (bt (mf s x 6) y || ((decide (x = a) && decide (y = b)) || (decide (x = b) && decide (y = a)))) := by
  unfold lnkS
  rw [mf_up (by omega)]
  by_cases c : x = b
  · subst c
    rw [mf_lys, b_or, bt_one ha hy, decide_eq_false (p := x = a) (fun e => hab e.symm), decide_eq_true (p := x = x) rfl]
    simp
  · rw [mf_ly (by omega) (by omega) (by omega)]
    by_cases d : x = a
    · subst d
      rw [mf_lys, b_or, bt_one hb hy]
      simp [c]
    · rw [mf_ly (by omega) (by omega) (by omega)]
      simp [c, d]
theorem lnk_par {x y : Nat} (hab : a ≠ b) (ha : a < 32) (hb : b < 32) (hy : y < 32) : par (lnkS s a b) x y = (par s x y || (!decide (x = y) && ((decide (x = a) && decide (y = b)) || (decide (x = b) && decide (y = a))))) := by
  unfold par
  rw [lnk_b hab ha hb hy, lnk_o (by omega) (by omega), lnk_o (by omega) (by omega)]
  cases decide (x = y) <;> cases decide (mf s x 0 = mf s y 0) <;> cases bt (mf s x 6) y <;> simp
theorem PR.lnk (P : PR s) (hab : a ≠ b) (ha : a < nn (s 2)) (hb : b < nn (s 2)) (h4 : nn (s 4) < 20) : PR (lnkS s a b) := by
  have h2 := P.x.2.1.2
  have e4 := P.x.2.2.2.1.sc (by omega)
  have o : ∀ i, i < 49 → i ≠ 4 → lnkS s a b i = s i := fun i x1 x2 => lnk_lo x1 x2
  obtain ⟨x1, x2, x3, x4, x5, x6, x7⟩ := P.x
  refine ⟨P.v.congr (o 0 (by omega) (by omega)) (fun i _ _ => o i (by omega) (by omega)), P.n.congr (fun i _ _ => o i (by omega) (by omega)), ⟨?_, ?_, ?_, ?_, fun m hm' => ?_, fun p' hp' => ?_, fun x y hx hy => ?_⟩, ⟨?_, ?_, ?_, ?_⟩, fun m hm' => ?_, P.zv.congr (o 0 (by omega) (by omega)) P.v.1.2 (fun i _ _ => o i (by omega) (by omega)), ⟨fun p' hp' h => ?_, fun m hm' h => ?_, fun m i hm' h => ?_⟩⟩
  · rw [o 1 (by omega) (by omega)]; exact x1
  · rw [o 2 (by omega) (by omega)]; exact x2
  · rw [o 3 (by omega) (by omega)]; exact x3
  · unfold lnkS
    rw [ups_s, e4.1]
    exact isN_nI (by omega) (by omega)
  · rw [o 2 (by omega) (by omega)] at hm'
    rw [o 1 (by omega) (by omega)]
    unfold pN
    rw [lnk_o (by omega) (by omega)]
    exact x5 m hm'
  · rw [o 1 (by omega) (by omega)] at hp'
    have := x1.2
    rw [o (44 + p') (by omega) (by omega), o 3 (by omega) (by omega)]
    exact x6 p' hp'
  · rw [o 2 (by omega) (by omega)] at hx hy
    rw [lnk_par hab (by omega) (by omega) (by omega), lnk_par hab (by omega) (by omega) (by omega), x7 x y hx hy]
    have q1 : decide (y = x) = decide (x = y) := decide_eq_decide.mpr ⟨fun z => z.symm, fun z => z.symm⟩
    rw [q1]
    have q2 : ((decide (x = a) && decide (y = b)) || (decide (x = b) && decide (y = a))) = ((decide (y = a) && decide (x = b)) || (decide (y = b) && decide (x = a))) := by
      cases decide (x = a) <;> cases decide (x = b) <;> cases decide (y = a) <;> cases decide (y = b) <;> rfl
    rw [q2]
  · rw [o 5 (by omega) (by omega)]; exact P.c.1
  · rw [o 11 (by omega) (by omega)]; exact P.c.2.1
  · rw [o 12 (by omega) (by omega)]; exact P.c.2.2.1
  · rw [o 19 (by omega) (by omega)]; exact P.c.2.2.2
  · rw [o 2 (by omega) (by omega)] at hm'
    have M := P.m m hm'
    unfold Pm vN at M ⊢
    rw [lnk_o (by omega) (by omega), lnk_o (by omega) (by omega), lnk_o (by omega) (by omega), lnk_o (by omega) (by omega), lnk_o (by omega) (by omega), o 0 (by omega) (by omega)]
    exact M
  · rw [o 1 (by omega) (by omega)] at h
    rw [o (44 + p') (by omega) (by omega)]; exact P.zx.1 p' hp' h
  · rw [o 2 (by omega) (by omega)] at h
    rw [lnk_o (by omega) (by omega), lnk_6 (by omega) (by omega)]
    exact P.zx.2.1 m hm' h
  · rw [o 2 (by omega) (by omega)] at hm' h
    rcases Nat.lt_or_ge i 32 with hi | hi
    · rw [lnk_b hab (by omega) (by omega) hi, P.zx.2.2 m i hm' h, decide_eq_false (show ¬ i = b by omega), decide_eq_false (show ¬ i = a by omega)]
      simp
    · exact b_big hi
/-! waves -/
def wvS (s : RW) : RW := ups s 3 (s 3 + nI 1)
theorem PR.wv (P : PR s) (h5 : nn (s 3) < 5) : PR (wvS s) ∧ nn (wvS s 3) = nn (s 3) + 1 ∧ wvS s 3 = nI (nn (s 3) + 1) := by
  have e3 := P.x.2.2.1.sc (by omega)
  have e : wvS s 3 = nI (nn (s 3) + 1) := by unfold wvS; rw [ups_s]; exact e3.1
  have en : nn (wvS s 3) = nn (s 3) + 1 := by rw [e, nn_nI (by omega)]
  have o : ∀ i, i ≠ 3 → wvS s i = s i := fun i x1 => ups_n x1
  have h2 := P.x.2.1.2
  obtain ⟨x1, x2, x3, x4, x5, x6, x7⟩ := P.x
  refine ⟨⟨P.v.congr (o 0 (by omega)) (fun i _ _ => o i (by omega)), P.n.congr (fun i _ _ => o i (by omega)), ⟨?_, ?_, ?_, ?_, fun m hm' => ?_, fun p' hp' => ?_, fun x y hx hy => ?_⟩, ⟨?_, ?_, ?_, ?_⟩, fun m hm' => ?_, P.zv.congr (o 0 (by omega)) P.v.1.2 (fun i _ _ => o i (by omega)), P.zx.congr (o 1 (by omega)) (o 2 (by omega)) h2 (fun i _ _ => o i (by omega))⟩, en, e⟩
  · rw [o 1 (by omega)]; exact x1
  · rw [o 2 (by omega)]; exact x2
  · rw [e]; exact isN_nI (by omega) (by omega)
  · rw [o 4 (by omega)]; exact x4
  · rw [o 2 (by omega)] at hm'
    rw [o 1 (by omega)]
    unfold pN
    rw [show mf (wvS s) m 0 = mf s m 0 from o _ (by omega)]
    exact x5 m hm'
  · rw [o 1 (by omega)] at hp'
    rw [o (44 + p') (by omega), en]
    rcases x6 p' hp' with y | y
    · exact Or.inl y
    · exact Or.inr ⟨y.1, by have := y.2; omega⟩
  · rw [o 2 (by omega)] at hx hy
    have em : ∀ m w, mf (wvS s) m w = mf s m w := fun m w => o _ (by omega)
    unfold par
    rw [em, em, em, em]
    exact x7 x y hx hy
  · rw [o 5 (by omega)]; exact P.c.1
  · rw [o 11 (by omega)]; exact P.c.2.1
  · rw [o 12 (by omega)]; exact P.c.2.2.1
  · rw [o 19 (by omega)]; exact P.c.2.2.2
  · rw [o 2 (by omega)] at hm'
    exact (P.m m hm').congr (by omega) (by rw [o 0 (by omega)]; exact Nat.le_refl _) (fun w _ => o _ (by omega))
def wpS (s : RW) (p w : Nat) : RW := ups s (44 + p) (nI w)
theorem PR.wp (P : PR s) (hp : p < nn (s 1)) (hw : w < nn (s 3)) : PR (wpS s p w) := by
  have h5 := P.x.1.2
  have h3 := P.x.2.2.1.2
  have h2 := P.x.2.1.2
  have o : ∀ i, i ≠ 44 + p → wpS s p w i = s i := fun i x1 => ups_n x1
  obtain ⟨x1, x2, x3, x4, x5, x6, x7⟩ := P.x
  have em : ∀ m x, mf (wpS s p w) m x = mf s m x := fun m x => o _ (by omega)
  refine ⟨P.v.congr (o 0 (by omega)) (fun i _ _ => o i (by omega)), P.n.congr (fun i _ _ => o i (by omega)), ⟨?_, ?_, ?_, ?_, fun m hm' => ?_, fun p' hp' => ?_, fun x y hx hy => ?_⟩, ⟨?_, ?_, ?_, ?_⟩, fun m hm' => ?_, P.zv.congr (o 0 (by omega)) P.v.1.2 (fun i _ _ => o i (by omega)), ⟨fun p' hp' h => ?_, fun m hm' h => ?_, fun m i hm' h => ?_⟩⟩
  · rw [o 1 (by omega)]; exact x1
  · rw [o 2 (by omega)]; exact x2
  · rw [o 3 (by omega)]; exact x3
  · rw [o 4 (by omega)]; exact x4
  · rw [o 2 (by omega)] at hm'
    rw [o 1 (by omega)]
    unfold pN
    rw [em]
    exact x5 m hm'
  · rw [o 1 (by omega)] at hp'
    rw [o 3 (by omega)]
    by_cases c : p' = p
    · subst c
      unfold wpS
      rw [ups_s, nn_nI (n := w) (by omega)]
      exact Or.inr ⟨isN_nI (by omega) (by omega), hw⟩
    · rw [o (44 + p') (by omega)]; exact x6 p' hp'
  · rw [o 2 (by omega)] at hx hy
    unfold par
    rw [em, em, em, em]
    exact x7 x y hx hy
  · rw [o 5 (by omega)]; exact P.c.1
  · rw [o 11 (by omega)]; exact P.c.2.1
  · rw [o 12 (by omega)]; exact P.c.2.2.1
  · rw [o 19 (by omega)]; exact P.c.2.2.2
  · rw [o 2 (by omega)] at hm'
    exact (P.m m hm').congr (by omega) (by rw [o 0 (by omega)]; exact Nat.le_refl _) (fun w _ => em _ _)
  · rw [o 1 (by omega)] at h
    rw [o (44 + p') (by omega)]; exact P.zx.1 p' hp' h
  · rw [o 2 (by omega)] at h
    rw [em, em]
    exact P.zx.2.1 m hm' h
  · rw [o 2 (by omega)] at hm' h
    rw [em]
    exact P.zx.2.2 m i hm' h
/-! a layout in three parts -/
def LyV (L : Nat) (s : RW) (f : FI) : Prop := f (L + 1) 1 = s 0 ∧ (∀ v, v < nn (s 0) → f (L + 3) v = s (20 + v)) ∧ (∀ v, v < nn (s 0) → f (L + 4) v = s (28 + v)) ∧ (∀ v, v < nn (s 0) → ∀ i, i < 32 → bt (f (L + 5) v) i = tlk s v i)
def LyN (L : Nat) (s : RW) (f : FI) : Prop := f L 13 = s 6 ∧ f L 14 = s 7 ∧ f L 15 = s 8 ∧ f L 16 = s 9 ∧ f L 17 = s 10
def LyM (L : Nat) (s : RW) (f : FI) : Prop := (f (L + 6) 1 = s 1 ∧ f (L + 11) 1 = s 2 ∧ f L 12 = s 3 ∧ f L 11 = s 4) ∧ (∀ p, p < nn (s 1) → f (L + 8) p = s (44 + p)) ∧ (∀ p, p < nn (s 1) → f (L + 9) p = mk (nn (s 2)) (fun m => decide (mf s m 0 = nI p))) ∧ (∀ w, w < nn (s 3) → f (L + 10) w = mk (nn (s 2)) (fun m => ofW s m (nI w))) ∧ (∀ m, m < nn (s 2) → f (L + 13) m = mf s m 0) ∧ (∀ m, m < nn (s 2) → f (L + 14) m = mk (nn (s 2)) (par s m))
theorem LyR.of3 (v : LyV L s f) (n : LyN L s f) (m : LyM L s f) : LyR L s f := ⟨v.1, m.1.1, m.1.2.1, m.1.2.2.1, m.1.2.2.2, n.1, n.2.1, n.2.2.1, n.2.2.2.1, n.2.2.2.2, v.2.1, v.2.2.1, v.2.2.2, m.2.1, m.2.2.1, m.2.2.2.1, m.2.2.2.2.1, m.2.2.2.2.2⟩
theorem LyR.v3 (Y : LyR L s f) : LyV L s f := ⟨Y.nv, Y.lo, Y.hi, Y.ta⟩
theorem LyR.n3 (Y : LyR L s f) : LyN L s f := ⟨Y.sk, Y.dn, Y.tk, Y.so, Y.lm⟩
theorem LyR.m3 (Y : LyR L s f) : LyM L s f := ⟨⟨Y.np, Y.nm, Y.wa, Y.li⟩, Y.wp, Y.ps, Y.ws, Y.po, Y.pa⟩
theorem LyV.congr (e0 : t 0 = s 0) (h8 : nn (s 0) ≤ 8) (e : ∀ i, 20 ≤ i → i < 44 → t i = s i) (g1 : g (L + 1) = f (L + 1)) (g3 : g (L + 3) = f (L + 3)) (g4 : g (L + 4) = f (L + 4)) (g5 : g (L + 5) = f (L + 5)) (Y : LyV L s f) : LyV L t g := by
  unfold LyV
  rw [e0, g1, g3, g4, g5]
  refine ⟨Y.1, fun v hv => ?_, fun v hv => ?_, fun v hv i hi => ?_⟩
  · rw [e _ (by omega) (by omega)]; exact Y.2.1 v hv
  · rw [e _ (by omega) (by omega)]; exact Y.2.2.1 v hv
  · unfold tlk
    rw [e _ (by omega) (by omega)]; exact Y.2.2.2 v hv i hi
theorem LyN.congr (e : ∀ i, 6 ≤ i → i ≤ 10 → t i = s i) (g0 : ∀ k, 13 ≤ k → k ≤ 17 → g L k = f L k) (Y : LyN L s f) : LyN L t g := by
  unfold LyN
  rw [e 6 (by omega) (by omega), e 7 (by omega) (by omega), e 8 (by omega) (by omega), e 9 (by omega) (by omega), e 10 (by omega) (by omega), g0 13 (by omega) (by omega), g0 14 (by omega) (by omega), g0 15 (by omega) (by omega), g0 16 (by omega) (by omega), g0 17 (by omega) (by omega)]
  exact Y
theorem ofW_e (X : RkX s) (e2 : ∀ i, 44 ≤ i → i < 133 → t i = s i) {m : Nat} {x : Int32} (hm : m < nn (s 2)) : ofW t m x = ofW s m x := by
  have h5 := X.1.2
  have h2 := X.2.1.2
  have h := (X.2.2.2.2.1 m hm).2
  have ep : pN t m = pN s m := by
    unfold pN
    rw [show mf t m 0 = mf s m 0 from e2 _ (by omega) (by omega)]
  unfold ofW wvOf
  rw [ep, e2 _ (by omega) (by omega)]
theorem LyM.congr (X : RkX s) (e1 : ∀ i, 1 ≤ i → i ≤ 4 → t i = s i) (e2 : ∀ i, 44 ≤ i → i < 133 → t i = s i) (g0 : g L 11 = f L 11 ∧ g L 12 = f L 12) (gc : ∀ i, i = 6 ∨ i = 8 ∨ i = 9 ∨ i = 10 ∨ i = 11 ∨ i = 13 ∨ i = 14 → g (L + i) = f (L + i)) (Y : LyM L s f) : LyM L t g := by
  obtain ⟨⟨y1, y2, y3, y4⟩, y5, y6, y7, y8, y9⟩ := Y
  have h5 := X.1.2
  have h2 := X.2.1.2
  have em : ∀ m w, m < 12 → w < 7 → mf t m w = mf s m w := fun m w hm hw => e2 _ (by omega) (by omega)
  unfold LyM
  rw [e1 1 (by omega) (by omega), e1 2 (by omega) (by omega), e1 3 (by omega) (by omega), e1 4 (by omega) (by omega), g0.1, g0.2, gc 6 (by omega), gc 8 (by omega), gc 9 (by omega), gc 10 (by omega), gc 11 (by omega), gc 13 (by omega), gc 14 (by omega)]
  refine ⟨⟨y1, y2, y3, y4⟩, fun p hp => ?_, fun p hp => ?_, fun w hw => ?_, fun m hm => ?_, fun m hm => ?_⟩
  · rw [e2 _ (by omega) (by omega)]; exact y5 p hp
  · rw [y6 p hp]; exact mk_eq fun m hm => by rw [em m 0 (by omega) (by omega)]
  · rw [y7 w hw]; exact mk_eq fun m hm => (ofW_e X e2 hm).symm
  · rw [em m 0 (by omega) (by omega)]; exact y8 m hm
  · rw [y9 m hm]
    refine mk_eq fun o ho => ?_
    unfold par
    rw [em m 0 (by omega) (by omega), em o 0 (by omega) (by omega), em m 6 (by omega) (by omega)]
/-- the class's draft against a row and the reference's names -/
def DN (nm : Nat → Int64) (s : RW) (h : PH) : Prop := (∀ i, i < nn (s 0) → NmE (gl h 32 i) (nm i)) ∧ (∀ i, i < nn (s 1) → NmE (gl h 37 i) (nm (8 + i))) ∧ (∀ i, i < nn (s 2) → NmE (gl h 42 i) (nm (13 + i)))
def DR (nm : Nat → Int64) (s : RW) (h : PH) : Prop := LyR 30 s h.1 ∧ StR 74 s h.1 ∧ DN nm s h
/-- what reading a cluster may change -/
def WD (b k : Nat) : Prop := (30 ≤ b ∧ b ≤ 44) ∨ (74 ≤ b ∧ b ≤ 78) ∨ (b = 79 ∧ k = 1)
def WDr (b k : Nat) : Prop := (30 ≤ b ∧ b ≤ 44) ∨ (74 ≤ b ∧ b ≤ 78) ∨ (b = 79 ∧ k = 1) ∨ (b = 4 ∧ k = 3)
def VD (b : Nat) : Prop := b = 32 ∨ b = 37 ∨ b = 42
theorem DR.fb (x : Fz WB VA h h') (D : DR nm s h) : DR nm s h' := by
  have c : ∀ b, b ≠ 1 → h'.1 b = h.1 b := fun b hb => x.cell fun k => by unfold WB; omega
  have l : ∀ b j, b ≠ 1 → gl h' b j = gl h b j := fun b j hb => by
    show h'.2.1 b j = h.2.1 b j
    rw [x.2.1 b hb]
  refine ⟨D.1.heap fun b h1 h2 => c b (by omega), D.2.1.heap fun b h1 h2 => c b (by omega), ?_⟩
  unfold DN
  simp only [l 32 _ (by omega : (32 : Nat) ≠ 1), l 37 _ (by omega : (37 : Nat) ≠ 1), l 42 _ (by omega : (42 : Nat) ≠ 1)]
  exact D.2.2
theorem CB.fd {c : Nat → Nat} (x : Fz WD VD h h') (B : CB c n h) : CB c n h' := B.fz x (by unfold WD; omega) (fun k => by unfold WD; omega)
theorem CT.fd {c : Nat → Nat} (x : Fz WD VD h h') (T : CT c n p h) : CT c n p h' := by
  unfold CT
  rw [x.1 1 4 (by unfold WD; omega), x.1 1 5 (by unfold WD; omega), x.1 1 8 (by unfold WD; omega), x.1 1 7 (by unfold WD; omega), show gl h' 1 6 = gl h 1 6 by
    show h'.2.1 1 6 = h.2.1 1 6
    rw [x.2.1 1 (by unfold VD; omega)]]
  exact T
def upn (nm : Nat → Int64) (k : Nat) (y : Int64) : Nat → Int64 := fun j => if j = k then y else nm j
theorem upn_s {k : Nat} {y : Int64} : upn nm k y k = y := if_pos rfl
theorem upn_n {k j : Nat} {y : Int64} (e : j ≠ k) : upn nm k y j = nm j := if_neg e
/-- the draft is empty -/
theorem c_resets (hring : ∃ w, w < 30 ∧ gi h 79 2 = nI w) (K : ∀ h', Fz WDr VD h h' → gi h' 4 3 = nI 0 → (∀ nm, DR nm (clrS s) h') → kv h') : MetPM m_X5_reset [.ref 30] h (rV q (fun h1 => MetPM m_X8_reset [.ref 74] h1 (rV q (fun h2 => kv (si h2 4 3 (nI 0)))))) := by
  have z : ∀ j, j < 5 → clrS s j = nI 0 := fun j hj => (clr_0 (by omega)).trans rfl
  have n0 : ∀ j, j < 5 → nn (clrS s j) = 0 := fun j hj => by rw [clr_0 (by omega)]; exact nn_0
  obtain ⟨c5, c6, c7, c8, c9, c10⟩ := clr_1 (s := s)
  refine t_X5_reset ?_
  intro h1
  refine t_X8_reset ?_
  intro h2
  refine ⟨isB_0, ?_⟩
  intro h3
  have e4 : gi (si h3 4 3 (nI 0)) 4 3 = nI 0 := gi_same
  have F : Fz WDr VD h (si h3 4 3 (nI 0)) := by
    have w : ∀ b k, ((30 ≤ b ∧ b ≤ 44) ∨ (74 ≤ b ∧ b ≤ 78) ∨ (b = 79 ∧ k = 1) ∨ (b = 4 ∧ k = 3)) → WDr b k := fun b k y => y
    have F1 : Fz WDr VD h h1 := (((((Fz.si h _ (w _ _ (by omega))).trans (Fz.si _ _ (w _ _ (by omega)))).trans (Fz.si _ _ (w _ _ (by omega)))).trans (Fz.si _ _ (w _ _ (by omega)))).trans (Fz.si _ _ (w _ _ (by omega)))).trans (Fz.si _ _ (w _ _ (by omega)))
    have F2 : Fz WDr VD h1 h2 := (((((((((Fz.si h1 _ (w 30 14 (by omega))).trans (Fz.si _ _ (w 30 15 (by omega)))).trans (Fz.si _ _ (w 30 16 (by omega)))).trans (Fz.si _ _ (w 30 17 (by omega)))).trans (Fz.si _ _ (w 74 1 (by omega)))).trans (Fz.si _ _ (w 74 2 (by omega)))).trans (Fz.si _ _ (w 74 7 (by omega)))).trans (Fz.si _ _ (w 74 8 (by omega)))).trans (Fz.si _ _ (w 74 9 (by omega)))).trans (Fz.si _ _ (w 74 10 (by omega)))
    have F3 : Fz WDr VD h2 h3 := ((((Fz.si h2 _ (w 74 11 (by omega))).trans (Fz.si _ _ (w 74 12 (by omega)))).trans (Fz.si _ _ (w 74 13 (by omega)))).trans (Fz.si _ _ (w 74 14 (by omega)))).trans (Fz.si _ _ (w 79 1 (by omega)))
    exact ((F1.trans F2).trans F3).trans (Fz.si _ _ (w 4 3 (by omega)))
  have o3 : ∀ b k, b ≠ 4 → gi (si h3 4 3 (nI 0)) b k = gi h3 b k := fun b k hb => gi_ob hb
  have v : ∀ b k x, b ≠ 4 → gi h3 b k = x → (si h3 4 3 (nI 0)).1 b k = x := fun b k x hb e => (o3 b k hb).trans e
  refine K _ F e4 (fun nm => ⟨LyR.of3 ⟨?_, fun i hi => ?_, fun i hi => ?_, fun i hi => ?_⟩ ⟨?_, ?_, ?_, ?_, ?_⟩ ⟨⟨?_, ?_, ?_, ?_⟩, fun i hi => ?_, fun i hi => ?_, fun i hi => ?_, fun i hi => ?_, fun i hi => ?_⟩, ⟨⟨fun i hi => ?_, fun i hi => ?_, fun i hi => ?_, fun i hi => ?_, ?_, ?_⟩, ⟨?_, ?_, ?_, ?_, fun hp => ?_, ?_⟩, ?_⟩, ⟨fun i hi => ?_, fun i hi => ?_, fun i hi => ?_⟩⟩)
  · rw [z 0 (by omega)]; exact v 31 1 _ (by omega) rfl
  · rw [n0 0 (by omega)] at hi; omega
  · rw [n0 0 (by omega)] at hi; omega
  · rw [n0 0 (by omega)] at hi; omega
  · rw [c6]; exact v 30 13 _ (by omega) rfl
  · rw [c7]; exact v 30 14 _ (by omega) rfl
  · rw [c8]; exact v 30 15 _ (by omega) rfl
  · rw [c9]; exact v 30 16 _ (by omega) rfl
  · rw [c10]; exact v 30 17 _ (by omega) rfl
  · rw [z 1 (by omega)]; exact v 36 1 _ (by omega) rfl
  · rw [z 2 (by omega)]; exact v 41 1 _ (by omega) rfl
  · rw [z 3 (by omega)]; exact v 30 12 _ (by omega) rfl
  · rw [z 4 (by omega)]; exact v 30 11 _ (by omega) rfl
  · rw [n0 1 (by omega)] at hi; omega
  · rw [n0 1 (by omega)] at hi; omega
  · rw [n0 3 (by omega)] at hi; omega
  · rw [n0 2 (by omega)] at hi; omega
  · rw [n0 2 (by omega)] at hi; omega
  · rw [n0 2 (by omega)] at hi; omega
  · rw [n0 2 (by omega)] at hi; omega
  · rw [n0 2 (by omega)] at hi; omega
  · rw [n0 2 (by omega)] at hi; omega
  · rw [n0 2 (by omega)]; exact v 74 7 _ (by omega) rfl
  · rw [n0 2 (by omega)]; exact v 74 8 _ (by omega) rfl
  · rw [v 74 12 _ (by omega) rfl]; exact isB_0
  · rw [clr_0 (by omega)]; exact v 74 1 _ (by omega) rfl
  · rw [c5]; exact v 74 2 _ (by omega) rfl
  · rw [clr_0 (by omega)]; exact v 74 9 _ (by omega) rfl
  · exfalso
    unfold hasP at hp
    rw [clr_0 (by omega)] at hp
    exact absurd hp (by decide)
  · rw [soakE_n (n := 0) (clr_0 (by omega)) (Or.inl rfl)]; exact (v 74 14 _ (by omega) rfl).trans m1_eq
  · obtain ⟨w, hw, ew⟩ := hring
    have k0 : kEv (clrS s) = 0 := by
      unfold kEv
      rw [clr_0 (by omega), nn_0]; rfl
    refine ⟨?_, w, hw, ?_, fun i hi => ?_⟩
    · rw [k0]; exact v 79 1 _ (by omega) rfl
    · exact (F.1 79 2 (by unfold WDr; omega)).trans ew
    · rw [k0] at hi; omega
  · rw [n0 0 (by omega)] at hi; omega
  · rw [n0 1 (by omega)] at hi; omega
  · rw [n0 2 (by omega)] at hi; omega
end

