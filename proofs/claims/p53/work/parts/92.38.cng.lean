/-! ===== the changes of calls and of commands: both sides ===== -/
section
variable {q : Nat → PH → Prop} {kk : Int32 → PH → Prop} {kv : PH → Prop} {h : PH} {s t : RW} {C E : Nat} {a : Nat}
theorem WS5 {h h' : PH} (f : Fr (WE a) h h') : Fr (WS a) h h' := f.mono fun b k e => WE_WS e
/-! a change of a member's measure, or of its being held back -/
theorem Rk.ly {m w : Nat} {x : Int32} (R : Rk C E s) (hm : m < nn (s 2)) (hw : (w = 4 ∧ isN x 999) ∨ (w = 5 ∧ (x = 0 ∨ x = nI 1))) : Rk C E (lyS s m w x) := by
  have hm2 := R.m.2
  have ag : agL s (lyS s m w x) := agL_ly (by omega) (by omega)
  have e11 : lyS s m w x 11 = s 11 := lyS_lo (by omega)
  refine ⟨R.1.congr ag, ⟨by rw [e11]; exact R.ck, fun o ho => ?_⟩, R.2.2.1.congr ag.n0 ag.n3 (lyS_lo (by omega)) (fun i _ _ => lyS_lo (by omega)), by rw [lyS_lo (by omega)]; exact R.ev⟩
  rw [ag.n2] at ho
  have R1 := R.2.1.2 o ho
  by_cases c : o = m
  · subst c
    have e : ∀ v, v < 7 → v ≠ w → mf (lyS s o w x) o v = mf s o v := fun v hv hn => mf_ly (by omega) hv (by omega)
    have d : isD (lyS s o w x) o = isD s o := isD_of (e 2 (by omega) (by omega))
    refine ⟨?_, ?_, ?_, ?_, ?_, ?_⟩
    · unfold vN; rw [e 1 (by omega) (by omega), ag.n0]; exact R1.ve
    · rw [d, e 2 (by omega) (by omega), ag.n0]; exact R1.nx
    · rw [d, e 3 (by omega) (by omega)]; exact R1.up
    · rw [d, e 3 (by omega) (by omega), e11]; exact R1.un
    · rcases hw with ⟨h1, h2⟩ | ⟨h1, h2⟩
      · subst h1; rw [mf_lys]; exact h2
      · rw [e 4 (by omega) (by omega)]; exact R1.me
    · rcases hw with ⟨h1, h2⟩ | ⟨h1, h2⟩
      · rw [e 5 (by omega) (by omega)]; exact R1.he
      · subst h1; rw [mf_lys]; exact h2
  · exact R1.congr ag.n0 e11 (fun v _ _ => mf_ly (by omega) (by omega) (by omega))
theorem CR.ly4 {m : Nat} {x : Int32} (ha : a = 60 ∨ a = 67) (R : Rk C E s) (X : CR a s h) (hm : m < nn (s 2)) : CR a (lyS s m 4 x) (si h (a + 4) m x) := by
  have hm2 := R.m.2
  have ag : agL s (lyS s m 4 x) := agL_ly (by omega) (by omega)
  have e : ∀ o v, o < 12 → v < 7 → v ≠ 4 → mf (lyS s m 4 x) o v = mf s o v := fun o v ho hv hn => mf_ly (by omega) hv (by omega)
  have f : ∀ b, b ≠ a + 4 → (si h (a + 4) m x).1 b = h.1 b := fun b e => si_b e
  refine ⟨(X.1.heap fun b h1 h2 => f b (by omega)).congr ag R.1, ⟨?_, ?_, ?_, ?_, ?_, ?_⟩, ?_, ?_⟩
  · rw [ag.n2, f _ (by omega)]; intro o ho; rw [e o 1 (by omega) (by omega) (by omega)]; exact X.2.ve o ho
  · rw [ag.n2, f _ (by omega)]; intro o ho; rw [com_of (e o 2 (by omega) (by omega) (by omega)) (e o 1 (by omega) (by omega) (by omega))]; exact X.2.co o ho
  · rw [ag.n2, f _ (by omega)]; intro o ho; rw [e o 3 (by omega) (by omega) (by omega)]; exact X.2.un o ho
  · rw [ag.n2, si_a]
    intro o ho
    by_cases c : o = m
    · subst c; rw [ups_s, mf_lys]
    · rw [ups_n c, mf_ly (by omega) (by omega) (by omega)]; exact X.2.me o ho
  · rw [ag.n2, f _ (by omega), X.2.ds]; exact mk_eq fun o ho => (isD_of (e o 2 (by omega) (by omega) (by omega))).symm
  · rw [ag.n2, f _ (by omega), X.2.he]; exact mk_eq fun o ho => by rw [e o 5 (by omega) (by omega) (by omega)]
  · exact X.2.2.1.congr (fun i hi => lyS_lo (by omega)) (fun k _ _ => by rw [f _ (by omega)])
  · exact X.2.2.2.congr (lyS_lo (by omega)) (fun i hi => ups_n (by omega)) (f _ (by omega)) (f _ (by omega))
theorem CR.ly5 {m : Nat} {b : Bool} {y : Int32} (ha : a = 60 ∨ a = 67) (R : Rk C E s) (X : CR a s h) (hm : m < nn (s 2)) (hy : y = mk (nn (s 2)) (fun o => decide (mf (lyS s m 5 (b2i b)) o 5 = nI 1))) : CR a (lyS s m 5 (b2i b)) (si h a 8 y) := by
  have hm2 := R.m.2
  have ag : agL s (lyS s m 5 (b2i b)) := agL_ly (by omega) (by omega)
  have e : ∀ o v, o < 12 → v < 7 → v ≠ 5 → mf (lyS s m 5 (b2i b)) o v = mf s o v := fun o v ho hv hn => mf_ly (by omega) hv (by omega)
  have f : ∀ c, c ≠ a → (si h a 8 y).1 c = h.1 c := fun c e => si_b e
  have fa : ∀ k, k ≠ 8 → (si h a 8 y).1 a k = h.1 a k := fun k e => by rw [si_a, ups_n e]
  refine ⟨(X.1.heap fun b h1 h2 => f b (by omega)).congr ag R.1, ⟨?_, ?_, ?_, ?_, ?_, ?_⟩, ?_, ?_⟩
  · rw [ag.n2, f _ (by omega)]; intro o ho; rw [e o 1 (by omega) (by omega) (by omega)]; exact X.2.ve o ho
  · rw [ag.n2, f _ (by omega)]; intro o ho; rw [com_of (e o 2 (by omega) (by omega) (by omega)) (e o 1 (by omega) (by omega) (by omega))]; exact X.2.co o ho
  · rw [ag.n2, f _ (by omega)]; intro o ho; rw [e o 3 (by omega) (by omega) (by omega)]; exact X.2.un o ho
  · rw [ag.n2, f _ (by omega)]; intro o ho; rw [e o 4 (by omega) (by omega) (by omega)]; exact X.2.me o ho
  · rw [ag.n2, fa _ (by omega), X.2.ds]; exact mk_eq fun o ho => (isD_of (e o 2 (by omega) (by omega) (by omega))).symm
  · rw [ag.n2, si_a, ups_s]; exact hy
  · refine X.2.2.1.congr (fun i hi => lyS_lo (by omega)) (fun k _ h8 => fa k h8)
  · exact X.2.2.2.congr (lyS_lo (by omega)) (fun i hi => ups_n (by omega)) (f _ (by omega)) (f _ (by omega))
def hldS (s : RW) (m : Nat) (b : Bool) : RW := evS (lyS s m 5 (b2i b)) (nI 8) (nI m) (b2i b)
def hldN (s : RW) : Nat := cnt (nn (s 2)) (fun o => decide (mf s o 5 = nI 1))
theorem b2i_c (b : Bool) : b2i b = 0 ∨ b2i b = nI 1 := by cases b <;> first | exact Or.inl rfl | exact Or.inr rfl
theorem Rk.hld {m : Nat} {b : Bool} (R : Rk C E s) (hE : E + 1 < 2 ^ 31) (hm : m < nn (s 2)) : Rk C (E + 1) (hldS s m b) := (R.ly hm (Or.inr ⟨rfl, b2i_c b⟩)).evs hE
/-- an event behind any change -/
theorem CR.evt {k m n ck : Int32} (ha : a = 60 ∨ a = 67) (R : Rk C E s) (hE : E + 1 < 2 ^ 31) (X : CR a s h) (hck : ck = s 11) (K : ∀ h', Fr (WE a) h h' → CR a (evS s k m n) h' → kv h') : MetPM m_X3_add [.ref (a + 5), .int ck, .int k, .int m, .int n] h (rV q kv) :=
  c_add ha X.2.ev R.ev hE hck (fun h' f' S' => K h' f' (X.plan ha R (fun _ _ => rfl) (fun _ _ => rfl) (fun _ _ => rfl) X.2.2.1 f' S'))
theorem he_eq (R : Rk C E s) {m : Nat} (hm : m < nn (s 2)) : mf s m 5 = b2i (decide (mf s m 5 = nI 1)) := by
  rcases R.he m hm with e | e
  · rw [e]; decide
  · rw [e]; decide
theorem c_setHeld {m : Nat} {b : Bool} (ha : a = 60 ∨ a = 67) (R : Rk C E s) (hE : E + 1 < 2 ^ 31) (X : CR a s h) (hm : m < nn (s 2)) (K : ∀ h', Fr (WS a) h h' → CR a (hldS s m b) h' → kk (nI (hldN (hldS s m b))) h') : MetPM m_X8_setHeld [.ref a, .int (nI m), .int (b2i b)] h (rI q kk) := by
  have hm2 := R.m.2
  have R1 : Rk C E (lyS s m 5 (b2i b)) := R.ly hm (Or.inr ⟨rfl, b2i_c b⟩)
  have n2 : hldS s m b 2 = s 2 := by unfold hldS; rw [evS_lo (by omega) (by omega), lyS_lo (by omega)]
  have fin : ∀ y, y = mk (nn (s 2)) (fun o => decide (mf (lyS s m 5 (b2i b)) o 5 = nI 1)) → MetPM m_X3_add [.ref (a + 5), .int (gi (si h a 8 y) a 1), .int (nI 8), .int (nI m), .int (b2i b)] (si h a 8 y) (rV q (fun h1 => MetPM m_J6_bitCount_0f7a4 [.int (gi h1 a 8)] h1 (rI q (fun x3 h2 => rI q kk (.inl (some (.int x3))) h2)))) := fun y hy => by
    have X1 := X.ly5 ha R hm hy
    refine X1.evt ha R1 hE (X1.2.ck) (fun h1 f1 X2 => ?_)
    rw [show gi h1 a 8 = _ from X2.2.he, show nn ((evS (lyS s m 5 (b2i b)) (nI 8) (nI m) (b2i b)) 2) = nn (s 2) by rw [show (evS (lyS s m 5 (b2i b)) (nI 8) (nI m) (b2i b)) 2 = s 2 from n2]]
    refine c_bitMk hm2 ?_
    have K2 := K h1 ((Fr.wr h _ (WS_t (by omega) (by omega))).trans (WS5 f1)) X2
    unfold hldN at K2
    rw [n2] at K2
    exact K2
  refine t_X8_setHeld ha ?_
  cases b
  · refine ⟨fun _ => ⟨fun _ => fin _ ?_, fun z => absurd rfl z⟩, fun z => absurd rfl z⟩
    rw [show gi h a 8 = _ from X.2.he, mk_clr (by omega) (by omega)]
    refine mk_eq fun o ho => ?_
    by_cases c : o = m
    · subst c; rw [mf_lys]; simp; decide
    · rw [mf_ly (by omega) (by omega) (by omega)]; simp [c]
  · refine ⟨fun z => absurd z (by decide), fun _ => ⟨fun z => absurd z (by decide), fun _ => fin _ ?_⟩⟩
    rw [show gi h a 8 = _ from X.2.he, mk_set (by omega) hm]
    refine mk_eq fun o ho => ?_
    by_cases c : o = m
    · subst c; rw [mf_lys]; simp; decide
    · rw [mf_ly (by omega) (by omega) (by omega)]; simp [c]
/-! measures -/
theorem c_setMeasure {m : Nat} {x : Int32} (ha : a = 60 ∨ a = 67) (R : Rk C E s) (X : CR a s h) (hm : m < nn (s 2)) (K : ∀ h', Fr (WS a) h h' → CR a (lyS s m 4 x) h' → kk (mf s m 4) h') : MetPM m_X8_setMeasure [.ref a, .int (nI m), .int x] h (rI q kk) := by
  have hm2 := R.m.2
  refine t_X8_setMeasure ha ⟨vp_in_nI (by omega) (by omega), vp_in_nI (by omega) (by omega), ?_⟩
  rw [cl (by omega), show gi h (a + 4) m = mf s m 4 from X.2.me m hm]
  exact K _ (Fr.wr h _ (WS_t (by omega) (by omega))) (X.ly4 ha R hm)
/-! the format -/
def fmtS (s : RW) (x : Int32) : RW := evS (ups s 5 x) (nI 7) (-(nI 1)) x
theorem Rk.fm0 {x : Int32} (R : Rk C E s) (hx : isN x 9) : Rk C E (ups s 5 x) := by
  have hm2 := R.m.2
  have ag : agL s (ups s 5 x) := agL_up (by omega)
  refine ⟨R.1.congr ag, ⟨by rw [ups_n (by omega)]; exact R.ck, fun o ho => ?_⟩, ?_, by rw [ups_n (by omega)]; exact R.ev⟩
  · rw [ag.n2] at ho
    exact (R.2.1.2 o ho).congr ag.n0 (ups_n (by omega)) (fun w _ _ => mf_up (by omega))
  · have e : ∀ i, 12 ≤ i → (ups s 5 x) i = s i := fun i hi => ups_n (by omega)
    have d : hasP (ups s 5 x) = hasP s := hasP_of (e 12 (by omega))
    have T := R.2.2.1
    refine ⟨by rw [ups_s]; exact hx, by rw [e 12 (by omega)]; exact T.st, ?_, ?_, ?_, ?_, ?_, ?_⟩
    · rw [d, e 13 (by omega), ag.n0]; exact T.ta
    · rw [d, e 14 (by omega), ag.n0]; exact T.se
    · rw [d, e 15 (by omega), ag.n3]; exact T.tu
    · rw [d, e 17 (by omega), e 14 (by omega), e 13 (by omega)]; exact T.dr
    · rw [e 12 (by omega), e 18 (by omega)]; exact T.wa
    · rw [e 12 (by omega), e 18 (by omega), e 16 (by omega)]; exact T.en
theorem Rk.fmt {x : Int32} (R : Rk C E s) (hE : E + 1 < 2 ^ 31) (hx : isN x 9) : Rk C (E + 1) (fmtS s x) := (R.fm0 hx).evs hE
theorem CR.fm0 {x : Int32} (ha : a = 60 ∨ a = 67) (R : Rk C E s) (X : CR a s h) : CR a (ups s 5 x) (si h a 2 x) := by
  have hm2 := R.m.2
  have ag : agL s (ups s 5 x) := agL_up (by omega)
  have f : ∀ c, c ≠ a → (si h a 2 x).1 c = h.1 c := fun c e => si_b e
  have fa : ∀ k, k ≠ 2 → (si h a 2 x).1 a k = h.1 a k := fun k e => by rw [si_a, ups_n e]
  have e : ∀ i, 11 ≤ i → (ups s 5 x) i = s i := fun i hi => ups_n (by omega)
  refine ⟨(X.1.heap fun b h1 h2 => f b (by omega)).congr ag R.1, ?_, ⟨?_, ?_, ?_, ?_, ?_, ?_⟩, ?_⟩
  · exact X.2.1.congr ag.n2 hm2 (fun m w _ _ _ => mf_up (by omega)) (fa 7 (by omega)) (fa 8 (by omega)) (f _ (by omega)) (f _ (by omega)) (f _ (by omega)) (f _ (by omega))
  · rw [fa 12 (by omega)]; exact X.2.ib
  · rw [fa 1 (by omega), e 11 (by omega)]; exact X.2.ck
  · rw [si_a, ups_s, ups_s]
  · rw [fa 9 (by omega), e 12 (by omega)]; exact X.2.st
  · rw [hasP_of (e 12 (by omega)), fa 10 (by omega), fa 11 (by omega), fa 12 (by omega), fa 13 (by omega), e 13 (by omega), e 14 (by omega), e 17 (by omega), e 15 (by omega)]; exact X.2.pl
  · rw [fa 14 (by omega), soakE_of (e 12 (by omega)) (e 16 (by omega)) (e 18 (by omega))]; exact X.2.se
  · exact X.2.2.2.congr (e 19 (by omega)) (fun i hi => e i (by omega)) (f _ (by omega)) (f _ (by omega))
theorem c_setFormat {x : Int32} (ha : a = 60 ∨ a = 67) (R : Rk C E s) (hE : E + 1 < 2 ^ 31) (X : CR a s h) (hx : isN x 9) (K : ∀ h', Fr (WS a) h h' → CR a (fmtS s x) h' → kk (s 5) h') : MetPM m_X8_setFormat [.ref a, .int x] h (rI q kk) := by
  have X1 := X.fm0 (x := x) ha R
  refine t_X8_setFormat ha (X1.evt ha (R.fm0 hx) hE X1.2.ck (fun h1 f1 X2 => ?_))
  rw [show gi h a 2 = s 5 from X.2.fo]
  exact K h1 ((Fr.wr h _ (WS_t (by omega) (by omega))).trans (WS5 f1)) X2
/-! a change of a version -/
/-! a plan goes on -/
def gonS (s : RW) : RW := evS (ups s 12 (s 18)) (nI 5) (-(nI 1)) (s 15)
theorem gon_T (R : Rk C E s) (e12 : s 12 = nI 3) : RkT C (ups s 12 (s 18)) := by
  have hp := hasP_t e12 (by omega) (by omega)
  have T := R.2.2.1
  have w := T.wa e12
  have e : ∀ i, i ≠ 12 → (ups s 12 (s 18)) i = s i := fun i hi => ups_n hi
  refine ⟨by rw [e 5 (by omega)]; exact T.f, ?_, ?_, ?_, ?_, ?_, ?_, ?_⟩
  · rw [ups_s]
    rcases w with w | w
    · rw [w]; exact isN_nI (by omega) (by omega)
    · rw [w]; exact isN_nI (by omega) (by omega)
  · intro _; rw [e 13 (by omega), e 0 (by omega)]; exact T.ta hp
  · intro _; rw [e 14 (by omega), e 0 (by omega)]; exact T.se hp
  · intro _; rw [e 15 (by omega), e 3 (by omega)]; exact T.tu hp
  · intro _; rw [e 17 (by omega), e 14 (by omega), e 13 (by omega)]; exact T.dr hp
  · intro _; rw [e 18 (by omega)]; exact w
  · rw [ups_s, e 16 (by omega), e 18 (by omega)]
    intro z
    refine T.en (Or.inr ⟨e12, ?_⟩)
    rcases z with z | ⟨z, y⟩
    · exact z
    · exact y
theorem Rk.gon (R : Rk C E s) (hE : E + 1 < 2 ^ 31) (e12 : s 12 = nI 3) : Rk C (E + 1) (gonS s) := R.plan hE (fun i hi => ups_n (by omega)) (gon_T R e12)
theorem c_resumePlan (ha : a = 60 ∨ a = 67) (R : Rk C E s) (hE : E + 1 < 2 ^ 31) (e12 : s 12 = nI 3) (X : CR a s h) (K : ∀ h', Fr (WS a) h h' → CR a (gonS s) h' → kk (s 15) h') : MetPM m_X8_resumePlan [.ref a] h (rI q kk) := by
  have hp := hasP_t e12 (by omega) (by omega)
  have pl := X.2.pl hp
  have w := R.wa e12
  have e : ∀ i, i ≠ 12 → (ups s 12 (s 18)) i = s i := fun i hi => ups_n hi
  have fin : ∀ y, y = s 18 → MetPM m_X3_add [.ref (a + 5), .int (gi (si h a 9 y) a 1), .int (nI 5), .int (-(nI 1)), .int (gi (si h a 9 y) a 13)] (si h a 9 y) (rV q (fun h1 => rI q kk (.inl (some (.int (gi h1 a 13)))) h1)) := fun y hy => by
    have fa : ∀ k, k ≠ 9 → (si h a 9 y).1 a k = h.1 a k := fun k e => by rw [si_a, ups_n e]
    have X1 : CR a (ups s 12 (s 18)) (si h a 9 y) := by
      refine X.plan0 ha R (fun i hi => ups_n (by omega)) (fun b e => si_b e) (fun k hk => fa k (by omega)) ⟨?_, ?_, ?_, ?_, ?_, ?_⟩
      · rw [fa 12 (by omega)]; exact X.2.ib
      · rw [fa 1 (by omega), e 11 (by omega)]; exact X.2.ck
      · rw [fa 2 (by omega), e 5 (by omega)]; exact X.2.fo
      · rw [si_a, ups_s, ups_s]; exact hy
      · intro _; rw [fa 10 (by omega), fa 11 (by omega), fa 12 (by omega), fa 13 (by omega), e 13 (by omega), e 14 (by omega), e 17 (by omega), e 15 (by omega)]; exact pl
      · rw [fa 14 (by omega), show h.1 a 14 = soakE s from X.2.se]
        unfold soakE
        rw [ups_s, e 16 (by omega), e 18 (by omega), e12]
        rcases w with w | w
        · rw [w, if_neg, if_neg]
          · rintro (z | ⟨z, -⟩) <;> exact absurd z (by decide)
          · rintro (z | ⟨-, z⟩) <;> exact absurd z (by decide)
        · rw [w, if_pos (Or.inr ⟨rfl, rfl⟩), if_pos (Or.inl rfl)]
    have R1 : Rk C E (ups s 12 (s 18)) := R.plan0 (fun i hi => ups_n (by omega)) (gon_T R e12)
    rw [show gi (si h a 9 y) a 13 = s 15 from (fa 13 (by omega)).trans pl.2.2.2]
    refine X1.evt ha R1 hE X1.2.ck (fun h1 f1 X2 => ?_)
    have e13 : gi h1 a 13 = s 15 := by
      show h1.1 a 13 = _
      rw [WEc f1 (by omega) (by omega), fa 13 (by omega)]; exact pl.2.2.2
    rw [e13]
    exact K h1 ((Fr.wr h _ (WS_t (by omega) (by omega))).trans (WS5 f1)) X2
  refine t_X8_resumePlan ha ?_
  rw [show gi h a 14 = soakE s from X.2.se]
  unfold soakE
  rw [e12]
  rcases w with w | w
  · rw [w, if_neg (by rintro (z | ⟨-, z⟩) <;> exact absurd z (by decide))]
    exact ⟨fun z => absurd m1_eq.symm z, fun _ => fin _ w.symm⟩
  · rw [w, if_pos (Or.inr ⟨rfl, rfl⟩)]
    have e16 := (R.en (Or.inr ⟨e12, w⟩)).nm1
    rw [m1_eq]
    exact ⟨fun _ => fin _ w.symm, fun z => absurd z e16⟩
end

