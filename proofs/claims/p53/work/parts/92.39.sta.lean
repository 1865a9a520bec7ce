/-! ===== a plan is begun, minutes pass: both sides ===== -/
section
variable {q : Nat → PH → Prop} {kk : Int32 → PH → Prop} {kv : PH → Prop} {h : PH} {s t : RW} {C E : Nat} {a : Nat}
theorem lo1_hi1 {p : Nat → Bool} {g : Nat → Nat} : ∀ n, (lo1 n p g = 0 ↔ hi1 n p g = 0) ∧ lo1 n p g ≤ hi1 n p g
  | 0 => ⟨Iff.rfl, Nat.le_refl _⟩
  | n + 1 => by
    have ih := lo1_hi1 (p := p) (g := g) n
    rw [lo1, hi1]
    split
    · split <;> split <;> (try split) <;> omega
    · exact ih
theorem lo1_z {p : Nat → Bool} {g : Nat → Nat} : ∀ n, lo1 n p g = 0 ↔ anyN n p = false
  | 0 => ⟨fun _ => rfl, fun _ => rfl⟩
  | n + 1 => by
    have ih := lo1_z (p := p) (g := g) n
    rw [lo1, anyN, Bool.or_eq_false_iff]
    cases e : p n
    · simp [ih]
    · simp only [Bool.true_eq_false, and_false, iff_false]
      split
      · omega
      · split <;> omega
def loF (s : RW) : Nat := lo1 (nn (s 2)) (free s) (cN s)
def hiF (s : RW) : Nat := hi1 (nn (s 2)) (free s) (cN s)
def staU (s : RW) (x : Int32) : RW := ups (ups (evS s (nI 2) (-(nI 1)) x) 13 x) 15 (nI 0)
abbrev staD (s : RW) (j : Nat) : Prop := loF s = 0 ∨ (loF s = j + 1 ∧ hiF s = j + 1)
def staV (s : RW) (j : Nat) : Int32 := if loF s < j + 1 then nI (loF s) else nI (hiF s - 2)
def staS (s : RW) (j : Nat) : RW := if staD s j then doneS (staU s (nI j)) else ups (ups (ups (staU s (nI j)) 17 (if loF s < j + 1 then nI 1 else nI 0)) 14 (staV s j)) 12 (nI 1)
def staR (s : RW) (j : Nat) : Int32 := if staD s j then -(nI 1) else staV s j
theorem loF_le (R : Rk C E s) : loF s ≤ nn (s 0) ∧ hiF s ≤ nn (s 0) ∧ nn (s 0) ≤ 8 := ⟨lo1_le fun j hj => (cN_lt R hj).2.2, hi1_le fun j hj => (cN_lt R hj).2.2, R.v.2⟩
theorem loF_hi : (loF s = 0 ↔ hiF s = 0) ∧ loF s ≤ hiF s := lo1_hi1 _
theorem staU_n {x : Int32} {i : Nat} (hi : i < 12 ∨ 19 ≤ i) : staU s x i = evS s (nI 2) (-(nI 1)) x i := by unfold staU; rw [ups_n (by omega), ups_n (by omega)]
theorem sta_n {j i : Nat} (hd : ¬ staD s j) (hi : i < 12 ∨ 19 ≤ i) : staS s j i = evS s (nI 2) (-(nI 1)) (nI j) i := by
  unfold staS
  rw [if_neg hd, ups_n (by omega), ups_n (by omega), ups_n (by omega), staU_n hi]
theorem Rk.sta {j : Nat} (R : Rk C E s) (hE : E + 2 < 2 ^ 31) (hj : j < nn (s 0)) (hw : 0 < nn (s 3)) : Rk C (E + 2) (staS s j) := by
  have R1 : Rk C (E + 1) (evS s (nI 2) (-(nI 1)) (nI j)) := R.evs (by omega)
  have hl := loF_le R
  have hh := loF_hi (s := s)
  have lo : ∀ i, i < 19 → (evS s (nI 2) (-(nI 1)) (nI j)) i = s i := fun i hi => evS_lo (by omega) (by omega)
  by_cases c : staD s j
  · unfold staS
    rw [if_pos c]
    refine R1.plan (by omega) (fun i hi => ?_) (RkT.none (n := 4) ?_ ups_s (by omega))
    · rw [ups_n (by omega), staU_n hi]
    · rw [ups_n (by omega), staU_n (by omega), lo 5 (by omega)]; exact R.f
  · refine (R1.plan0 (u := staS s j) (fun i hi => sta_n c hi) ?_).mono (Nat.le_refl _) (by omega)
    have c2 := c
    unfold staD at c2
    have e0 : staS s j 0 = s 0 := by rw [sta_n c (by omega), lo 0 (by omega)]
    have e3 : staS s j 3 = s 3 := by rw [sta_n c (by omega), lo 3 (by omega)]
    have e5 : staS s j 5 = s 5 := by rw [sta_n c (by omega), lo 5 (by omega)]
    have e12 : staS s j 12 = nI 1 := by unfold staS; rw [if_neg c, ups_s]
    have e14 : staS s j 14 = staV s j := by unfold staS; rw [if_neg c, ups_n (by omega), ups_s]
    have e17 : staS s j 17 = (if loF s < j + 1 then nI 1 else nI 0) := by unfold staS; rw [if_neg c, ups_n (by omega), ups_n (by omega), ups_s]
    have e15 : staS s j 15 = nI 0 := by unfold staS staU; rw [if_neg c, ups_n (by omega), ups_n (by omega), ups_n (by omega), ups_s]
    have e13 : staS s j 13 = nI j := by unfold staS staU; rw [if_neg c, ups_n (by omega), ups_n (by omega), ups_n (by omega), ups_n (by omega), ups_s]
    have v14 : ∃ w, staV s j = nI w ∧ w < nn (s 0) ∧ (loF s < j + 1 → w ≤ j) ∧ (¬ loF s < j + 1 → j ≤ w) := by
      unfold staV
      by_cases d : loF s < j + 1
      · rw [if_pos d]; exact ⟨_, rfl, by omega, fun _ => by omega, fun z => absurd d z⟩
      · rw [if_neg d]; exact ⟨_, rfl, by omega, fun z => absurd z d, fun _ => by omega⟩
    obtain ⟨w, w1, w2, w3, w4⟩ := v14
    rw [w1] at e14
    refine ⟨by rw [e5]; exact R.f, by rw [e12]; exact isN_nI (by omega) (by omega), ?_, ?_, ?_, ?_, ?_, ?_⟩
    · intro _; rw [e13, e0, nn_nI (n := j) (by omega)]; exact ⟨isN_nI (by omega) (by omega), hj⟩
    · intro _; rw [e14, e0, nn_nI (n := w) (by omega)]; exact ⟨isN_nI (by omega) (by omega), w2⟩
    · intro _; rw [e15, e3, nn_nI (n := 0) (by omega)]; exact ⟨isN_nI (by omega) (by omega), hw⟩
    · intro _
      rw [e17, e14, e13, nn_nI (n := j) (by omega), nn_nI (n := w) (by omega)]
      by_cases d : loF s < j + 1
      · rw [if_pos d]; exact Or.inl ⟨rfl, w3 d⟩
      · rw [if_neg d]; exact Or.inr ⟨rfl, w4 d⟩
    · rw [e12]; intro z; exact absurd z (by decide)
    · rw [e12]; rintro (z | ⟨z, -⟩) <;> exact absurd z (by decide)
theorem c_startPlan {j : Nat} (ha : a = 60 ∨ a = 67) (R : Rk C E s) (hE : E + 2 < 2 ^ 31) (X : CR a s h) (hj : j < nn (s 0)) (K : ∀ h', Fr (WS a) h h' → CR a (staS s j) h' → kk (staR s j) h') : MetPM m_X8_startPlan [.ref a, .int (nI j)] h (rI q kk) := by
  have hm2 := R.m.2
  have hl := loF_le R
  have hh := loF_hi (s := s)
  have R1 : Rk C (E + 1) (evS s (nI 2) (-(nI 1)) (nI j)) := R.evs (by omega)
  have lo : ∀ i, i < 19 → (evS s (nI 2) (-(nI 1)) (nI j)) i = s i := fun i hi => evS_lo (by omega) (by omega)
  have em : mk (nn (s 2)) (fun m => plnd s m && !decide (mf s m 5 = nI 1)) = mk (nn (s 2)) (free s) := mk_eq fun m hm => by
    unfold free
    rw [he_b R hm]
  refine t_X8_startPlan ha (c_plannedMembers R X.1 ?_)
  rw [show gi h a 8 = _ from X.2.he, mk_dif (by omega), em]
  refine c_lowestComing ha R X.1 X.2 (c_highestComing ha R X.1 X.2 ?_)
  rw [show gi h a 1 = s 11 from X.2.ck]
  refine X.evt ha R (by omega) rfl (fun h1 f1 X1 => ?_)
  have f1' : Fr (WS a) h h1 := WS5 f1
  have fa : ∀ k, k ≠ 10 → k ≠ 14 → (si (si h1 a 10 (nI j)) a 14 (-(nI 1))).1 a k = h1.1 a k := fun k e e2 => by rw [si_a, ups_n e2, si_a, ups_n e]
  have fb : ∀ b, b ≠ a → (si (si h1 a 10 (nI j)) a 14 (-(nI 1))).1 b = h1.1 b := fun b e => by rw [si_b e, si_b e]
  have fr : Fr (WS a) h (si (si h1 a 10 (nI j)) a 14 (-(nI 1))) := (f1'.and _ (WS_t (by omega) (by omega))).and _ (WS_t (by omega) (by omega))
  have e10 : (si (si h1 a 10 (nI j)) a 14 (-(nI 1))).1 a 10 = nI j := by rw [si_a, ups_n (by omega), si_a, ups_s]
  have e14 : (si (si h1 a 10 (nI j)) a 14 (-(nI 1))).1 a 14 = -(nI 1) := by rw [si_a, ups_s]
  generalize si (si h1 a 10 (nI j)) a 14 (-(nI 1)) = h2 at fa fb fr e10 e14
  have p67 : staD s j → ∀ v2 v3 v4, At m_X8_startPlan (rI q kk) 67 0 [some (.ref a), some (.int (nI j)), some (.int v2), some (.int v3), some (.int v4)] [] h2 := fun c v2 v3 v4 => by
    have K : ∀ h', Fr (WS a) h h' → CR a (doneS (staU s (nI j))) h' → kk (-(nI 1)) h' := fun h' a1 a2 => by
      have := K h' a1 (by unfold staS; rw [if_pos c]; exact a2)
      unfold staR at this
      rw [if_pos c] at this; exact this
    refine u_X8_startPlan_67 ha (t_X8_finishPlan ha ?_)
    have u12 : (ups (staU s (nI j)) 12 (nI 4)) 12 = nI 4 := ups_s
    have hp2 : hasP (ups (staU s (nI j)) 12 (nI 4)) = false := by simp [hasP, ups_s]
    have hu : ∀ i, (i < 12 ∨ 19 ≤ i) → (ups (staU s (nI j)) 12 (nI 4)) i = (evS s (nI 2) (-(nI 1)) (nI j)) i := fun i hi => by rw [ups_n (by omega), staU_n hi]
    have ga : ∀ k, k ≠ 9 → k ≠ 14 → (si (si h2 a 9 (nI 4)) a 14 (-(nI 1))).1 a k = h2.1 a k := fun k e e2 => by rw [si_a, ups_n e2, si_a, ups_n e]
    have X3 : CR a (ups (staU s (nI j)) 12 (nI 4)) (si (si h2 a 9 (nI 4)) a 14 (-(nI 1))) := by
      refine X1.plan0 ha R1 hu (fun b e => by rw [si_b e, si_b e, fb b e]) (fun k hk => by rw [ga k (by omega) (by omega), fa k (by omega) (by omega)]) ⟨?_, ?_, ?_, ?_, ?_, ?_⟩
      · rw [ga 12 (by omega) (by omega), fa 12 (by omega) (by omega)]; exact X1.2.ib
      · rw [ga 1 (by omega) (by omega), fa 1 (by omega) (by omega), hu 11 (by omega)]; exact X1.2.ck
      · rw [ga 2 (by omega) (by omega), fa 2 (by omega) (by omega), hu 5 (by omega)]; exact X1.2.fo
      · rw [u12, si_a, ups_n (by omega), si_a, ups_s]
      · intro z; rw [hp2] at z; cases z
      · rw [si_a, ups_s, soakE_n u12 (by omega), m1_eq]
    have R3 : Rk C (E + 1) (ups (staU s (nI j)) 12 (nI 4)) := R1.plan0 hu (RkT.none (n := 4) (by rw [hu 5 (by omega), lo 5 (by omega)]; exact R.f) u12 (by omega))
    rw [show gi (si (si h2 a 9 (nI 4)) a 14 (-(nI 1))) a 10 = nI j from (ga 10 (by omega) (by omega)).trans e10]
    refine X3.evt ha R3 (by omega) X3.2.ck (fun h4 f4 X4 => ?_)
    refine K h4 (((fr.and _ (WS_t (by omega) (by omega))).and _ (WS_t (by omega) (by omega))).trans (WS5 f4)) ?_
    have e13 : staU s (nI j) 13 = nI j := by unfold staU; rw [ups_n (by omega), ups_s]
    unfold doneS
    rw [e13]
    exact X4
  have p73 : ¬ staD s j → ∀ v2, At m_X8_startPlan (rI q kk) 73 0 [some (.ref a), some (.int (nI j)), some (.int v2), some (.int (nI (lo8 (lo1 (nn (s 2)) (free s) (cN s))))), some (.int (pre1 (hi1 (nn (s 2)) (free s) (cN s))))] [] h2 := fun c v2 => by
    have c2 := c
    unfold staD at c2
    obtain ⟨l, el⟩ : ∃ l, loF s = l + 1 := ⟨loF s - 1, by omega⟩
    have el' : lo1 (nn (s 2)) (free s) (cN s) = l + 1 := el
    have e12 : staS s j 12 = nI 1 := by unfold staS; rw [if_neg c, ups_s]
    have e14' : staS s j 14 = staV s j := by unfold staS; rw [if_neg c, ups_n (by omega), ups_s]
    have e17 : staS s j 17 = (if loF s < j + 1 then nI 1 else nI 0) := by unfold staS; rw [if_neg c, ups_n (by omega), ups_n (by omega), ups_s]
    have e15 : staS s j 15 = nI 0 := by unfold staS staU; rw [if_neg c, ups_n (by omega), ups_n (by omega), ups_n (by omega), ups_s]
    have e13 : staS s j 13 = nI j := by unfold staS staU; rw [if_neg c, ups_n (by omega), ups_n (by omega), ups_n (by omega), ups_n (by omega), ups_s]
    have fin : ∀ y z, y = (if loF s < j + 1 then nI 1 else nI 0) → z = staV s j → rI q kk (.inl (some (.int (gi (si (si (si (si h2 a 12 y) a 11 z) a 13 (nI 0)) a 9 (nI 1)) a 11)))) (si (si (si (si h2 a 12 y) a 11 z) a 13 (nI 0)) a 9 (nI 1)) := fun y z hy hz => by
      have ga : ∀ k, k ≠ 12 → k ≠ 11 → k ≠ 13 → k ≠ 9 → (si (si (si (si h2 a 12 y) a 11 z) a 13 (nI 0)) a 9 (nI 1)).1 a k = h2.1 a k := fun k e1 e2 e3 e4 => by rw [si_a, ups_n e4, si_a, ups_n e3, si_a, ups_n e2, si_a, ups_n e1]
      have g11 : (si (si (si (si h2 a 12 y) a 11 z) a 13 (nI 0)) a 9 (nI 1)).1 a 11 = z := by rw [si_a, ups_n (by omega), si_a, ups_n (by omega), si_a, ups_s]
      have X3 : CR a (staS s j) (si (si (si (si h2 a 12 y) a 11 z) a 13 (nI 0)) a 9 (nI 1)) := by
        refine X1.plan0 (u := staS s j) ha R1 (fun i hi => sta_n c hi) (fun b e => by rw [si_b e, si_b e, si_b e, si_b e, fb b e]) (fun k hk => by rw [ga k (by omega) (by omega) (by omega) (by omega), fa k (by omega) (by omega)]) ⟨?_, ?_, ?_, ?_, ?_, ?_⟩
        · rw [si_a, ups_n (by omega), si_a, ups_n (by omega), si_a, ups_n (by omega), si_a, ups_s, hy]
          split
          · exact isB_1
          · exact isB_0
        · rw [ga 1 (by omega) (by omega) (by omega) (by omega), fa 1 (by omega) (by omega), sta_n c (by omega)]; exact X1.2.ck
        · rw [ga 2 (by omega) (by omega) (by omega) (by omega), fa 2 (by omega) (by omega), sta_n c (by omega)]; exact X1.2.fo
        · rw [e12, si_a, ups_s]
        · intro _
          rw [ga 10 (by omega) (by omega) (by omega) (by omega), e10, e13, g11, hz, e14', e17, e15]
          refine ⟨rfl, rfl, ?_, ?_⟩
          · rw [si_a, ups_n (by omega), si_a, ups_n (by omega), si_a, ups_n (by omega), si_a, ups_s]; exact hy
          · rw [si_a, ups_n (by omega), si_a, ups_s]
        · rw [ga 14 (by omega) (by omega) (by omega) (by omega), e14, soakE_n e12 (by omega), m1_eq]
      have K := K _ ((((fr.and (a := a) (k := 12) y (WS_t (by omega) (by omega))).and (a := a) (k := 11) z (WS_t (by omega) (by omega))).and (a := a) (k := 13) (nI 0) (WS_t (by omega) (by omega))).and (a := a) (k := 9) (nI 1) (WS_t (by omega) (by omega))) X3
      unfold staR at K
      rw [if_neg c, ← hz] at K
      rw [show gi (si (si (si (si h2 a 12 y) a 11 z) a 13 (nI 0)) a 9 (nI 1)) a 11 = z from g11]
      exact K
    refine u_X8_startPlan_73 ha ?_
    rw [el', show lo8 (l + 1) = l from rfl, gi_same, gi_same]
    refine pk_le j l (fun d => ⟨isB_0, fun _ => ?_, fun z => absurd rfl z⟩) (fun d => ⟨isB_1, fun z => absurd z (by decide), fun _ => ?_⟩)
    · have nd : ¬ loF s < j + 1 := by omega
      obtain ⟨w, ew⟩ : ∃ w, hiF s = w + 2 := ⟨hiF s - 2, by omega⟩
      have ew' : hi1 (nn (s 2)) (free s) (cN s) = w + 2 := ew
      rw [ew', pre1_s, pk_sub (by omega)]
      refine fin _ _ (by rw [if_neg nd]) ?_
      unfold staV
      rw [if_neg nd, ew]; rfl
    · have nd : loF s < j + 1 := by omega
      rw [nI_add]
      refine fin _ _ (by rw [if_pos nd]) ?_
      unfold staV
      rw [if_pos nd, el]
  rw [mk_z (by omega), ← lo1_z (g := cN s)]
  have q2 : pre1 (hi1 (nn (s 2)) (free s) (cN s)) = nI j ↔ hiF s = j + 1 := pre1_eq (show hiF s < 100 by omega) (by omega)
  refine ⟨fun c => p67 (Or.inl c) _ _ _, fun c => ?_⟩
  obtain ⟨l, el⟩ : ∃ l, loF s = l + 1 := ⟨loF s - 1, by
    have : ¬ loF s = 0 := c
    omega⟩
  have q1 : nI (lo8 (lo1 (nn (s 2)) (free s) (cN s))) = nI j ↔ loF s = j + 1 := by
    rw [show lo1 (nn (s 2)) (free s) (cN s) = l + 1 from el, show lo8 (l + 1) = l from rfl, nI_eq (by omega) (by omega), el]
    omega
  rw [q1, q2]
  refine ⟨fun d => p73 ?_ _, fun d => ⟨fun e => p73 ?_ _, fun e => p67 (Or.inr ⟨d, e⟩) _ _ _⟩⟩
  · rintro (z | z)
    · exact c z
    · exact d z.1
  · rintro (z | z)
    · exact c z
    · exact e z.2
/-! minutes -/
def itS : Nat → RW → RW
  | 0, s => s
  | n + 1, s => minS (itS n s)
theorem Rk.it (R : Rk C E s) : ∀ n, C + n < 2 ^ 29 → E + 30 * n < 2 ^ 31 → Rk (C + n) (E + 30 * n) (itS n s)
  | 0, _, _ => R
  | n + 1, h1, h2 => by
    have ih := R.it n (by omega) (by omega)
    exact (ih.minS (by omega) (by omega)).mono (by omega) (by omega)
theorem l_passC {h0 : PH} {n : Nat} (ha : a = 60 ∨ a = 67) (R : Rk C E s) (hC : C + n < 2 ^ 29) (hE : E + 30 * n < 2 ^ 31) (K : ∀ h', Fr (WS a) h0 h' → CR a (itS n s) h' → kk (itS n s 11) h') : ∀ k i h, i + k = n → Fr (WS a) h0 h → CR a (itS i s) h → At m_X8_passMinutes (rI q kk) 2 0 [some (.ref a), some (.int (nI n)), some (.int (nI i))] [] h := by
  intro k
  induction k with
  | zero =>
    intro i h hi F X
    refine u_X8_passMinutes_2 ha (pk_le n i (fun _ => ?_) (fun z => absurd z (by omega)))
    have : i = n := by omega
    subst this
    rw [show gi h a 1 = _ from X.2.ck]
    exact K h F X
  | succ k ih =>
    intro i h hi F X
    refine u_X8_passMinutes_2 ha (pk_le n i (fun z => absurd z (by omega)) (fun _ => ?_))
    refine c_passMinute ha (R.it i (by omega) (by omega)) (by omega) (by omega) X (fun h1 f1 X1 => ?_)
    rw [nI_add]
    exact ih (i + 1) h1 (by omega) (F.trans f1) X1
theorem c_passMinutes {n : Nat} (ha : a = 60 ∨ a = 67) (R : Rk C E s) (hC : C + n < 2 ^ 29) (hE : E + 30 * n < 2 ^ 31) (X : CR a s h) (K : ∀ h', Fr (WS a) h h' → CR a (itS n s) h' → kk (itS n s 11) h') : MetPM m_X8_passMinutes [.ref a, .int (nI n)] h (rI q kk) := t_X8_passMinutes ha (l_passC ha R hC hE K _ 0 h (Nat.zero_add _) (Fr.refl _ _) X)
theorem c_canPass {x : Int32} (ha : a = 60 ∨ a = 67) (X : CR a s h) (K : kk (b2i (mayP s x)) h) : MetPM m_X8_canPass [.ref a, .int x] h (rI q kk) := by
  refine t_X8_canPass ha ?_
  rw [show gi h a 1 = s 11 from X.2.ck]
  have t0 : (0 : Int32).toInt = 0 := by decide
  have t9 : (nI 999).toInt = 999 := nI_toInt (by omega)
  have no : inR x 0 999 = false → mayP s x = false := fun e => by unfold mayP; rw [e]; rfl
  refine ⟨fun c => ⟨isB_0, ?_⟩, fun c => ⟨fun d => ⟨isB_0, ?_⟩, fun d => ?_⟩⟩
  · rw [Int32.lt_iff_toInt_lt, t0] at c
    rw [no (by simp only [inR, Bool.and_eq_false_iff, decide_eq_false_iff_not]; omega)] at K
    exact K
  · rw [Int32.lt_iff_toInt_lt, t9] at d
    rw [no (by simp only [inR, Bool.and_eq_false_iff, decide_eq_false_iff_not]; omega)] at K
    exact K
  · have e : inR x 0 999 = true := by
      rw [Int32.lt_iff_toInt_lt, t0] at c
      rw [Int32.lt_iff_toInt_lt, t9] at d
      simp only [inR, Bool.and_eq_true, decide_eq_true_eq]; omega
    unfold mayP at K
    rw [e, Bool.true_and] at K
    by_cases f : s 11 + x ≤ nI 20000
    · rw [decide_eq_true f] at K
      exact br_f (Int32.not_lt.mpr f) ⟨isB_1, K⟩
    · rw [decide_eq_false f] at K
      exact br_t (Int32.not_le.mp f) ⟨isB_0, K⟩
theorem c_canStart (ha : a = 60 ∨ a = 67) (X : CR a s h) (K : kk (b2i (mayS s)) h) : MetPM m_X8_canStart [.ref a] h (rI q kk) := by
  refine t_X8_canStart ha ?_
  rw [show gi h 15 12 = s 3 from X.1.wa]
  unfold mayS at K
  refine cq (fun e => ⟨isB_0, ?_⟩) (fun e => c_isActive ha X.2 (bp (fun e2 => ⟨isB_1, ?_⟩) (fun e2 => ⟨isB_0, ?_⟩)))
  · rw [decide_eq_true e] at K; exact K
  · rw [decide_eq_false e, e2] at K; exact K
  · rw [decide_eq_false e, e2] at K; exact K
theorem mayS_w (R : Rk C E s) (e : mayS s = true) : 0 < nn (s 3) := by
  unfold mayS at e
  rw [Bool.and_eq_true, Bool.not_eq_true', decide_eq_false_iff_not] at e
  rcases Nat.eq_zero_or_pos (nn (s 3)) with z | z
  · exfalso
    apply e.1
    rw [R.w.1, z]; decide
  · exact z
end

