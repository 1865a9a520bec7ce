/-! ===== a script that runs ===== -/
section
variable {s t g : RW} {C E : Nat} {a b n m p v w i j k o x y d e N : Nat} {B L : Nat → Nat}
def updN (f : Nat → Nat) (d x : Nat) : Nat → Nat := fun o => if o = d then x else f o
theorem updN_s {f : Nat → Nat} : updN f d x d = x := if_pos rfl
theorem updN_n {f : Nat → Nat} (h : o ≠ d) : updN f d x o = f o := if_neg h
def aMay (s : RW) (j x y : Nat) : Bool :=
  if j = 0 then mayP s (nI x) else if j = 1 then mayS s else if j = 2 then going s else if j = 3 then decide (s 12 = nI 3) else if j = 4 then !decide (mf s x 5 = nI 1) else if j = 5 then decide (mf s x 5 = nI 1)
  else if j = 6 then !isD s x else if j = 7 then decide (whyN s x y = 0) else (inR (nI x) 1 9 && decide (whyF s (nI x) = 0))
def aDo (s : RW) (j x y : Nat) : RW :=
  if j = 0 then itS x s else if j = 1 then staS s x else if j = 2 then stopS s else if j = 3 then gonS s else if j = 4 then hldS s x true else if j = 5 then hldS s x false
  else if j = 6 then lyS s x 4 (nI y) else if j = 7 then begS s x (nI y) else fmtS s (nI x)
theorem do_ag : agL s (aDo s j x y) := by
  unfold aDo
  split
  · exact it_ag _
  split
  · exact sta_ag
  split
  · exact stop_ag
  split
  · exact gon_ag
  split
  · exact hld_ag
  split
  · exact hld_ag
  split
  · exact agL_ly (by omega) (by omega)
  split
  · exact agL_beg
  · exact fmt_ag
theorem Rk.dos (R : Rk C E s) (hC : C + 999 < 2 ^ 29) (hE : E + 29970 < 2 ^ 31) (hy : y < 1000) (hx : x < 1000) (A : AVk s j x y) (hj : j < 9) (e : aMay s j x y = true) : Rk (C + 999) (E + 29970) (aDo s j x y) := by
  obtain ⟨a0, a1, a4, a6, a7, a9⟩ := A
  unfold aMay at e
  unfold aDo
  split
  · rename_i d
    have := a0 (Or.inl d)
    exact (R.it x (by omega) (by omega)).mono (by omega) (by omega)
  rename_i d0
  rw [if_neg d0] at e
  split
  · rename_i d
    rw [if_pos d] at e
    exact (R.sta (by omega) (a1 d) (mayS_w R e)).mono (by omega) (by omega)
  rename_i d1
  rw [if_neg d1] at e
  split
  · rename_i d
    rw [if_pos d] at e
    exact (R.stop (by omega) e).mono (by omega) (by omega)
  rename_i d2
  rw [if_neg d2] at e
  split
  · rename_i d
    rw [if_pos d] at e
    exact (R.gon (by omega) (of_decide_eq_true e)).mono (by omega) (by omega)
  rename_i d3
  rw [if_neg d3] at e
  split
  · exact (R.hld (by omega) (a4 (by omega))).mono (by omega) (by omega)
  rename_i d4
  rw [if_neg d4] at e
  split
  · exact (R.hld (by omega) (a4 (by omega))).mono (by omega) (by omega)
  rename_i d5
  rw [if_neg d5] at e
  split
  · rename_i d
    exact (R.ly (a4 (by omega)) (Or.inl ⟨rfl, isN_nI (a6 d) (by omega)⟩)).mono (by omega) (by omega)
  rename_i d6
  rw [if_neg d6] at e
  split
  · rename_i d
    have h8 := R.v.2
    have h7 := a7 d
    exact (R.beg (by omega) (by omega) (a4 (by omega)) ⟨isN_nI (by omega) (by omega), by rw [nn_nI (by omega)]; exact h7⟩).mono (by omega) (by omega)
  · rename_i d7
    rw [if_neg d7, Bool.and_eq_true] at e
    obtain ⟨e1, _, e2⟩ := inR_n (a := 1) (b := 9) (by omega) e.1
    exact (R.fmt (by omega) ⟨e1, e2⟩).mono (by omega) (by omega)
def aRun (g : RW) : Nat → Nat → Nat → (Nat → Nat) → (Nat → Nat) → Nat → RW → Nat × RW
  | 0, _, _, _, _, e, s => (e, s)
  | N + 1, k, d, B, L, e, s => if pM g ≤ k ∨ 40 ≤ e then (e, s)
    else if pK g k = nI 9 then aRun g N (k + 1) (d + 1) (updN B d k) (updN L d (nn (pX g k))) e s
    else if pK g k = nI 10 then (if 1 < L (d - 1) then aRun g N (B (d - 1) + 1) d B (updN L (d - 1) (L (d - 1) - 1)) e s else aRun g N (k + 1) (d - 1) B (updN L (d - 1) (L (d - 1) - 1)) e s)
    else if aMay s (nn (pK g k)) (nn (pX g k)) (nn (pY g k)) = true then aRun g N (k + 1) d B L (e + 1) (aDo s (nn (pK g k)) (nn (pX g k)) (nn (pY g k))) else (e, s)
theorem run_0 (h : pM g ≤ k ∨ 40 ≤ e) : aRun g (N + 1) k d B L e s = (e, s) := if_pos h
theorem run_9 (h1 : k < pM g) (h2 : e < 40) (h : pK g k = nI 9) : aRun g (N + 1) k d B L e s = aRun g N (k + 1) (d + 1) (updN B d k) (updN L d (nn (pX g k))) e s := by
  show (if pM g ≤ k ∨ 40 ≤ e then (e, s) else _) = _
  rw [if_neg (by omega), if_pos h]
theorem run_a (h1 : k < pM g) (h2 : e < 40) (h : pK g k = nI 10) (hl : 1 < L (d - 1)) : aRun g (N + 1) k d B L e s = aRun g N (B (d - 1) + 1) d B (updN L (d - 1) (L (d - 1) - 1)) e s := by
  show (if pM g ≤ k ∨ 40 ≤ e then (e, s) else _) = _
  rw [if_neg (by omega), if_neg (by rw [h]; decide), if_pos h, if_pos hl]
theorem run_o (h1 : k < pM g) (h2 : e < 40) (h : pK g k = nI 10) (hl : ¬ 1 < L (d - 1)) : aRun g (N + 1) k d B L e s = aRun g N (k + 1) (d - 1) B (updN L (d - 1) (L (d - 1) - 1)) e s := by
  show (if pM g ≤ k ∨ 40 ≤ e then (e, s) else _) = _
  rw [if_neg (by omega), if_neg (by rw [h]; decide), if_pos h, if_neg hl]
theorem run_c (h1 : k < pM g) (h2 : e < 40) (hj : j < 9) (h : pK g k = nI j) : aRun g (N + 1) k d B L e s = if aMay s j (nn (pX g k)) (nn (pY g k)) = true then aRun g N (k + 1) d B L (e + 1) (aDo s j (nn (pX g k)) (nn (pY g k))) else (e, s) := by
  show (if pM g ≤ k ∨ 40 ≤ e then (e, s) else _) = _
  have q : ∀ i, i < 11 → i ≠ j → ¬ pK g k = nI i := fun i hi hn z => hn ((nI_eq (a := i) (b := j) (by omega) (by omega)).mp (z.symm.trans h))
  rw [if_neg (by omega), if_neg (q 9 (by omega) (by omega)), if_neg (q 10 (by omega) (by omega)), h, nn_nI (by omega)]
/-! the repeats that are open -/
theorem nst_9 (h : pK g k = nI 9) : nst g (k + 1) = nst g k + 1 := by
  show (if pK g k = nI 9 then nst g k + 1 else if pK g k = nI 10 then nst g k - 1 else nst g k) = _
  rw [if_pos h]
theorem nst_10 (h : pK g k = nI 10) : nst g (k + 1) = nst g k - 1 := by
  show (if pK g k = nI 9 then nst g k + 1 else if pK g k = nI 10 then nst g k - 1 else nst g k) = _
  rw [if_neg (by rw [h]; decide), if_pos h]
theorem nst_j (hj : j < 9) (h : pK g k = nI j) : nst g (k + 1) = nst g k := by
  show (if pK g k = nI 9 then nst g k + 1 else if pK g k = nI 10 then nst g k - 1 else nst g k) = _
  have q : ∀ i, i < 11 → i ≠ j → ¬ pK g k = nI i := fun i hi hn z => hn ((nI_eq (a := i) (b := j) (by omega) (by omega)).mp (z.symm.trans h))
  rw [if_neg (q 9 (by omega) (by omega)), if_neg (q 10 (by omega) (by omega))]
def RI (g : RW) (k d : Nat) (B L : Nat → Nat) : Prop := k ≤ pM g ∧ nst g k = d ∧ d ≤ 2 ∧ ∀ o, o < d → B o < k ∧ pK g (B o) = nI 9 ∧ nst g (B o) = o ∧ k ≤ pE g (B o) ∧ CLg g (B o) ∧ 1 ≤ L o ∧ L o ≤ 20
theorem RI.z : RI g 0 0 B L := ⟨Nat.zero_le _, rfl, by omega, fun o ho => by omega⟩
theorem RI.rep (W : WFg g) (D : pD g = 0) (R : RI g k d B L) (hk : k < pM g) (h : pK g k = nI 9) (h1 : 1 ≤ x) (h2 : x ≤ 20) : d ≤ 1 ∧ RI g (k + 1) (d + 1) (updN B d k) (updN L d x) := by
  obtain ⟨r1, r2, r3, r4⟩ := R
  obtain ⟨l1, l2⟩ := W.2.2.2.2.2 k hk h
  have cl : CLg g k := by
    rcases l2 with ⟨o, ho, _⟩ | z
    · omega
    · exact z
  refine ⟨by omega, by omega, by rw [nst_9 h, r2], by omega, fun o ho => ?_⟩
  by_cases c : o = d
  · subst c
    rw [updN_s, updN_s]
    exact ⟨by omega, h, r2, by have := cl.1; omega, cl, h1, h2⟩
  · rw [updN_n c, updN_n c]
    obtain ⟨a1, a2, a3, a4, a5, a6⟩ := r4 o (by omega)
    have ne : k ≠ pE g (B o) := fun z => by
      have := a5.2.2.1
      rw [← z, h] at this
      exact absurd this (by decide)
    exact ⟨by omega, a2, a3, by omega, a5, a6⟩
theorem RI.at (A : AVg s g) (R : RI g k d B L) (hk : k < pM g) (h : pK g k = nI 10) : 1 ≤ d ∧ k = pE g (B (d - 1)) := by
  obtain ⟨r1, r2, r3, r4⟩ := R
  have h1 := A.2 k hk h
  refine ⟨by omega, ?_⟩
  obtain ⟨a1, a2, a3, a4, a5, a6⟩ := r4 (d - 1) (by omega)
  by_cases c : k = pE g (B (d - 1))
  · exact c
  · have := a5.2.2.2.2.2 k a1 (by omega) h
    omega
theorem RI.again (A : AVg s g) (R : RI g k d B L) (hk : k < pM g) (h : pK g k = nI 10) (hl : 1 < L (d - 1)) : RI g (B (d - 1) + 1) d B (updN L (d - 1) (L (d - 1) - 1)) := by
  obtain ⟨d1, ek⟩ := R.at A hk h
  obtain ⟨r1, r2, r3, r4⟩ := R
  obtain ⟨a1, a2, a3, a4, a5, a6, a7⟩ := r4 (d - 1) (by omega)
  refine ⟨by omega, by rw [nst_9 a2]; omega, r3, fun o ho => ?_⟩
  by_cases c : o = d - 1
  · subst c
    rw [updN_s]
    exact ⟨by omega, a2, a3, by omega, a5, by omega, by omega⟩
  · rw [updN_n c]
    obtain ⟨b1, b2, b3, b4, b5, b6⟩ := r4 o ho
    have le : B o ≤ B (d - 1) := by
      apply Classical.byContradiction
      intro z
      have := a5.2.2.2.2.1 (B o) (by omega) (by omega)
      omega
    exact ⟨by omega, b2, b3, by omega, b5, b6⟩
theorem RI.out (A : AVg s g) (R : RI g k d B L) (hk : k < pM g) (h : pK g k = nI 10) : RI g (k + 1) (d - 1) B (updN L (d - 1) (L (d - 1) - 1)) := by
  obtain ⟨d1, ek⟩ := R.at A hk h
  obtain ⟨r1, r2, r3, r4⟩ := R
  refine ⟨by omega, by rw [nst_10 h, r2], by omega, fun o ho => ?_⟩
  rw [updN_n (by omega)]
  obtain ⟨b1, b2, b3, b4, b5, b6⟩ := r4 o (by omega)
  have ne : k ≠ pE g (B o) := fun z => by
    have := b5.2.2.2.1
    rw [← z] at this
    omega
  exact ⟨by omega, b2, b3, by omega, b5, b6⟩
theorem RI.cmd (R : RI g k d B L) (hk : k < pM g) (hj : j < 9) (h : pK g k = nI j) : RI g (k + 1) d B L := by
  obtain ⟨r1, r2, r3, r4⟩ := R
  refine ⟨by omega, by rw [nst_j hj h]; exact r2, r3, fun o ho => ?_⟩
  obtain ⟨b1, b2, b3, b4, b5, b6⟩ := r4 o ho
  have ne : k ≠ pE g (B o) := fun z => by
    have := b5.2.2.1
    rw [← z, h] at this
    have := (nI_eq (a := j) (b := 10) (by omega) (by omega)).mp this
    omega
  exact ⟨by omega, b2, b3, by omega, b5, b6⟩
theorem sig_lt2 (h : ¬ pK g k = nI 10) (hm : k < m) : sig g k < sig g m := by
  have h1 := sig_s (g := g) (k := k)
  rw [if_neg h] at h1
  have h2 := sig_mono (g := g) (k := k + 1) (m - (k + 1))
  rw [show k + 1 + (m - (k + 1)) = m by omega] at h2
  omega
/-- behind the item: it isn't the end of one that is open -/
theorem RI.lt (R : RI g k d B L) (h : ¬ pK g k = nI 10) (ho : o < d) : sig g k < sig g (pE g (B o)) := by
  obtain ⟨b1, b2, b3, b4, b5, b6⟩ := R.2.2.2 o ho
  have ne : k ≠ pE g (B o) := fun z => by
    have := b5.2.2.1
    rw [← z] at this
    exact h this
  exact sig_lt2 h (by omega)
/-! how long it may run -/
def RC (g : RW) (x : Nat) : Nat := cnt (pM g) (fun i => decide (x ≤ i) && decide (pK g i = nI 9))
theorem cnt_mono {p q : Nat → Bool} : ∀ {n}, (∀ i, i < n → p i = true → q i = true) → cnt n p ≤ cnt n q
  | 0, _ => Nat.le_refl _
  | n + 1, h => by
    have ih := cnt_mono (p := p) (q := q) (n := n) (fun i hi => h i (by omega))
    have h1 := h n (by omega)
    unfold cnt
    cases e : p n
    · cases e2 : q n
      · show cnt n p + 0 ≤ cnt n q + 0
        omega
      · show cnt n p + 0 ≤ cnt n q + 1
        omega
    · rw [h1 e]
      show cnt n p + 1 ≤ cnt n q + 1
      omega
theorem RC_le (W : WFg g) : RC g x ≤ 30 := by
  have h1 : RC g x ≤ sig g (pM g) := cnt_mono (fun i _ h => by
    rw [Bool.and_eq_true] at h
    have := of_decide_eq_true h.2
    show (!decide (pK g i = nI 10)) = true
    rw [decide_eq_false (by rw [this]; decide)]; rfl)
  have := W.2.2.1
  have := W.1.2.1
  omega
theorem RC_mono (h : x ≤ y) : RC g y ≤ RC g x := cnt_mono (fun i _ e => by
  rw [Bool.and_eq_true] at e ⊢
  have := of_decide_eq_true e.1
  exact ⟨decide_eq_true (by omega), e.2⟩)
theorem cnt_one {p q : Nat → Bool} (hq : q k = true) (hp : p k = false) (h : ∀ i, i ≠ k → q i = p i) : ∀ n, k < n → cnt n q = cnt n p + 1
  | 0, hn => absurd hn (Nat.not_lt_zero _)
  | n + 1, hn => by
    by_cases c : k = n
    · subst c
      rw [cnt, cnt, hq, hp, cnt_eq (fun i hi => h i (by omega))]
      rfl
    · rw [cnt, cnt, cnt_one hq hp h n (by omega), h n (by omega)]
      split <;> omega
theorem RC_9 (hk : k < pM g) (h : pK g k = nI 9) : RC g k = RC g (k + 1) + 1 := by
  refine cnt_one (k := k) ?_ ?_ (fun i hi => ?_) _ hk
  · rw [decide_eq_true (Nat.le_refl k), decide_eq_true h]; rfl
  · rw [decide_eq_false (by omega)]; rfl
  · rw [show decide (k ≤ i) = decide (k + 1 ≤ i) from decide_eq_decide.mpr (by omega)]
def mu (g : RW) (k d : Nat) (B L : Nat → Nat) : Nat := if d = 0 then 12700 * RC g k else if d = 1 then 12700 * RC g (B 0 + 1) + (L 0 - 1) * 631 + 21 * RC g k + 1 else 12700 * RC g (B 0 + 1) + (L 0 - 1) * 631 + 21 * RC g (B 1 + 1) + 1 + L 1
theorem mu_lt (W : WFg g) (R : RI g k d B L) : mu g k d B L < 400000 := by
  have hw : ∀ x, RC g x ≤ 30 := fun x => RC_le W
  have h1 := hw k
  have h2 := hw (B 0 + 1)
  have h3 := hw (B 1 + 1)
  unfold mu
  split
  · omega
  · have := (R.2.2.2 0 (by omega)).2.2.2.2.2.2
    split
    · omega
    · have := (R.2.2.2 1 (by omega)).2.2.2.2.2.2
      omega
theorem mu_cmd : mu g (k + 1) d B L ≤ mu g k d B L := by
  have h1 := RC_mono (g := g) (x := k) (y := k + 1) (by omega)
  unfold mu
  split
  · omega
  · split <;> omega
theorem mu_rep (W : WFg g) (hk : k < pM g) (h : pK g k = nI 9) (R : RI g k d B L) (hd : d ≤ 1) (h1 : 1 ≤ x) (h2 : x ≤ 20) : mu g (k + 1) (d + 1) (updN B d k) (updN L d x) < mu g k d B L := by
  have hr := RC_9 hk h
  have hw := RC_le W (x := k)
  rcases (by omega : d = 0 ∨ d = 1) with rfl | rfl
  · unfold mu
    rw [if_neg (by omega), if_pos rfl, if_pos rfl, updN_s, updN_s]
    omega
  · unfold mu
    rw [if_neg (by omega), if_neg (by omega), if_neg (by omega), if_pos rfl, updN_s, updN_s, updN_n (by omega), updN_n (by omega)]
    omega
theorem mu_again (W : WFg g) (A : AVg s g) (hk : k < pM g) (h : pK g k = nI 10) (R : RI g k d B L) (hl : 1 < L (d - 1)) : mu g (B (d - 1) + 1) d B (updN L (d - 1) (L (d - 1) - 1)) < mu g k d B L := by
  obtain ⟨d1, ek⟩ := R.at A hk h
  have r3 := R.2.2.1
  have hr := RC_9 (g := g) (k := B (d - 1)) (by have := (R.2.2.2 (d - 1) (by omega)).1; omega) (R.2.2.2 (d - 1) (by omega)).2.1
  have hw := RC_le W (x := B (d - 1))
  rcases (by omega : d = 1 ∨ d = 2) with rfl | rfl
  · unfold mu
    rw [if_neg (by omega), if_pos rfl, if_neg (by omega), if_pos rfl]
    rw [show 1 - 1 = 0 from rfl] at hl hr hw ⊢
    rw [updN_s]
    omega
  · unfold mu
    rw [if_neg (by omega), if_neg (by omega), if_neg (by omega), if_neg (by omega)]
    rw [show 2 - 1 = 1 from rfl] at hl hr hw ⊢
    rw [updN_s, updN_n (by omega)]
    omega
theorem mu_out (W : WFg g) (A : AVg s g) (hk : k < pM g) (h : pK g k = nI 10) (R : RI g k d B L) : mu g (k + 1) (d - 1) B (updN L (d - 1) (L (d - 1) - 1)) < mu g k d B L := by
  obtain ⟨d1, ek⟩ := R.at A hk h
  have r3 := R.2.2.1
  obtain ⟨a1, a2, a3, a4, a5, a6, a7⟩ := R.2.2.2 (d - 1) (by omega)
  have hm := RC_mono (g := g) (x := B (d - 1) + 1) (y := k + 1) (by omega)
  rcases (by omega : d = 1 ∨ d = 2) with rfl | rfl
  · unfold mu
    rw [show 1 - 1 = 0 from rfl] at hm ⊢
    rw [if_pos rfl, if_neg (by omega), if_pos rfl]
    omega
  · unfold mu
    rw [show 2 - 1 = 1 from rfl] at hm a6 ⊢
    rw [if_neg (by omega), if_pos rfl, if_neg (by omega), if_neg (by omega), updN_n (by omega)]
    omega
/-- the run's state stays one -/
theorem AVg.ag (e0 : t 0 = s 0) (e2 : t 2 = s 2) (A : AVg s g) : AVg t g := by
  refine ⟨fun k hk j hj h => ?_, A.2⟩
  obtain ⟨x, y, x1, x2, x3, x4, a⟩ := A.1 k hk j hj h
  refine ⟨x, y, x1, x2, x3, x4, ?_⟩
  unfold AVk at a ⊢
  rw [e0, e2]
  exact a
theorem run_ok (W : WFg g) : ∀ N k d B L e s, AVg s g → e ≤ 40 → C + 39960 < 2 ^ 29 → E + 1198800 < 2 ^ 31 → Rk (C + 999 * e) (E + 29970 * e) s → Rk (C + 39960) (E + 1198800) (aRun g N k d B L e s).2 ∧ agL s (aRun g N k d B L e s).2 := by
  intro N
  induction N with
  | zero =>
    intro k d B L e s A he hC hE R
    exact ⟨R.mono (by omega) (by omega), agL.refl s⟩
  | succ N ih =>
    intro k d B L e s A he hC hE R
    by_cases c : pM g ≤ k ∨ 40 ≤ e
    · rw [run_0 c]
      exact ⟨R.mono (by omega) (by omega), agL.refl s⟩
    · obtain ⟨j, hj, h⟩ := W.2.2.2.1 k (by omega)
      rcases (by omega : j = 9 ∨ j = 10 ∨ j < 9) with rfl | rfl | h9
      · rw [run_9 (by omega) (by omega) h]
        exact ih _ _ _ _ _ _ A he hC hE R
      · by_cases hl : 1 < L (d - 1)
        · rw [run_a (by omega) (by omega) h hl]
          exact ih _ _ _ _ _ _ A he hC hE R
        · rw [run_o (by omega) (by omega) h hl]
          exact ih _ _ _ _ _ _ A he hC hE R
      · rw [run_c (by omega) (by omega) h9 h]
        obtain ⟨x, y, x1, x2, x3, x4, a⟩ := A.1 k (by omega) j (by omega) h
        rw [x3, x4, nn_nI (by omega), nn_nI (by omega)]
        split
        · rename_i hm
          have ag : agL s (aDo s j x y) := do_ag
          have R2 := R.dos (by omega) (by omega) x2 x1 a h9 hm
          obtain ⟨i1, i2⟩ := ih (k + 1) d B L (e + 1) (aDo s j x y) (A.ag ag.n0 ag.n2) (by omega) hC hE (R2.mono (by omega) (by omega))
          exact ⟨i1, ag.trans i2⟩
        · exact ⟨R.mono (by omega) (by omega), agL.refl s⟩
end
