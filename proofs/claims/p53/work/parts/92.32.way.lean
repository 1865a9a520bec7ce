/-! ===== ways: walks, the class's widening sets, the reference's table ===== -/
section
variable {q : Nat → PH → Prop} {kk : Int32 → PH → Prop} {kv : PH → Prop} {h : PH} {s : RW} {C E : Nat} {a : Nat}
/-- a walk of d changes -/
def wlk (s : RW) : Nat → Nat → Nat → Bool
  | 0, x, y => decide (x = y)
  | d + 1, x, y => anyN (nn (s 0)) (fun c => folw s x c && wlk s d c y)
def rch (s : RW) (x k v : Nat) : Bool := anyN (k + 1) (fun d => wlk s d x v)
/-- the first of n that is so, one more; 0: none -/
def fst1 : Nat → (Nat → Bool) → Nat
  | 0, _ => 0
  | n + 1, p => if fst1 n p = 0 then (if p n = true then n + 1 else 0) else fst1 n p
theorem fst1_no {p : Nat → Bool} : ∀ {n}, (∀ j, j < n → p j = false) → fst1 n p = 0
  | 0, _ => rfl
  | n + 1, h => by
    unfold fst1
    rw [fst1_no (n := n) (fun j hj => h j (by omega)), if_pos rfl, if_neg (by rw [h n (by omega)]; decide)]
theorem fst1_yes {p : Nat → Bool} {k : Nat} (hk : p k = true) (hn : ∀ j, j < k → p j = false) : ∀ {n}, k < n → fst1 n p = k + 1
  | 0, h => by omega
  | n + 1, h => by
    unfold fst1
    by_cases c : k < n
    · rw [fst1_yes hk hn c, if_neg (by omega)]
    · have : n = k := by omega
      subst this
      rw [fst1_no hn, if_pos rfl, if_pos hk]
theorem fst1_le {p : Nat → Bool} : ∀ {n}, fst1 n p ≤ n
  | 0 => Nat.le_refl _
  | n + 1 => by
    have := fst1_le (p := p) (n := n)
    unfold fst1
    split
    · split <;> omega
    · omega
theorem fst1_in {p : Nat → Bool} {k : Nat} : ∀ {n}, fst1 n p = k + 1 → k < n ∧ p k = true
  | 0, h => by cases h
  | n + 1, h => by
    unfold fst1 at h
    split at h
    · split at h
      · rename_i c
        have : n = k := by omega
        subst this
        exact ⟨by omega, c⟩
      · omega
    · have := fst1_in (n := n) h
      exact ⟨by omega, this.2⟩
def wayN (s : RW) (x y : Nat) : Nat := fst1 (nn (s 0)) (fun d => wlk s d x y)
theorem wlk_s {d x y : Nat} : wlk s (d + 1) x y = true ↔ ∃ c, c < nn (s 0) ∧ folw s x c = true ∧ wlk s d c y = true := by
  show anyN (nn (s 0)) (fun c => folw s x c && wlk s d c y) = true ↔ _
  rw [anyN_iff]
  constructor
  · rintro ⟨c, hc, h⟩
    rw [Bool.and_eq_true] at h
    exact ⟨c, hc, h.1, h.2⟩
  · rintro ⟨c, hc, h1, h2⟩
    exact ⟨c, hc, by rw [h1, h2]; rfl⟩
theorem wlk_r {d : Nat} : ∀ {x y : Nat}, x < nn (s 0) → y < nn (s 0) → (wlk s (d + 1) x y = true ↔ ∃ c, c < nn (s 0) ∧ wlk s d x c = true ∧ folw s c y = true) := by
  induction d with
  | zero =>
    intro x y hx hy
    rw [wlk_s]
    constructor
    · rintro ⟨c, hc, h1, h2⟩
      have : c = y := of_decide_eq_true h2
      subst this
      exact ⟨x, hx, decide_eq_true rfl, h1⟩
    · rintro ⟨c, hc, h1, h2⟩
      have : x = c := of_decide_eq_true h1
      subst this
      exact ⟨y, hy, h2, decide_eq_true rfl⟩
  | succ d ih =>
    intro x y hx hy
    rw [wlk_s]
    constructor
    · rintro ⟨c, hc, h1, h2⟩
      obtain ⟨e, he, h3, h4⟩ := (ih hc hy).mp h2
      exact ⟨e, he, wlk_s.mpr ⟨c, hc, h1, h3⟩, h4⟩
    · rintro ⟨e, he, h1, h2⟩
      obtain ⟨c, hc, h3, h4⟩ := wlk_s.mp h1
      exact ⟨c, hc, h3, (ih hc hy).mpr ⟨e, he, h4, h2⟩⟩
theorem rch_iff {x k v : Nat} : rch s x k v = true ↔ ∃ d, d < k + 1 ∧ wlk s d x v = true := anyN_iff
theorem rch_step {x k v : Nat} (hx : x < nn (s 0)) (hv : v < nn (s 0)) : rch s x (k + 1) v = (rch s x k v || anyN (nn (s 0)) (fun e => rch s x k e && folw s e v)) := by
  apply Bool.eq_iff_iff.mpr
  rw [Bool.or_eq_true, rch_iff, rch_iff, anyN_iff]
  constructor
  · rintro ⟨d, hd, h⟩
    by_cases c : d < k + 1
    · exact Or.inl ⟨d, c, h⟩
    · have : d = k + 1 := by omega
      subst this
      obtain ⟨e, he, h1, h2⟩ := (wlk_r hx hv).mp h
      refine Or.inr ⟨e, he, ?_⟩
      rw [Bool.and_eq_true]
      exact ⟨rch_iff.mpr ⟨k, by omega, h1⟩, h2⟩
  · rintro (⟨d, hd, h⟩ | ⟨e, he, h⟩)
    · exact ⟨d, by omega, h⟩
    · rw [Bool.and_eq_true] at h
      obtain ⟨d, hd, h1⟩ := rch_iff.mp h.1
      exact ⟨d + 1, by omega, (wlk_r hx hv).mpr ⟨e, he, h1, h.2⟩⟩
theorem cnt_lt {p r : Nat → Bool} : ∀ {n}, (∀ i, i < n → p i = true → r i = true) → (∃ v, v < n ∧ p v = false ∧ r v = true) → cnt n p < cnt n r
  | 0, _, h => by obtain ⟨v, hv, _⟩ := h; omega
  | n + 1, h, ⟨v, hv, h1, h2⟩ => by
    have mono : ∀ m, m ≤ n → cnt m p ≤ cnt m r := by
      intro m
      induction m with
      | zero => intro _; exact Nat.le_refl _
      | succ m ih =>
        intro hm
        have := ih (by omega)
        rw [cnt, cnt]
        cases e : p m
        · cases r m <;> simp <;> omega
        · rw [h m (by omega) e]; omega
    by_cases c : v = n
    · subst c
      rw [cnt, cnt, h1, h2]
      have := mono v (Nat.le_refl _)
      show cnt v p + 0 < cnt v r + 1
      omega
    · have ih := cnt_lt (p := p) (r := r) (n := n) (fun i hi => h i (by omega)) ⟨v, by omega, h1, h2⟩
      rw [cnt, cnt]
      cases e : p n
      · cases r n <;> simp <;> omega
      · rw [h n (by omega) e]; omega
/-- a set that a step leaves is left by all -/
theorem rch_stab {x k : Nat} (hx : x < nn (s 0)) (h : ∀ v, v < nn (s 0) → rch s x (k + 1) v = rch s x k v) : ∀ m, ∀ v, v < nn (s 0) → rch s x (k + m) v = rch s x k v := by
  intro m
  induction m with
  | zero => intro v _; rfl
  | succ m ih =>
    intro v hv
    rw [← h v hv, show k + (m + 1) = k + m + 1 by omega, rch_step hx hv, rch_step hx hv, ih v hv]
    congr 1
    exact anyN_eq fun e he => by rw [ih e he]
theorem rch_grow {x : Nat} (hx : x < nn (s 0)) : ∀ k, (∃ j, j < k ∧ ∀ v, v < nn (s 0) → rch s x (j + 1) v = rch s x j v) ∨ k + 1 ≤ cnt (nn (s 0)) (rch s x k)
  | 0 => by
    refine Or.inr ?_
    have := cnt_lt (p := fun _ => false) (r := rch s x 0) (n := nn (s 0)) (fun _ _ z => by cases z) ⟨x, hx, rfl, rch_iff.mpr ⟨0, by omega, decide_eq_true rfl⟩⟩
    omega
  | k + 1 => by
    rcases rch_grow hx k with ⟨j, hj, h⟩ | h
    · exact Or.inl ⟨j, by omega, h⟩
    · by_cases c : ∀ v, v < nn (s 0) → rch s x (k + 1) v = rch s x k v
      · exact Or.inl ⟨k, by omega, c⟩
      · refine Or.inr ?_
        have up : ∀ v, v < nn (s 0) → rch s x k v = true → rch s x (k + 1) v = true := fun v hv z => by rw [rch_step hx hv, z]; rfl
        have : ∃ v, v < nn (s 0) ∧ rch s x k v = false ∧ rch s x (k + 1) v = true := by
          apply Classical.byContradiction
          intro hn
          apply c
          intro v hv
          cases e : rch s x k v
          · cases e2 : rch s x (k + 1) v
            · rfl
            · exact absurd ⟨v, hv, e, e2⟩ hn
          · rw [up v hv e]
        have := cnt_lt up this
        omega
/-- who can be reached is reached with fewer changes than there are versions -/
theorem wlk_short {d x y : Nat} (hx : x < nn (s 0)) (hy : y < nn (s 0)) (h : wlk s d x y = true) : ∃ d', d' < nn (s 0) ∧ wlk s d' x y = true := by
  rcases rch_grow hx (nn (s 0)) with ⟨j, hj, hs⟩ | c
  · by_cases c : d < nn (s 0)
    · exact ⟨d, c, h⟩
    · have e := rch_stab hx hs (d - j) y hy
      rw [show j + (d - j) = d by omega] at e
      have : rch s x d y = true := rch_iff.mpr ⟨d, by omega, h⟩
      rw [this] at e
      obtain ⟨d', hd, h2⟩ := rch_iff.mp e.symm
      exact ⟨d', by omega, h2⟩
  · have := cnt_le (rch s x (nn (s 0))) (nn (s 0))
    omega
/-! the class -/
theorem nv_le {i : Nat} {A B : Prop} (R : Rk C E s) (Y : LyR 15 s h.1) (f : i = nn (s 0) → A) (g : i < nn (s 0) → B) (hi : i ≤ nn (s 0)) : ((gi h 16 1) ≤ nI i → A) ∧ (¬ (gi h 16 1) ≤ nI i → B) := by
  have hv := R.v.2
  rw [show gi h 16 1 = s 0 from Y.nv, R.v.1]
  exact pk_le (nn (s 0)) i (fun z => f (by omega)) (fun z => g (by omega))
theorem one_mk {x n : Nat} (hn : n ≤ 32) (hx : x < n) : ((nI 1) <<< (nI x &&& 31)) = mk n (fun v => decide (v = x)) := mk_of hn fun i hi => by
  rw [bt_one (by omega) hi]
  by_cases c : i < n
  · simp [c]
  · have : ¬ i = x := by omega
    simp [c, this]
def nxtW (s : RW) (x y : Nat) : Nat := if wayN s x y ≤ 1 then 0 else fst1 (nn (s 0)) (fun c => folw s x c && decide (wayN s c y + 1 = wayN s x y))
theorem wayN_le (R : Rk C E s) {x y : Nat} : wayN s x y ≤ 8 := by
  have := R.v.2
  have := fst1_le (p := fun d => wlk s d x y) (n := nn (s 0))
  unfold wayN; omega
theorem pre1_eq {n w : Nat} (hn : n < 100) (hw : w < 100) : pre1 n = nI w ↔ n = w + 1 := by
  cases n with
  | zero =>
    rw [pre1_z]
    exact ⟨fun z => absurd z.symm (nI_m1 (by omega)), fun z => by omega⟩
  | succ n =>
    rw [pre1_s, nI_eq (by omega) (by omega)]
    omega
theorem pre1_n1 {n : Nat} (hn : n < 2 ^ 31) : pre1 n = -(nI 1) ↔ n = 0 := by
  cases n with
  | zero => exact ⟨fun _ => rfl, fun _ => pre1_z⟩
  | succ n => exact ⟨fun z => absurd z (nI_m1 (by omega)), fun z => by omega⟩
end

