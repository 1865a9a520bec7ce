/-! ===== the public questions of the reference, 1 ===== -/
section
variable {q : Nat → PH → Prop} {kk : Int32 → PH → Prop} {kv : PH → Prop} {h : PH} {s : RW} {C E : Nat} {a : Nat}
def inV (s : RW) (x : Int32) : Bool := inR x 0 ((nn (s 0) : Int) - 1)
def inP (s : RW) (x : Int32) : Bool := inR x 0 ((nn (s 1) : Int) - 1)
def inM (s : RW) (x : Int32) : Bool := inR x 0 ((nn (s 2) : Int) - 1)
def inW (s : RW) (x : Int32) : Bool := inR x 0 ((nn (s 3) : Int) - 1)
theorem inN_t {x : Int32} {n : Nat} (hn : n < 100) (e : inR x 0 ((n : Int) - 1) = true) : x = nI (nn x) ∧ nn x < n := by
  obtain ⟨j, hj, e2⟩ := inR_t (by omega) e
  subst e2
  rw [nn_nI (by omega)]
  exact ⟨rfl, hj⟩
theorem inV_t {x : Int32} (R : Rk C E s) (e : inV s x = true) : x = nI (nn x) ∧ nn x < nn (s 0) := inN_t (by have := R.v.2; omega) e
theorem inP_t {x : Int32} (R : Rk C E s) (e : inP s x = true) : x = nI (nn x) ∧ nn x < nn (s 1) := inN_t (by have := R.p.2; omega) e
theorem inM_t {x : Int32} (R : Rk C E s) (e : inM s x = true) : x = nI (nn x) ∧ nn x < nn (s 2) := inN_t (by have := R.m.2; omega) e
theorem inW_t {x : Int32} (R : Rk C E s) (e : inW s x = true) : x = nI (nn x) ∧ nn x < nn (s 3) := inN_t (by have := R.w.2; omega) e
theorem inR_n {x : Int32} {a b : Nat} (hb : b < 2 ^ 31) (e : inR x a b = true) : x = nI (nn x) ∧ a ≤ nn x ∧ nn x ≤ b := by
  have e2 : inR x 0 (((b + 1 : Nat) : Int) - 1) = true := by
    simp only [inR, Bool.and_eq_true, decide_eq_true_eq] at e ⊢
    omega
  have h3 : ∃ j, j < b + 1 ∧ x = nI j := by
    simp only [inR, Bool.and_eq_true, decide_eq_true_eq] at e
    have hx : ¬ x < 0 := by
      rw [Int32.lt_iff_toInt_lt, show (0 : Int32).toInt = 0 by decide]; omega
    obtain ⟨j, hj, e3⟩ := nI_of hx
    subst e3
    rw [nI_toInt hj] at e
    exact ⟨j, by omega, rfl⟩
  obtain ⟨j, hj, e3⟩ := h3
  subst e3
  simp only [inR, Bool.and_eq_true, decide_eq_true_eq] at e
  rw [nI_toInt (by omega)] at e
  rw [nn_nI (by omega)]
  exact ⟨rfl, by omega, by omega⟩
/-- the class's two tests of a range -/
theorem inC {x y : Int32} {n : Nat} {A B : Prop} (hy : y = nI n) (hn : n < 2 ^ 31) (g : inR x 0 ((n : Int) - 1) = false → B) (f : inR x 0 ((n : Int) - 1) = true → A) : (x < 0 → B) ∧ (¬ x < 0 → ((x < y → A) ∧ (¬ x < y → B))) := by
  subst hy
  have t0 : (0 : Int32).toInt = 0 := by decide
  simp only [inR, Bool.and_eq_true, Bool.and_eq_false_iff, decide_eq_true_eq, decide_eq_false_iff_not] at f g
  rw [Int32.lt_iff_toInt_lt, Int32.lt_iff_toInt_lt, t0, nI_toInt hn]
  exact ⟨fun c => g (by omega), fun c => ⟨fun d => f (by omega), fun d => g (by omega)⟩⟩
theorem inL {x y z : Int32} {a b : Nat} {A B : Prop} (hb : b < 2 ^ 31) (hy : y = nI a) (hz : z = nI b) (ha : a < 2 ^ 31) (g : inR x a b = false → B) (f : inR x a b = true → A) : (x < y → B) ∧ (¬ x < y → ((x ≤ z → A) ∧ (¬ x ≤ z → B))) := by
  subst hy hz
  simp only [inR, Bool.and_eq_true, Bool.and_eq_false_iff, decide_eq_true_eq, decide_eq_false_iff_not] at f g
  rw [Int32.lt_iff_toInt_lt, Int32.le_iff_toInt_le, nI_toInt ha, nI_toInt hb]
  exact ⟨fun c => g (by omega), fun c => ⟨fun d => f (by omega), fun d => g (by omega)⟩⟩
theorem c_needVersion {x : Int32} (R : Rk C E s) (Y : LyR 15 s h.1) (K0 : inV s x = false → q 2 h) (K1 : inV s x = true → kv h) : MetPM m_X11_needVersion [.ref 0, .int x] h (rV q kv) := by
  refine t_X11_needVersion ?_
  rw [show gi h 16 1 = s 0 from Y.nv]
  exact inC R.v.1 (by have := R.v.2; omega) (fun e => ⟨Nat.le_of_ble_eq_true rfl, K0 e⟩) K1
theorem c_needMember {x : Int32} (R : Rk C E s) (Y : LyR 15 s h.1) (K0 : inM s x = false → q 2 h) (K1 : inM s x = true → kv h) : MetPM m_X11_needMember [.ref 0, .int x] h (rV q kv) := by
  refine t_X11_needMember ?_
  rw [show gi h 26 1 = s 2 from Y.nm]
  exact inC R.m.1 (by have := R.m.2; omega) (fun e => ⟨Nat.le_of_ble_eq_true rfl, K0 e⟩) K1
theorem c_needFormat {x : Int32} (K0 : inR x 1 9 = false → q 1 h) (K1 : inR x 1 9 = true → kv h) : MetPM m_X11_needFormat [.int x] h (rV q kv) :=
  t_X11_needFormat (inL (a := 1) (b := 9) (by omega) rfl rfl (by omega) (fun e => ⟨Nat.le_of_ble_eq_true rfl, K0 e⟩) K1)
theorem c_needMeasure {x : Int32} (K0 : inR x 0 999 = false → q 1 h) (K1 : inR x 0 999 = true → kv h) : MetPM m_X11_needMeasure [.int x] h (rV q kv) :=
  t_X11_needMeasure (inL (a := 0) (b := 999) (by omega) rfl rfl (by omega) (fun e => ⟨Nat.le_of_ble_eq_true rfl, K0 e⟩) K1)
theorem c_needAhead {x : Int32} (K0 : inR x 0 2000 = false → q 1 h) (K1 : inR x 0 2000 = true → kv h) : MetPM m_X11_needAhead [.int x] h (rV q kv) :=
  t_X11_needAhead (inL (a := 0) (b := 2000) (by omega) rfl rfl (by omega) (fun e => ⟨Nat.le_of_ble_eq_true rfl, K0 e⟩) K1)
theorem hs0 (hs : h.1 132 = s) {k : Nat} {x : Int32} : (si h 130 k x).1 132 = s := (si_b (by omega)).trans hs
theorem g1 {A B : Prop} (x : A) : (¬ nI 1 = 0 → A) ∧ (nI 1 = 0 → B) := ⟨fun _ => x, fun z => absurd z (by decide)⟩
theorem g0 {A B : Prop} (x : B) : (¬ nI 0 = 0 → A) ∧ (nI 0 = 0 → B) := ⟨fun z => absurd rfl z, fun _ => x⟩
theorem f1 {A B : Prop} (x : A) : (nI 1 = 0 → B) ∧ (¬ nI 1 = 0 → A) := ⟨fun z => absurd z (by decide), fun _ => x⟩
theorem f0 {A B : Prop} (x : B) : (nI 0 = 0 → B) ∧ (¬ nI 0 = 0 → A) := ⟨fun _ => x, fun z => absurd rfl z⟩
theorem whyN_le {m v : Nat} : whyN s m v ≤ 7 := by
  unfold whyN
  repeat' split
  all_goals omega
theorem why_q {m v : Nat} {A B : Prop} (f : decide (whyN s m v = 0) = true → A) (g : decide (whyN s m v = 0) = false → B) : (nI (whyN s m v) = 0 → A) ∧ (¬ nI (whyN s m v) = 0 → B) := by
  have h7 := whyN_le (s := s) (m := m) (v := v)
  rw [← nI_0, nI_eq (by omega) (by omega)]
  exact ⟨fun z => f (decide_eq_true z), fun z => g (decide_eq_false z)⟩
def blkM (s : RW) (m : Nat) : Bool := lagM s m && (!isD s m && !decide (whyN s m (nn (s 14)) = 0))
theorem tlk_mk {v : Nat} (hv : v < 32) : s (36 + v) ||| ((nI 1) <<< (nI v &&& 31)) = mk 32 (tlk s v) := mk_of (Nat.le_refl _) fun i hi => by
  rw [b_or, bt_one hv hi, decide_eq_true hi, Bool.true_and]
  unfold tlk
  by_cases c : i = v
  · subst c; simp
  · have c2 : ¬ v = i := fun z => c z.symm
    simp [c, c2]
def mbV (s : RW) (m w : Nat) : Int32 := if w = 6 then wvOf s m else mf s m w
def plnV (s : RW) (w : Nat) : Int32 := if w = 0 then s 12 else if w = 4 then soakE s else if hasP s = true then s (12 + w) else -(nI 1)
def inE (s : RW) (x : Int32) : Bool := inR x 0 ((kEv s : Int) - 1)
def evtV (s : RW) (i w : Nat) : Int32 := s (evM (nn (s 19)) i + w)
theorem kEv_le : kEv s ≤ 30 ∧ kEv s ≤ nn (s 19) := by
  unfold kEv; split <;> omega
theorem inE_t {x : Int32} (e : inE s x = true) : x = nI (nn x) ∧ nn x < kEv s := inN_t (by have := (kEv_le (s := s)).1; omega) e
end

