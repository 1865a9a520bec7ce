/-! ===== bits (BITS.to-paste, its first family), reads behind writes, masks, counts ===== -/
def bt (x : Int32) (i : Nat) : Bool := x.toBitVec.getLsbD i
theorem b_ext {x y : Int32} (h : ∀ i, i < 32 → bt x i = bt y i) : x = y := Int32.toBitVec_inj.mp (BitVec.eq_of_getLsbD_eq (fun i hi => h i hi))
theorem b_or (x y : Int32) (i : Nat) : bt (x ||| y) i = (bt x i || bt y i) := by unfold bt; rw [Int32.toBitVec_or, BitVec.getLsbD_or]
theorem b_and (x y : Int32) (i : Nat) : bt (x &&& y) i = (bt x i && bt y i) := by unfold bt; rw [Int32.toBitVec_and, BitVec.getLsbD_and]
theorem b_xor (x y : Int32) (i : Nat) : bt (x ^^^ y) i = (bt x i ^^ bt y i) := by unfold bt; rw [Int32.toBitVec_xor, BitVec.getLsbD_xor]
theorem b_big {x : Int32} {i : Nat} (h : 32 ≤ i) : bt x i = false := BitVec.getLsbD_of_ge _ _ h
theorem b_255 (i : Nat) : bt 255 i = decide (i < 8) := by
  rcases Nat.lt_or_ge i 32 with h | h
  · exact (by decide +kernel : ∀ i, i < 32 → bt 255 i = decide (i < 8)) i h
  · rw [b_big h, decide_eq_false (by omega)]
theorem b_65535 (i : Nat) : bt 65535 i = decide (i < 16) := by
  rcases Nat.lt_or_ge i 32 with h | h
  · exact (by decide +kernel : ∀ i, i < 32 → bt 65535 i = decide (i < 16)) i h
  · rw [b_big h, decide_eq_false (by omega)]
theorem b_m1 : ∀ i, i < 32 → bt (-1) i = true := by decide +kernel
theorem b_0 (i : Nat) : bt 0 i = false := BitVec.getLsbD_zero
theorem s_l : ∀ n, n < 32 → ((nI n &&& 31).toBitVec.smod 32).toNat = n := by decide +kernel
theorem s_u : ∀ n, n < 32 → (((nI n).toUInt32 &&& Int32.toUInt32 31).toBitVec % 32).toNat = n := by decide +kernel
theorem b_shl (n : Nat) (hn : n < 32) (x : Int32) {i : Nat} (hi : i < 32) : bt (x <<< (nI n &&& 31)) i = (decide (n ≤ i) && bt x (i - n)) := by
  unfold bt
  rw [Int32.toBitVec_shiftLeft]
  show (x.toBitVec <<< ((nI n &&& 31).toBitVec.smod 32).toNat).getLsbD i = _
  rw [s_l n hn, BitVec.getLsbD_shiftLeft]
  rcases Nat.lt_or_ge i n with h | h
  · simp [h, Nat.not_le.mpr h]
  · simp [hi, h, Nat.not_lt.mpr h]
theorem b_ushr (n : Nat) (hn : n < 32) (x : Int32) (i : Nat) : bt ((x.toUInt32 >>> ((nI n).toUInt32 &&& Int32.toUInt32 31)).toInt32) i = bt x (n + i) := by
  show (x.toUInt32 >>> ((nI n).toUInt32 &&& Int32.toUInt32 31)).toBitVec.getLsbD i = x.toUInt32.toBitVec.getLsbD (n + i)
  rw [UInt32.toBitVec_shiftRight]
  show (x.toUInt32.toBitVec >>> (((nI n).toUInt32 &&& Int32.toUInt32 31).toBitVec % 32).toNat).getLsbD i = _
  rw [s_u n hn, BitVec.getLsbD_ushiftRight]
theorem b_sshr (n : Nat) (hn : n < 32) (x : Int32) {i : Nat} (hi : i < 32) : bt (x >>> (nI n &&& 31)) i = if n + i < 32 then bt x (n + i) else bt x 31 := by
  unfold bt
  rw [Int32.toBitVec_shiftRight]
  show (x.toBitVec.sshiftRight ((nI n &&& 31).toBitVec.smod 32).toNat).getLsbD i = _
  rw [s_l n hn, BitVec.getLsbD_sshiftRight, BitVec.msb_eq_getLsbD_last]
  simp [hi]
/-! ===== reads behind writes ===== -/
abbrev RW : Type := Nat → Int32
def ups (s : RW) (k : Nat) (x : Int32) : RW := fun j => if j = k then x else s j
theorem ups_s {s : RW} {k : Nat} {x : Int32} : ups s k x k = x := if_pos rfl
theorem ups_n {s : RW} {k j : Nat} {x : Int32} (h : j ≠ k) : ups s k x j = s j := if_neg h
theorem si_a (h : PH) (a k : Nat) (x : Int32) : (si h a k x).1 a = ups (h.1 a) k x := by
  funext j
  show (if a = a then (if j = k then x else h.1 a j) else h.1 a j) = _
  rw [if_pos rfl]; rfl
theorem si_b {h : PH} {a k b : Nat} {x : Int32} (e : b ≠ a) : (si h a k x).1 b = h.1 b := by
  funext j
  exact if_neg e
theorem gi_si (h : PH) (a k : Nat) (x : Int32) (b j : Nat) : gi (si h a k x) b j = if b = a then (if j = k then x else gi h b j) else gi h b j := rfl
theorem gi_same {h : PH} {a k : Nat} {x : Int32} : gi (si h a k x) a k = x := by rw [gi_si, if_pos rfl, if_pos rfl]
theorem gi_ob {h : PH} {a k b j : Nat} {x : Int32} (e : b ≠ a) : gi (si h a k x) b j = gi h b j := by rw [gi_si, if_neg e]
theorem gi_ok {h : PH} {a k j : Nat} {x : Int32} (e : j ≠ k) : gi (si h a k x) a j = gi h a j := by rw [gi_si, if_pos rfl, if_neg e]
/-- what may be changed: by cell and place; longs and references stay -/
def Fr (W : Nat → Nat → Bool) (h h' : PH) : Prop := (∀ b k, W b k = false → gi h' b k = gi h b k) ∧ h'.2 = h.2
theorem Fr.refl (W : Nat → Nat → Bool) (h : PH) : Fr W h h := ⟨fun _ _ _ => rfl, rfl⟩
theorem Fr.trans {W : Nat → Nat → Bool} {h h1 h2 : PH} (a : Fr W h h1) (b : Fr W h1 h2) : Fr W h h2 := ⟨fun c k e => (b.1 c k e).trans (a.1 c k e), b.2.trans a.2⟩
theorem Fr.mono {W V : Nat → Nat → Bool} {h h' : PH} (a : Fr W h h') (m : ∀ b k, V b k = false → W b k = false) : Fr V h h' := ⟨fun b k e => a.1 b k (m b k e), a.2⟩
theorem Fr.wr {W : Nat → Nat → Bool} (h : PH) {a k : Nat} (x : Int32) (w : W a k = true) : Fr W h (si h a k x) := by
  refine ⟨fun b j e => ?_, rfl⟩
  rw [gi_si]
  by_cases q : b = a
  · subst q
    by_cases r : j = k
    · subst r; rw [w] at e; cases e
    · rw [if_pos rfl, if_neg r]
  · rw [if_neg q]
theorem Fr.and {W : Nat → Nat → Bool} {h h1 : PH} (f : Fr W h h1) {a k : Nat} (x : Int32) (w : W a k = true) : Fr W h (si h1 a k x) := f.trans (Fr.wr h1 x w)
/-- a whole cell that isn't touched -/
theorem Fr.cell {W : Nat → Nat → Bool} {h h' : PH} (f : Fr W h h') {b : Nat} (e : ∀ k, W b k = false) : h'.1 b = h.1 b := funext fun k => f.1 b k (e k)
/-! ===== booleans as ints ===== -/
def b2i (b : Bool) : Int32 := match b with
  | true => 1
  | false => 0
theorem isB_b2i (b : Bool) : isB (b2i b) := by cases b <;> first | exact Or.inl rfl | exact Or.inr rfl
theorem isB_0 : isB (nI 0) := Or.inl rfl
theorem isB_1 : isB (nI 1) := Or.inr rfl
theorem b2i_0 {b : Bool} : b2i b = 0 ↔ b = false := by cases b <;> decide
theorem bq {b : Bool} {A B : Prop} (f : b = false → A) (g : b = true → B) : (b2i b = 0 → A) ∧ (¬ b2i b = 0 → B) := by
  cases b
  · exact ⟨fun _ => f rfl, fun z => absurd rfl z⟩
  · exact ⟨fun z => absurd z (by decide), fun _ => g rfl⟩
theorem bp {b : Bool} {A B : Prop} (f : b = false → A) (g : b = true → B) : (¬ b2i b = 0 → B) ∧ (b2i b = 0 → A) := ⟨(bq f g).2, (bq f g).1⟩
/-- a choice by a decidable fact, for answers 0 and 1 -/
theorem cq {c : Prop} [Decidable c] {A B : Prop} (f : c → A) (g : ¬ c → B) : (c → A) ∧ (¬ c → B) := ⟨f, g⟩
/-! ===== masks ===== -/
def mk : Nat → (Nat → Bool) → Int32
  | 0, _ => 0
  | n + 1, p => mk n p ||| (b2i (p n) <<< (nI n &&& 31))
theorem bt_b2i (b : Bool) {j : Nat} (hj : j < 32) : bt (b2i b) j = (b && decide (j = 0)) := by
  cases b
  · exact b_0 j
  · exact (by decide +kernel : ∀ j, j < 32 → bt (b2i true) j = (true && decide (j = 0))) j hj
theorem bt_mk (p : Nat → Bool) : ∀ n, n ≤ 32 → ∀ i, i < 32 → bt (mk n p) i = (decide (i < n) && p i) := by
  intro n
  induction n with
  | zero => intro _ i _; simp [mk, b_0]
  | succ n ih =>
    intro hn i hi
    have hi2 : i - n < 32 := by omega
    rw [mk, b_or, ih (by omega) i hi, b_shl n (by omega) _ hi, bt_b2i _ hi2]
    by_cases h1 : i < n
    · have h2 : ¬ n ≤ i := by omega
      have h3 : i < n + 1 := by omega
      simp [h1, h2, h3]
    · by_cases h2 : i = n
      · subst h2; simp
      · have h3 : ¬ i < n + 1 := by omega
        have h4 : ¬ i - n = 0 := by omega
        simp [h1, h3, h4]
theorem mk_eq {n : Nat} {p q : Nat → Bool} (h : ∀ i, i < n → p i = q i) : mk n p = mk n q := by
  induction n with
  | zero => rfl
  | succ n ih => rw [mk, mk, ih (fun i hi => h i (by omega)), h n (by omega)]
/-- a mask is known by its bits -/
theorem mk_of {x : Int32} {n : Nat} {p : Nat → Bool} (hn : n ≤ 32) (h : ∀ i, i < 32 → bt x i = (decide (i < n) && p i)) : x = mk n p := b_ext fun i hi => by rw [h i hi, bt_mk p n hn i hi]
theorem zsh (n : Nat) : ((0 : Int32) <<< (nI n &&& 31)) = 0 := by
  apply Int32.toBitVec_inj.mp
  rw [Int32.toBitVec_shiftLeft]
  simp
theorem or_0 (x : Int32) : x ||| 0 = x := b_ext fun i _ => by rw [b_or, b_0, Bool.or_false]
theorem mk_0 {n : Nat} {p : Nat → Bool} (h : ∀ i, i < n → p i = false) : mk n p = 0 := by
  induction n with
  | zero => rfl
  | succ n ih => rw [mk, ih (fun i hi => h i (by omega)), h n (by omega), show b2i false = (0 : Int32) from rfl, zsh, or_0]
theorem m1_eq : (-(nI 1) : Int32) = -1 := by decide
theorem bt_not (x : Int32) {i : Nat} (hi : i < 32) : bt (x ^^^ (-(nI 1))) i = !bt x i := by rw [b_xor, m1_eq, b_m1 i hi, Bool.xor_true]
theorem bt_one {n : Nat} (hn : n < 32) {i : Nat} (hi : i < 32) : bt ((nI 1) <<< (nI n &&& 31)) i = decide (i = n) := by
  rw [b_shl n hn _ hi]
  have : bt (nI 1) (i - n) = (true && decide (i - n = 0)) := bt_b2i true (by omega)
  rw [this]
  by_cases h : i = n
  · subst h; simp
  · by_cases h2 : n ≤ i
    · have : ¬ i - n = 0 := by omega
      simp [h, this]
    · simp [h, h2]
theorem bt_1 : ∀ i, i < 32 → bt (nI 1) i = decide (i = 0) := by decide +kernel
theorem isin_iff {x : Int32} {k : Nat} (hk : k < 32) : ((x >>> (nI k &&& 31)) &&& nI 1) = 0 ↔ bt x k = false := by
  constructor
  · intro h
    have h1 : bt ((x >>> (nI k &&& 31)) &&& nI 1) 0 = false := by rw [h]; exact b_0 0
    rw [b_and, b_sshr k hk x (by omega), bt_1 0 (by omega)] at h1
    simpa [hk] using h1
  · intro h
    apply b_ext
    intro i hi
    rw [b_and, bt_1 i hi, b_0]
    by_cases q : i = 0
    · subst q
      rw [b_sshr k hk x (by omega)]
      simp [hk, h]
    · simp [q]
theorem bit_b2i {x : Int32} {k : Nat} (hk : k < 32) : ((x >>> (nI k &&& 31)) &&& nI 1) = b2i (bt x k) := by
  cases h : bt x k
  · exact (isin_iff hk).mpr h
  · apply b_ext
    intro i hi
    rw [b_and, bt_1 i hi, bt_b2i _ hi]
    by_cases q : i = 0
    · subst q
      rw [b_sshr k hk x (by omega)]
      simp [hk, h]
    · simp [q]
/-! ===== counts ===== -/
def cnt : Nat → (Nat → Bool) → Nat
  | 0, _ => 0
  | n + 1, p => cnt n p + (match p n with
    | true => 1
    | false => 0)
theorem cnt_le (p : Nat → Bool) : ∀ n, cnt n p ≤ n
  | 0 => Nat.le_refl _
  | n + 1 => by
    have := cnt_le p n
    rw [cnt]; split <;> omega
theorem cnt_eq {n : Nat} {p q : Nat → Bool} (h : ∀ i, i < n → p i = q i) : cnt n p = cnt n q := by
  induction n with
  | zero => rfl
  | succ n ih => rw [cnt, cnt, ih (fun i hi => h i (by omega)), h n (by omega)]
theorem cnt_ge {p : Nat → Bool} {n m : Nat} (hnm : n ≤ m) (h : ∀ i, n ≤ i → i < m → p i = false) : cnt m p = cnt n p := by
  induction m with
  | zero =>
    have : n = 0 := by omega
    rw [this]
  | succ m ih =>
    rcases Nat.lt_or_ge n (m + 1) with q | q
    · rw [cnt, ih (by omega) (fun i h1 h2 => h i h1 (by omega)), h m (by omega) (by omega)]
      rfl
    · have : n = m + 1 := by omega
      rw [this]
theorem nI_b2i (b : Bool) (n : Nat) : nI n + b2i b = nI (n + (match b with
    | true => 1
    | false => 0)) := by
  cases b
  · show nI n + 0 = nI (n + 0)
    rw [show (0 : Int32) = nI 0 from rfl, nI_add]
  · show nI n + 1 = nI (n + 1)
    rw [nI_1]
/-- the count of a mask of members -/
theorem cnt_mk {n : Nat} (hn : n ≤ 12) (p : Nat → Bool) : cnt 12 (bt (mk n p)) = cnt n p := by
  rw [cnt_ge (n := n) hn (fun i h1 h2 => by
    rw [bt_mk p n (by omega) i (by omega), decide_eq_false (by omega), Bool.false_and])]
  exact cnt_eq fun i hi => by rw [bt_mk p n (by omega) i (by omega), decide_eq_true hi, Bool.true_and]
def allN : Nat → (Nat → Bool) → Bool
  | 0, _ => true
  | n + 1, p => allN n p && p n
def anyN : Nat → (Nat → Bool) → Bool
  | 0, _ => false
  | n + 1, p => anyN n p || p n
theorem allN_iff {p : Nat → Bool} : ∀ {n}, allN n p = true ↔ ∀ i, i < n → p i = true
  | 0 => ⟨fun _ i hi => absurd hi (Nat.not_lt_zero i), fun _ => rfl⟩
  | n + 1 => by
    rw [allN, Bool.and_eq_true, allN_iff (n := n)]
    constructor
    · rintro ⟨h1, h2⟩ i hi
      rcases Nat.lt_or_ge i n with q | q
      · exact h1 i q
      · have : i = n := by omega
        rw [this]; exact h2
    · intro h
      exact ⟨fun i hi => h i (by omega), h n (by omega)⟩
theorem anyN_iff {p : Nat → Bool} : ∀ {n}, anyN n p = true ↔ ∃ i, i < n ∧ p i = true
  | 0 => ⟨fun h => (by cases h), fun ⟨i, hi, _⟩ => absurd hi (Nat.not_lt_zero i)⟩
  | n + 1 => by
    rw [anyN, Bool.or_eq_true, anyN_iff (n := n)]
    constructor
    · rintro (⟨i, hi, h⟩ | h)
      · exact ⟨i, by omega, h⟩
      · exact ⟨n, by omega, h⟩
    · rintro ⟨i, hi, h⟩
      rcases Nat.lt_or_ge i n with q | q
      · exact Or.inl ⟨i, q, h⟩
      · have : i = n := by omega
        rw [this] at h; exact Or.inr h
theorem anyN_f {p : Nat → Bool} {n : Nat} : anyN n p = false ↔ ∀ i, i < n → p i = false := by
  constructor
  · intro h i hi
    cases q : p i
    · rfl
    · rw [anyN_iff.mpr ⟨i, hi, q⟩] at h; cases h
  · intro h
    cases q : anyN n p
    · rfl
    · obtain ⟨i, hi, h1⟩ := anyN_iff.mp q
      rw [h i hi] at h1; cases h1
theorem anyN_eq {n : Nat} {p q : Nat → Bool} (h : ∀ i, i < n → p i = q i) : anyN n p = anyN n q := by
  induction n with
  | zero => rfl
  | succ n ih => rw [anyN, anyN, ih (fun i hi => h i (by omega)), h n (by omega)]
theorem allN_eq {n : Nat} {p q : Nat → Bool} (h : ∀ i, i < n → p i = q i) : allN n p = allN n q := by
  induction n with
  | zero => rfl
  | succ n ih => rw [allN, allN, ih (fun i hi => h i (by omega)), h n (by omega)]
theorem mk_z {n : Nat} {p : Nat → Bool} (hn : n ≤ 32) : mk n p = 0 ↔ anyN n p = false := by
  rw [anyN_f]
  constructor
  · intro h i hi
    have h1 := bt_mk p n hn i (by omega)
    rw [h, b_0, decide_eq_true hi, Bool.true_and] at h1
    exact h1.symm
  · exact mk_0
theorem mk_no {n : Nat} {p : Nat → Bool} (e : p n = false) : mk (n + 1) p = mk n p := by
  rw [mk, e, show b2i false = (0 : Int32) from rfl, zsh, or_0]
theorem mk_yes {n : Nat} {p : Nat → Bool} (e : p n = true) : mk n p ||| ((nI 1) <<< (nI n &&& 31)) = mk (n + 1) p := by rw [mk, e]; rfl
theorem mk_and {n : Nat} (hn : n ≤ 32) (p q : Nat → Bool) : mk n p &&& mk n q = mk n (fun i => p i && q i) := mk_of hn fun i hi => by
  rw [b_and, bt_mk p n hn i hi, bt_mk q n hn i hi]
  by_cases h : i < n
  · simp [h]
  · simp [h]
theorem mk_dif {n : Nat} (hn : n ≤ 32) (p q : Nat → Bool) : mk n p &&& (mk n q ^^^ (-(nI 1))) = mk n (fun i => p i && !q i) := mk_of hn fun i hi => by
  rw [b_and, bt_mk p n hn i hi, bt_not _ hi, bt_mk q n hn i hi]
  by_cases h : i < n
  · simp [h]
  · simp [h]
theorem mk_or {n : Nat} (hn : n ≤ 32) (p q : Nat → Bool) : mk n p ||| mk n q = mk n (fun i => p i || q i) := mk_of hn fun i hi => by
  rw [b_or, bt_mk p n hn i hi, bt_mk q n hn i hi]
  by_cases h : i < n
  · simp [h]
  · simp [h]
theorem mk_clr {n i : Nat} (hn : n ≤ 32) (hi : i < 32) (p : Nat → Bool) : mk n p &&& (((nI 1) <<< (nI i &&& 31)) ^^^ (-(nI 1))) = mk n (fun j => p j && !decide (j = i)) := mk_of hn fun j hj => by
  rw [b_and, bt_mk p n hn j hj, bt_not _ hj, bt_one hi hj]
  by_cases h : j < n
  · simp [h]
  · simp [h]
theorem mk_set {n i : Nat} (hn : n ≤ 32) (hi : i < n) (p : Nat → Bool) : mk n p ||| ((nI 1) <<< (nI i &&& 31)) = mk n (fun j => p j || decide (j = i)) := mk_of hn fun j hj => by
  rw [b_or, bt_mk p n hn j hj, bt_one (by omega) hj]
  by_cases h : j < n
  · simp [h]
  · have h2 : ¬ j = i := by omega
    simp [h, h2]
theorem bt_mk_in {n i : Nat} {p : Nat → Bool} (hn : n ≤ 32) (hi : i < n) : bt (mk n p) i = p i := by
  rw [bt_mk p n hn i (by omega), decide_eq_true hi, Bool.true_and]
/-- a sum over those of a set -/
def sumI : Nat → (Nat → Bool) → (Nat → Int32) → Int32
  | 0, _, _ => 0
  | n + 1, p, g => match p n with
    | true => sumI n p g + g n
    | false => sumI n p g
theorem sumI_eq {n : Nat} {p q : Nat → Bool} {f g : Nat → Int32} (h : ∀ i, i < n → p i = q i) (h2 : ∀ i, i < n → f i = g i) : sumI n p f = sumI n q g := by
  induction n with
  | zero => rfl
  | succ n ih => rw [sumI, sumI, ih (fun i hi => h i (by omega)) (fun i hi => h2 i (by omega)), h n (by omega), h2 n (by omega)]
/-- the least and the greatest of those of a set, one more; 0 of none -/
def lo1 : Nat → (Nat → Bool) → (Nat → Nat) → Nat
  | 0, _, _ => 0
  | n + 1, p, g => match p n with
    | true => if lo1 n p g = 0 then g n + 1 else if g n + 1 < lo1 n p g then g n + 1 else lo1 n p g
    | false => lo1 n p g
def hi1 : Nat → (Nat → Bool) → (Nat → Nat) → Nat
  | 0, _, _ => 0
  | n + 1, p, g => match p n with
    | true => if hi1 n p g < g n + 1 then g n + 1 else hi1 n p g
    | false => hi1 n p g
theorem lo1_eq {n : Nat} {p q : Nat → Bool} {f g : Nat → Nat} (h : ∀ i, i < n → p i = q i) (h2 : ∀ i, i < n → f i = g i) : lo1 n p f = lo1 n q g := by
  induction n with
  | zero => rfl
  | succ n ih => rw [lo1, lo1, ih (fun i hi => h i (by omega)) (fun i hi => h2 i (by omega)), h n (by omega), h2 n (by omega)]
theorem hi1_eq {n : Nat} {p q : Nat → Bool} {f g : Nat → Nat} (h : ∀ i, i < n → p i = q i) (h2 : ∀ i, i < n → f i = g i) : hi1 n p f = hi1 n q g := by
  induction n with
  | zero => rfl
  | succ n ih => rw [hi1, hi1, ih (fun i hi => h i (by omega)) (fun i hi => h2 i (by omega)), h n (by omega), h2 n (by omega)]
theorem lo1_le {p : Nat → Bool} {g : Nat → Nat} {b : Nat} : ∀ {n}, (∀ i, i < n → g i < b) → lo1 n p g ≤ b
  | 0, _ => Nat.zero_le _
  | n + 1, h => by
    have h1 := lo1_le (p := p) (n := n) (fun i hi => h i (by omega))
    have h2 := h n (by omega)
    unfold lo1
    split
    · split
      · omega
      · split <;> omega
    · exact h1
theorem hi1_le {p : Nat → Bool} {g : Nat → Nat} {b : Nat} : ∀ {n}, (∀ i, i < n → g i < b) → hi1 n p g ≤ b
  | 0, _ => Nat.zero_le _
  | n + 1, h => by
    have h1 := hi1_le (p := p) (n := n) (fun i hi => h i (by omega))
    have h2 := h n (by omega)
    unfold hi1
    split
    · split <;> omega
    · exact h1
/-- -1, or the number before -/
def pre1 (n : Nat) : Int32 := match n with
  | 0 => -1
  | n + 1 => nI n

