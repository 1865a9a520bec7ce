/-! ===== the text of a cluster that grew, as the class reads it: tokens ===== -/
section
variable {c : Nat → Nat} {n p q r a e i k b d m o : Nat} {s : RW} {nm : Nat → Int64} {td : Nat → Bool}
theorem rE_at {P : Nat → Bool} : ∀ k p, p + k = e → e ≤ n → (∀ i, p ≤ i → i < e → P i = true) → (n ≤ e ∨ P e = false) → rE P n p = e
  | 0, p, h, _, _, hn => by
    have : p = e := by omega
    subst this
    exact rE_no hn
  | k + 1, p, h, hen, hP, hn => by
    rw [rE_go (by omega) (hP p (Nat.le_refl _) (by omega))]
    exact rE_at k (p + 1) (by omega) hen (fun i h1 h2 => hP i (by omega) h2) hn
theorem tS_at (h : a < n) (hpa : p ≤ a) (sp : ∀ i, p ≤ i → i < a → spC (c i) = true) (ns : spC (c a) = false) : tS c n p = a :=
  rE_at (a - p) p (by omega) (by omega) sp (Or.inr ns)
theorem w_tok (hS : tS c n p = a) (hae : a < e) (hen : e < n) (hl : ∀ i, a ≤ i → i < e → leC (c i) = true) (he : leC (c e) = false) (h8 : e ≤ a + 8) : tK c n p = 1 ∧ tE c n p = e ∧ tW c n p = w8 c a (e - a) ∧ tM c n p = w5 c a (e - a) := by
  have hw : wE c n a = e := rE_at (e - a) a (by omega) (by omega) hl (Or.inr he)
  have ha := hl a (Nat.le_refl _) hae
  have hE : tE c n p = e := by
    unfold tE kE
    rw [hS, if_neg (by omega), if_pos ha, hw]
  refine ⟨?_, hE, ?_, ?_⟩
  · unfold tK kK
    rw [hS, if_neg (by omega), if_pos ha, hw, if_pos (by omega)]
  · unfold tW; rw [hS, hE]
  · unfold tM; rw [hS, hE]
theorem n_tok (hS : tS c n p = a) (hae : a < e) (hen : e < n) (hl : ∀ i, a ≤ i → i < e → diC (c i) = true) (he : diC (c e) = false) (h3 : e ≤ a + 3) : tK c n p = 2 ∧ tE c n p = e ∧ tV c n p = vl c a (e - a) := by
  have hw : dE c n a = e := rE_at (e - a) a (by omega) (by omega) hl (Or.inr he)
  have ha := hl a (Nat.le_refl _) hae
  have hd := diC_t ha
  have hle : leC (c a) = false := by
    cases q : leC (c a)
    · rfl
    · have := leC_t q; omega
  have hE : tE c n p = e := by
    unfold tE kE
    rw [hS, if_neg (by omega), hle, if_neg (by decide), if_pos ha, hw]
  refine ⟨?_, hE, ?_⟩
  · unfold tK kK
    rw [hS, if_neg (by omega), hle, if_neg (by decide), if_pos ha, hw, if_pos (by omega)]
  · unfold tV; rw [hS, hE]
theorem s_tok (hS : tS c n p = a) (han : a < n) (h : c a = 59) : tK c n p = 3 ∧ tE c n p = a + 1 := by
  have h1 : leC (c a) = false := by rw [h]; decide
  have h2 : diC (c a) = false := by rw [h]; decide
  refine ⟨?_, ?_⟩
  · unfold tK kK
    rw [hS, if_neg (by omega), h1, if_neg (by decide), h2, if_neg (by decide), if_pos h]
  · unfold tE kE
    rw [hS, if_neg (by omega), h1, if_neg (by decide), h2, if_neg (by decide)]
theorem leC_i {x : Nat} (h1 : 97 ≤ x) (h2 : x ≤ 122) : leC x = true := by
  unfold leC
  rw [Nat.ble_eq_true_of_le h1, Nat.ble_eq_true_of_le h2]; rfl
theorem diC_i {x : Nat} (h1 : 48 ≤ x) (h2 : x ≤ 57) : diC x = true := by
  unfold diC
  rw [Nat.ble_eq_true_of_le h1, Nat.ble_eq_true_of_le h2]; rfl
theorem spC_n {x : Nat} (h : 33 ≤ x) : spC x = false := by
  unfold spC
  rw [decide_eq_false (by omega), decide_eq_false (by omega)]; rfl
/-- a name of two letters -/
def nvN (b i : Nat) : Nat := (b - 96) * 32 + (97 + i - 96)
theorem name_tok (h0 : c r = 32) (h1 : c (r + 1) = b) (hb : 97 ≤ b ∧ b ≤ 122) (h2 : c (r + 2) = 97 + i) (hi : i < 26) (h3 : leC (c (r + 3)) = false) (hn : r + 3 < n) : tK c n r = 1 ∧ tE c n r = r + 3 ∧ tM c n r = nvN b i := by
  have hS : tS c n r = r + 1 := tS_at (by omega) (by omega) (fun j h1 h2 => by
    have : j = r := by omega
    rw [this, h0]; rfl) (by rw [h1]; exact spC_n (by omega))
  have hw := w_tok (e := r + 3) hS (by omega) hn (fun j x1 x2 => by
    rcases (by omega : j = r + 1 ∨ j = r + 2) with q | q
    · rw [q, h1]; exact leC_i hb.1 hb.2
    · rw [q, h2]; exact leC_i (by omega) (by omega)) h3 (by omega)
  refine ⟨hw.1, hw.2.1, ?_⟩
  rw [hw.2.2.2, show r + 3 - (r + 1) = 2 by omega]
  show (0 * 32 + (c (r + 1 + 0) - 96)) * 32 + (c (r + 1 + 1) - 96) = _
  rw [Nat.add_zero, h1, show r + 1 + 1 = r + 2 from rfl, h2]
  unfold nvN
  omega
/-- a number of one digit, of two -/
theorem num1_tok (h0 : c r = 32) (h1 : c (r + 1) = 48 + d) (hd : d < 10) (h3 : diC (c (r + 2)) = false) (hn : r + 2 < n) : tK c n r = 2 ∧ tE c n r = r + 2 ∧ tV c n r = d := by
  have hS : tS c n r = r + 1 := tS_at (by omega) (by omega) (fun j h1 h2 => by
    have : j = r := by omega
    rw [this, h0]; rfl) (by rw [h1]; exact spC_n (by omega))
  have hw := n_tok (e := r + 2) hS (by omega) hn (fun j x1 x2 => by
    have : j = r + 1 := by omega
    rw [this, h1]; exact diC_i (by omega) (by omega)) h3 (by omega)
  refine ⟨hw.1, hw.2.1, ?_⟩
  rw [hw.2.2, show r + 2 - (r + 1) = 1 by omega]
  show 0 * 10 + (c (r + 1 + 0) - 48) = d
  rw [Nat.add_zero, h1]
  omega
theorem num2_tok (h0 : c r = 32) (h1 : c (r + 1) = 48 + d) (hd : d < 10) (h2 : c (r + 2) = 48 + e) (he : e < 10) (h3 : diC (c (r + 3)) = false) (hn : r + 3 < n) : tK c n r = 2 ∧ tE c n r = r + 3 ∧ tV c n r = d * 10 + e := by
  have hS : tS c n r = r + 1 := tS_at (by omega) (by omega) (fun j h1 h2 => by
    have : j = r := by omega
    rw [this, h0]; rfl) (by rw [h1]; exact spC_n (by omega))
  have hw := n_tok (e := r + 3) hS (by omega) hn (fun j x1 x2 => by
    rcases (by omega : j = r + 1 ∨ j = r + 2) with q | q
    · rw [q, h1]; exact diC_i (by omega) (by omega)
    · rw [q, h2]; exact diC_i (by omega) (by omega)) h3 (by omega)
  refine ⟨hw.1, hw.2.1, ?_⟩
  rw [hw.2.2, show r + 3 - (r + 1) = 2 by omega]
  show (0 * 10 + (c (r + 1 + 0) - 48)) * 10 + (c (r + 1 + 1) - 48) = _
  rw [Nat.add_zero, h1, show r + 1 + 1 = r + 2 from rfl, h2]
  omega
theorem semi_tok (h : c r = 59) (hn : r < n) : tK c n r = 3 ∧ tE c n r = r + 1 :=
  s_tok (tS_at hn (Nat.le_refl _) (fun j h1 h2 => by omega) (by rw [h]; decide)) hn h
theorem semi1_tok (h0 : c r = 32) (h : c (r + 1) = 59) (hn : r + 1 < n) : tK c n r = 3 ∧ tE c n r = r + 2 :=
  s_tok (tS_at hn (by omega) (fun j h1 h2 => by
    have : j = r := by omega
    rw [this, h0]; rfl) (by rw [h]; decide)) hn h
/-- the word of a statement -/
theorem K8_ne : ∀ i, i < 12 → fst1 12 (fun j => decide (K8 i = K8 j)) = i + 1 := by decide +kernel
theorem kw_tok (hi : i < 12) (hS : tS c n p = q) (hc : ∀ j, j < kln i → c (q + j) = klt i j) (he : c (q + kln i) = 32) (hn : q + kln i < n) : tK c n p = 1 ∧ tE c n p = q + kln i ∧ fst1 12 (kwB c n p) = i + 1 := by
  obtain ⟨k1, k2, k3⟩ := kw_ok i (by omega)
  have hw := w_tok (e := q + kln i) hS (by omega) hn (fun j x1 x2 => by
    obtain ⟨y, rfl⟩ : ∃ y, j = q + y := ⟨j - q, by omega⟩
    rw [hc y (by omega)]
    have := k3 y (by omega) (by omega)
    rw [Nat.zero_add] at this
    exact this) (by rw [he]; decide) (by omega)
  refine ⟨hw.1, hw.2.1, ?_⟩
  rw [← K8_ne i hi]
  refine fst1_eq fun j _ => ?_
  unfold kwB
  rw [hw.1, decide_eq_true rfl, Bool.true_and, hw.2.2.1, show q + kln i - q = kln i by omega]
  rw [show w8 c q (kln i) = K8 i from w8_eq (p' := 0) (fun y hy => by rw [Nat.zero_add]; exact hc y hy)]
theorem held_tok (h0 : c r = 32) (h1 : c (r + 1) = 104) (h2 : c (r + 2) = 101) (h3 : c (r + 3) = 108) (h4 : c (r + 4) = 100) (h5 : c (r + 5) = 59) (hn : r + 5 < n) : kwB c n r 22 = true ∧ tE c n r = r + 5 := by
  have hS : tS c n r = r + 1 := tS_at (by omega) (by omega) (fun j h1 h2 => by
    have : j = r := by omega
    rw [this, h0]; rfl) (by rw [h1]; decide)
  have hw := w_tok (e := r + 5) hS (by omega) hn (fun j x1 x2 => by
    rcases (by omega : j = r + 1 ∨ j = r + 2 ∨ j = r + 3 ∨ j = r + 4) with q | q | q | q
    · rw [q, h1]; rfl
    · rw [q, h2]; rfl
    · rw [q, h3]; rfl
    · rw [q, h4]; rfl) (by rw [h5]; decide) (by omega)
  refine ⟨?_, hw.2.1⟩
  unfold kwB
  rw [hw.1, decide_eq_true rfl, Bool.true_and, hw.2.2.1, show r + 5 - (r + 1) = 4 by omega]
  refine decide_eq_true ?_
  show (((0 * 256 + c (r + 1 + 0)) * 256 + c (r + 1 + 1)) * 256 + c (r + 1 + 2)) * 256 + c (r + 1 + 3) = _
  rw [Nat.add_zero, h1, show r + 1 + 1 = r + 2 from rfl, h2, show r + 1 + 2 = r + 3 from rfl, h3, show r + 1 + 3 = r + 4 from rfl, h4]
  decide
/-! names -/
def NmI (nm : Nat → Int64) (s : RW) : Prop := (∀ i, i < nn (s 0) → nm (0 + i) = lN (nvN 118 i)) ∧ (∀ i, i < nn (s 1) → nm (8 + i) = lN (nvN 112 i)) ∧ (∀ i, i < nn (s 2) → nm (13 + i) = lN (nvN 109 i))
theorem nvN_inj (hb : b < 128) (hi : i < 26) (hk : k < 26) : lN (nvN b i) = lN (nvN b k) ↔ i = k := by
  unfold nvN
  rw [pk_lEQ (by omega) (by omega)]
  omega
theorem fst1_ne {P : Nat → Bool} : ∀ {n}, (∀ i, i < n → P i = false) → fst1 n P = 0 := fst1_no
theorem fnd_yes (hb : b < 128) (hm : m < 26) (hN : ∀ i, i < m → nm (o + i) = lN (nvN b i)) (hk : k < m) (hM : tM c n r = nvN b k) : fndT c n nm o m r = k + 1 := by
  unfold fndT fnd
  rw [hM]
  refine fst1_yes (k := k) ?_ (fun j hj => ?_) hk
  · rw [hN k hk]; exact decide_eq_true rfl
  · rw [hN j (by omega)]
    exact decide_eq_false (fun z => by have := (nvN_inj hb (by omega) (by omega)).mp z; omega)
theorem fnd_no (hb : b < 128) (hm : m < 26) (hN : ∀ i, i < m → nm (o + i) = lN (nvN b i)) (hk : m ≤ k) (hk2 : k < 26) (hM : tM c n r = nvN b k) : fndT c n nm o m r = 0 := by
  unfold fndT fnd
  rw [hM]
  refine fst1_no (fun j hj => ?_)
  rw [hN j hj]
  exact decide_eq_false (fun z => by have := (nvN_inj hb (by omega) (by omega)).mp z; omega)
theorem aFnd_ok {K : Nat → Rs} (hb : 97 ≤ b ∧ b ≤ 122) (hm : m < 26) (hN : ∀ i, i < m → nm (o + i) = lN (nvN b i)) (hk : k < m) (h0 : c r = 32) (h1 : c (r + 1) = b) (h2 : c (r + 2) = 97 + k) (h3 : leC (c (r + 3)) = false) (hn : r + 3 < n) : aFnd c n nm o m r K = K k ∧ tE c n r = r + 3 := by
  obtain ⟨t1, t2, t3⟩ := name_tok h0 h1 hb h2 (show k < 26 by omega) h3 hn
  have hf := fnd_yes (c := c) (n := n) (r := r) (by omega) hm hN hk t3
  refine ⟨?_, t2⟩
  unfold aFnd
  rw [if_pos t1, hf, if_neg (by omega)]; rfl
theorem aNew_ok {K : Nat → Rs} (hb : 97 ≤ b ∧ b ≤ 122) (hm : m < 26) (hN : ∀ i, i < m → nm (o + i) = lN (nvN b i)) (h0 : c r = 32) (h1 : c (r + 1) = b) (h2 : c (r + 2) = 97 + m) (h3 : leC (c (r + 3)) = false) (hn : r + 3 < n) : aNew c n nm o m r K = K (r + 3) ∧ tM c n r = nvN b m := by
  obtain ⟨t1, t2, t3⟩ := name_tok h0 h1 hb h2 hm h3 hn
  have hf := fnd_no (c := c) (n := n) (r := r) (k := m) (by omega) hm hN (Nat.le_refl _) hm t3
  refine ⟨?_, t3⟩
  unfold aNew
  rw [if_pos t1, hf, if_pos rfl, t2]
theorem aNum1_ok {lo hi : Nat} {K : Nat → Nat → Rs} (h0 : c r = 32) (h1 : c (r + 1) = 48 + d) (hd : d < 10) (h3 : diC (c (r + 2)) = false) (hn : r + 2 < n) (hl : lo ≤ d) (hh : d ≤ hi) : aNum c n lo hi r K = K d (r + 2) := by
  obtain ⟨t1, t2, t3⟩ := num1_tok h0 h1 hd h3 hn
  unfold aNum
  rw [if_pos t1, t3, if_pos ⟨hl, hh⟩, t2]
theorem aNum2_ok {lo hi : Nat} {K : Nat → Nat → Rs} (h0 : c r = 32) (h1 : c (r + 1) = 48 + d) (hd : d < 10) (h2 : c (r + 2) = 48 + e) (he : e < 10) (h3 : diC (c (r + 3)) = false) (hn : r + 3 < n) (hl : lo ≤ d * 10 + e) (hh : d * 10 + e ≤ hi) : aNum c n lo hi r K = K (d * 10 + e) (r + 3) := by
  obtain ⟨t1, t2, t3⟩ := num2_tok h0 h1 hd h2 he h3 hn
  unfold aNum
  rw [if_pos t1, t3, if_pos ⟨hl, hh⟩, t2]
end
