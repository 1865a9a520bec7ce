/-! ===== copies ===== -/
section
variable {q : Nat → PH → Prop} {kk : Int32 → PH → Prop} {kv : PH → Prop} {h : PH} {s t : RW} {C E : Nat} {a b n : Nat} {f g : FI}
theorem arL_arN {a t n : Nat} (e : arN a t = some n) : arL a = some n := by
  have := arN_of e
  unfold arL
  rw [this]
theorem t_X11_copyRow {a b n : Nat} (ha : arN a 0 = some n) (hb : arN b 0 = some n) (hn : n < 2 ^ 31) {Q : Res → PH → Prop} (T : Q (.inl none) (cpi h a 0 b 0 n)) : MetPM m_X11_copyRow [.ref a, .ref b] h Q := by
  refine met_of o_X11_copyRow (Nat.le_of_ble_eq_true rfl) (fun q => absurd rfl q) (vg_ok k_X11_copyRow (stops := []) 30 0 0 _ [] h ?_)
  show (match arL a with
    | some n => (match arL b with
      | some m => (match arN a 0, arN b 0 with
        | some n0, some n1 => (¬ nI 0 < 0 ∧ ¬ nI 0 < 0 ∧ ¬ (if nI m < nI n then nI m else nI n) < 0 ∧ (nI 0).toNatClampNeg + (if nI m < nI n then nI m else nI n).toNatClampNeg ≤ n0 ∧ (nI 0).toNatClampNeg + (if nI m < nI n then nI m else nI n).toNatClampNeg ≤ n1) ∧ Q (.inl none) (cpi h a (nI 0).toNatClampNeg b (nI 0).toNatClampNeg (if nI m < nI n then nI m else nI n).toNatClampNeg)
        | _, _ => False)
      | none => False)
    | none => False)
  rw [arL_arN ha, arL_arN hb, ha, hb]
  have e : (if nI n < nI n then nI n else nI n) = nI n := by split <;> rfl
  show (¬ nI 0 < 0 ∧ ¬ nI 0 < 0 ∧ ¬ (if nI n < nI n then nI n else nI n) < 0 ∧ (nI 0).toNatClampNeg + (if nI n < nI n then nI n else nI n).toNatClampNeg ≤ n ∧ (nI 0).toNatClampNeg + (if nI n < nI n then nI n else nI n).toNatClampNeg ≤ n) ∧ Q (.inl none) (cpi h a (nI 0).toNatClampNeg b (nI 0).toNatClampNeg (if nI n < nI n then nI n else nI n).toNatClampNeg)
  rw [e, nI_clamp hn, nI_clamp (by omega)]
  exact ⟨⟨nI_pos (by omega), nI_pos (by omega), nI_pos hn, by omega, by omega⟩, T⟩
/-- a row that is copied -/
def Cp (a b n : Nat) (h h' : PH) : Prop := (∀ c, c ≠ b → h'.1 c = h.1 c) ∧ (∀ j, j < n → h'.1 b j = h.1 a j) ∧ h'.2 = h.2 ∧ (∀ j, n ≤ j → h'.1 b j = h.1 b j)
theorem c_copyRow (ha : arN a 0 = some n) (hb : arN b 0 = some n) (hn : n < 2 ^ 31) (K : ∀ h', Cp a b n h h' → kv h') : MetPM m_X11_copyRow [.ref a, .ref b] h (rV q kv) := by
  refine t_X11_copyRow ha hb hn (K _ ⟨fun c hc => if_neg hc, fun j hj => ?_, rfl, fun j hj => ?_⟩)
  · show (if b = b then va_cpy (h.1 a) (h.1 b) 0 0 n else h.1 b) j = _
    rw [if_pos rfl, sb_cpy0 hj]
  · show (if b = b then va_cpy (h.1 a) (h.1 b) 0 0 n else h.1 b) j = _
    rw [if_pos rfl, pk_cpy_out (by omega)]
/-- the pairs of states of which one is copied to the other -/
def HB (a b0 : Nat) : Prop := (a = 67 ∧ b0 = 60) ∨ (a = 60 ∧ b0 = 74) ∨ (a = 81 ∧ b0 = 60) ∨ (a = 60 ∧ b0 = 81) ∨ (a = 88 ∧ b0 = 60) ∨ (a = 95 ∧ b0 = 60) ∨ (a = 102 ∧ b0 = 60) ∨ (a = 109 ∧ b0 = 60) ∨ (a = 116 ∧ b0 = 60) ∨ (a = 123 ∧ b0 = 60) ∨ (a = 60 ∧ b0 = 88) ∨ (a = 60 ∧ b0 = 95) ∨ (a = 60 ∧ b0 = 102) ∨ (a = 60 ∧ b0 = 109) ∨ (a = 60 ∧ b0 = 116) ∨ (a = 60 ∧ b0 = 123)
theorem HB.ar {a b0 : Nat} (hb : HB a b0) : (∀ i, 1 ≤ i → i ≤ 4 → arN (a + i) 0 = some 12 ∧ arN (b0 + i) 0 = some 12) ∧ (arN (a + 5 + 1) 0 = some 120 ∧ arN (b0 + 5 + 1) 0 = some 120) := by
  unfold HB at hb
  rcases hb with ⟨rfl, rfl⟩ | ⟨rfl, rfl⟩ | ⟨rfl, rfl⟩ | ⟨rfl, rfl⟩ | ⟨rfl, rfl⟩ | ⟨rfl, rfl⟩ | ⟨rfl, rfl⟩ | ⟨rfl, rfl⟩ | ⟨rfl, rfl⟩ | ⟨rfl, rfl⟩ | ⟨rfl, rfl⟩ | ⟨rfl, rfl⟩ | ⟨rfl, rfl⟩ | ⟨rfl, rfl⟩ | ⟨rfl, rfl⟩ | ⟨rfl, rfl⟩
  all_goals exact ⟨fun i h1 h2 => by
    rcases (by omega : i = 1 ∨ i = 2 ∨ i = 3 ∨ i = 4) with rfl | rfl | rfl | rfl <;> exact ⟨rfl, rfl⟩, rfl, rfl⟩
theorem HB.ev {a b0 : Nat} (hb : HB a b0) : (a + 5 = 72 ∧ b0 + 5 = 65) ∨ (a + 5 = 65 ∧ b0 + 5 = 79) ∨ (a + 5 = 86 ∧ b0 + 5 = 65) ∨ (a + 5 = 65 ∧ b0 + 5 = 86) ∨ (a + 5 = 93 ∧ b0 + 5 = 65) ∨ (a + 5 = 100 ∧ b0 + 5 = 65) ∨ (a + 5 = 107 ∧ b0 + 5 = 65) ∨ (a + 5 = 114 ∧ b0 + 5 = 65) ∨ (a + 5 = 121 ∧ b0 + 5 = 65) ∨ (a + 5 = 128 ∧ b0 + 5 = 65) ∨ (a + 5 = 65 ∧ b0 + 5 = 93) ∨ (a + 5 = 65 ∧ b0 + 5 = 100) ∨ (a + 5 = 65 ∧ b0 + 5 = 107) ∨ (a + 5 = 65 ∧ b0 + 5 = 114) ∨ (a + 5 = 65 ∧ b0 + 5 = 121) ∨ (a + 5 = 65 ∧ b0 + 5 = 128) := by
  unfold HB at hb
  rcases hb with ⟨rfl, rfl⟩ | ⟨rfl, rfl⟩ | ⟨rfl, rfl⟩ | ⟨rfl, rfl⟩ | ⟨rfl, rfl⟩ | ⟨rfl, rfl⟩ | ⟨rfl, rfl⟩ | ⟨rfl, rfl⟩ | ⟨rfl, rfl⟩ | ⟨rfl, rfl⟩ | ⟨rfl, rfl⟩ | ⟨rfl, rfl⟩ | ⟨rfl, rfl⟩ | ⟨rfl, rfl⟩ | ⟨rfl, rfl⟩ | ⟨rfl, rfl⟩
  all_goals decide
theorem HB.df {a b0 : Nat} (hb : HB a b0) : a + 7 ≤ b0 ∨ b0 + 7 ≤ a := by
  unfold HB at hb
  omega
/-- how far a copy has come: by cell and place -/
def Pg (a b0 : Nat) (S : Nat → Nat → Bool) (h0 h : PH) : Prop := (∀ i k, S i k = true → h.1 (a + i) k = h0.1 (b0 + i) k) ∧ (∀ c, (c < a ∨ a + 6 < c) → h.1 c = h0.1 c) ∧ h.2 = h0.2
theorem Pg.o {a b0 : Nat} {S : Nat → Nat → Bool} {h0 h : PH} (P : Pg a b0 S h0 h) (hd : a + 7 ≤ b0 ∨ b0 + 7 ≤ a) {i : Nat} (hi : i ≤ 6) : h.1 (b0 + i) = h0.1 (b0 + i) := P.2.1 _ (by omega)
theorem Pg.si {a b0 : Nat} {S : Nat → Nat → Bool} {h0 h : PH} (P : Pg a b0 S h0 h) (hd : a + 7 ≤ b0 ∨ b0 + 7 ≤ a) (i0 k0 : Nat) (hi : i0 ≤ 6) : Pg a b0 (fun i k => S i k || (Nat.beq i i0 && Nat.beq k k0)) h0 (si h (a + i0) k0 (gi h (b0 + i0) k0)) := by
  refine ⟨fun i k e => ?_, fun c hc => ?_, P.2.2⟩
  · by_cases c : i = i0 ∧ k = k0
    · obtain ⟨rfl, rfl⟩ := c
      rw [si_a, ups_s]
      show h.1 (b0 + i) k = _
      rw [P.o hd hi]
    · have e2 : S i k = true := by
        rw [Bool.or_eq_true, Bool.and_eq_true] at e
        rcases e with e | e
        · exact e
        · exact absurd ⟨Nat.eq_of_beq_eq_true e.1, Nat.eq_of_beq_eq_true e.2⟩ c
      by_cases d : i = i0
      · subst d
        rw [si_a, ups_n (fun z => c ⟨rfl, z⟩)]
        exact P.1 i k e2
      · rw [si_b (by omega)]
        exact P.1 i k e2
  · rw [si_b (by omega)]
    exact P.2.1 c hc
theorem Pg.cp {a b0 : Nat} {S : Nat → Nat → Bool} {h0 h h' : PH} (P : Pg a b0 S h0 h) (hd : a + 7 ≤ b0 ∨ b0 + 7 ≤ a) {i0 n : Nat} (hi : i0 ≤ 6) (X : Cp (b0 + i0) (a + i0) n h h') : Pg a b0 (fun i k => S i k || (Nat.beq i i0 && Nat.blt k n)) h0 h' := by
  refine ⟨fun i k e => ?_, fun c hc => ?_, X.2.2.1.trans P.2.2⟩
  · by_cases c : i = i0 ∧ k < n
    · obtain ⟨rfl, c2⟩ := c
      rw [X.2.1 k c2, P.o hd hi]
    · have e2 : S i k = true := by
        rw [Bool.or_eq_true, Bool.and_eq_true] at e
        rcases e with e | e
        · exact e
        · exact absurd ⟨Nat.eq_of_beq_eq_true e.1, Nat.le_of_ble_eq_true e.2⟩ c
      by_cases d : i = i0
      · subst d
        rw [X.2.2.2 k (by omega)]
        exact P.1 i k e2
      · rw [X.1 _ (by omega)]
        exact P.1 i k e2
  · rw [X.1 c (by omega)]
    exact P.2.1 c hc
def StC (a b0 : Nat) (f g : FI) : Prop :=
  (∀ k, (k = 1 ∨ k = 2 ∨ (7 ≤ k ∧ k ≤ 14)) → g a k = f b0 k) ∧ (∀ i, 1 ≤ i → i ≤ 4 → ∀ j, j < 12 → g (a + i) j = f (b0 + i) j) ∧ (g (a + 5) 1 = f (b0 + 5) 1 ∧ g (a + 5) 2 = f (b0 + 5) 2) ∧ (∀ j, j < 120 → g (a + 6) j = f (b0 + 6) j)
theorem StR.cp {a b0 : Nat} (hm2 : nn (s 2) ≤ 12) (X : StC a b0 f g) (S : StR b0 s f) : StR a s g := by
  obtain ⟨x1, x2, x3, x4⟩ := X
  refine ⟨⟨?_, ?_, ?_, ?_, ?_, ?_⟩, ⟨?_, ?_, ?_, ?_, ?_, ?_⟩, ?_⟩
  · intro m hm; rw [x2 1 (by omega) (by omega) m (by omega)]; exact S.ve m hm
  · intro m hm; rw [x2 2 (by omega) (by omega) m (by omega)]; exact S.co m hm
  · intro m hm; rw [x2 3 (by omega) (by omega) m (by omega)]; exact S.un m hm
  · intro m hm; rw [x2 4 (by omega) (by omega) m (by omega)]; exact S.me m hm
  · rw [x1 7 (by omega)]; exact S.ds
  · rw [x1 8 (by omega)]; exact S.he
  · rw [x1 12 (by omega)]; exact S.ib
  · rw [x1 1 (by omega)]; exact S.ck
  · rw [x1 2 (by omega)]; exact S.fo
  · rw [x1 9 (by omega)]; exact S.st
  · rw [x1 10 (by omega), x1 11 (by omega), x1 12 (by omega), x1 13 (by omega)]; exact S.pl
  · rw [x1 14 (by omega)]; exact S.se
  · obtain ⟨h1, w, hw, h2, h3⟩ := S.ev
    refine ⟨by rw [x3.1]; exact h1, w, hw, by rw [x3.2]; exact h2, fun i hi j hj => ?_⟩
    rw [x4 _ (by unfold evC; omega)]
    exact h3 i hi j hj
theorem c_copySt {a b0 : Nat} (hb : HB a b0) (ib : isB (h.1 b0 12)) (K : ∀ h', Fr (WS a) h h' → StC a b0 h.1 h'.1 → kv h') : MetPM m_X8_copyFrom [.ref a, .ref b0] h (rV q kv) := by
  have hd := hb.df
  have har := hb.ar
  have P0 : Pg a b0 (fun _ _ => false) h h := ⟨fun _ _ e => (by cases e), fun _ _ => rfl, rfl⟩
  have P2 := ((P0.si hd 0 1 (by omega)).si hd 0 2 (by omega))
  refine t_X8_copyFrom hb (c_copyRow (har.1 1 (by omega) (by omega)).2 (har.1 1 (by omega) (by omega)).1 (by omega) (fun h1 k1 => ?_))
  have P3 := P2.cp hd (by omega) k1
  refine c_copyRow (har.1 2 (by omega) (by omega)).2 (har.1 2 (by omega) (by omega)).1 (by omega) (fun h2 k2 => ?_)
  have P4 := P3.cp hd (by omega) k2
  refine c_copyRow (har.1 3 (by omega) (by omega)).2 (har.1 3 (by omega) (by omega)).1 (by omega) (fun h3 k3 => ?_)
  have P5 := P4.cp hd (by omega) k3
  refine c_copyRow (har.1 4 (by omega) (by omega)).2 (har.1 4 (by omega) (by omega)).1 (by omega) (fun h4 k4 => ?_)
  have P6 := P5.cp hd (by omega) k4
  intro h5
  have P7 : Pg a b0 _ h h5 := ((P6.si hd 0 7 (by omega)).si hd 0 8 (by omega)).si hd 0 9 (by omega)
  clear_value h5
  have P8 := (P7.si hd 0 10 (by omega)).si hd 0 11 (by omega)
  refine ⟨?_, ?_⟩
  · have e := P8.o hd (i := 0) (by omega)
    show isB ((si (si h5 (a + 0) 10 (gi h5 (b0 + 0) 10)) (a + 0) 11 (gi (si h5 (a + 0) 10 (gi h5 (b0 + 0) 10)) (b0 + 0) 11)).1 (b0 + 0) 12)
    rw [e]; exact ib
  intro h6
  have P9 : Pg a b0 _ h h6 := P8.si hd 0 12 (by omega)
  clear_value h6
  have P10 := (P9.si hd 0 13 (by omega)).si hd 0 14 (by omega)
  refine t_X3_copyFrom hb.ev (c_copyRow har.2.2 har.2.1 (by omega) (fun h7 k7 => ?_))
  have P11 := P10.cp hd (i0 := 6) (by omega) k7
  have P12 := (P11.si hd 5 1 (by omega)).si hd 5 2 (by omega)
  refine K _ ⟨fun b k e => ?_, P12.2.2⟩ ⟨fun k hk => ?_, fun i h1 h2 j hj => ?_, ⟨?_, ?_⟩, fun j hj => ?_⟩
  · have : b < a ∨ a + 6 < b := by
      apply Classical.byContradiction
      intro c
      rw [WS_t (by omega) (by omega)] at e
      cases e
    exact congrFun (P12.2.1 b this) k
  · rcases (by omega : k = 1 ∨ k = 2 ∨ k = 7 ∨ k = 8 ∨ k = 9 ∨ k = 10 ∨ k = 11 ∨ k = 12 ∨ k = 13 ∨ k = 14) with rfl | rfl | rfl | rfl | rfl | rfl | rfl | rfl | rfl | rfl
    all_goals exact P12.1 0 _ rfl
  · have hl : Nat.blt j 12 = true := Nat.ble_eq_true_of_le hj
    rcases (by omega : i = 1 ∨ i = 2 ∨ i = 3 ∨ i = 4) with rfl | rfl | rfl | rfl
    all_goals exact P12.1 _ j (by simp [hl])
  · exact P12.1 5 1 rfl
  · exact P12.1 5 2 rfl
  · have hl : Nat.blt j 120 = true := Nat.ble_eq_true_of_le hj
    exact P12.1 6 j (by simp [hl])
end

