/-! ===== copies ===== -/
section
variable {q : Nat → PH → Prop} {kk : Int32 → PH → Prop} {kv : PH → Prop} {h : PH} {s t : RW} {C E : Nat} {a b n : Nat} {f g : FI}
theorem arL_arN {a t n : Nat} (e : arN a t = some n) : arL a = some n := by
  have := arN_of e
  unfold arL
  rw [this]
/-- a row that is copied -/
def Cp (a b n : Nat) (h h' : PH) : Prop := (∀ c, c ≠ b → h'.1 c = h.1 c) ∧ (∀ j, j < n → h'.1 b j = h.1 a j) ∧ h'.2 = h.2 ∧ (∀ j, n ≤ j → h'.1 b j = h.1 b j)
/-- the pairs of states of which one is copied to the other -/
def HB (a b0 : Nat) : Prop := (a = 67 ∧ b0 = 60) ∨ (a = 60 ∧ b0 = 74) ∨ (a = 81 ∧ b0 = 60) ∨ (a = 60 ∧ b0 = 81) ∨ (a = 88 ∧ b0 = 60) ∨ (a = 95 ∧ b0 = 60) ∨ (a = 102 ∧ b0 = 60) ∨ (a = 109 ∧ b0 = 60) ∨ (a = 116 ∧ b0 = 60) ∨ (a = 123 ∧ b0 = 60) ∨ (a = 60 ∧ b0 = 88) ∨ (a = 60 ∧ b0 = 95) ∨ (a = 60 ∧ b0 = 102) ∨ (a = 60 ∧ b0 = 109) ∨ (a = 60 ∧ b0 = 116) ∨ (a = 60 ∧ b0 = 123)
theorem HB.ar {a b0 : Nat} (hb : HB a b0) : (∀ i, 1 ≤ i → i ≤ 4 → arN (a + i) 0 = some 12 ∧ arN (b0 + i) 0 = some 12) ∧ (arN (a + 5 + 1) 0 = some 120 ∧ arN (b0 + 5 + 1) 0 = some 120) := by
  unfold HB at hb
  rcases hb with ⟨rfl, rfl⟩ | ⟨rfl, rfl⟩ | ⟨rfl, rfl⟩ | ⟨rfl, rfl⟩ | ⟨rfl, rfl⟩ | ⟨rfl, rfl⟩ | ⟨rfl, rfl⟩ | ⟨rfl, rfl⟩ | ⟨rfl, rfl⟩ | ⟨rfl, rfl⟩ | ⟨rfl, rfl⟩ | ⟨rfl, rfl⟩ | ⟨rfl, rfl⟩ | ⟨rfl, rfl⟩ | ⟨rfl, rfl⟩ | ⟨rfl, rfl⟩
  all_goals exact ⟨fun i h1 h2 => by
    rcases (by omega : i = 1 ∨ i = 2 ∨ i = 3 ∨ i = 4) with rfl | rfl | rfl | rfl <;> exact ⟨rfl, rfl⟩, rfl, rfl⟩
theorem HB.ev {a b0 : Nat} (hb : HB a b0) : (a + 5 = 72 ∧ b0 + 5 = 65) ∨ (a + 5 = 65 ∧ b0 + 5 = 79) ∨ (a + 5 = 86 ∧ b0 + 5 = 65) ∨ (a + 5 = 65 ∧ b0 + 5 = 86) ∨ (a + 5 = 93 ∧ b0 + 5 = 65) ∨ (a + 5 = 100 ∧ b0 + 5 = 65) ∨ (a + 5 = 107 ∧ b0 + 5 = 65) ∨ (a + 5 = 114 ∧ b0 + 5 = 65) ∨ (a + 5 = 121 ∧ b0 + 5 = 65) ∨ (a + 5 = 128 ∧ b0 + 5 = 65) ∨ (a + 5 = 65 ∧ b0 + 5 = 93) ∨ (a + 5 = 65 ∧ b0 + 5 = 100) ∨ (a + 5 = 65 ∧ b0 + 5 = 107) ∨ (a + 5 = 65 ∧ b0 + 5 = 114) ∨ (a + 5 = 65 ∧ b0 + 5 = 121) ∨ (a + 5 = 65 ∧ b0 + 5 = 128) := by
  unfold HB at hb
  rcases hb with ⟨rfl, rfl⟩ | ⟨rfl, rfl⟩ | ⟨rfl, rfl⟩ | ⟨rfl, rfl⟩ | ⟨rfl, rfl⟩ | ⟨rfl, rfl⟩ | ⟨rfl, rfl⟩ | ⟨rfl, rfl⟩ | ⟨rfl, rfl⟩ | ⟨rfl, rfl⟩ | ⟨rfl, rfl⟩ | ⟨rfl, rfl⟩ | ⟨rfl, rfl⟩ | ⟨rfl, rfl⟩ | ⟨rfl, rfl⟩ | ⟨rfl, rfl⟩
  all_goals decide
theorem HB.df {a b0 : Nat} (hb : HB a b0) : a + 7 ≤ b0 ∨ b0 + 7 ≤ a := by
  unfold HB at hb
  omega
/-- how far a copy has come: by cell and place -/
def Pg (a b0 : Nat) (S : Nat → Nat → Bool) (h0 h : PH) : Prop := (∀ i k, S i k = true → h.1 (a + i) k = h0.1 (b0 + i) k) ∧ (∀ c, (c < a ∨ a + 6 < c) → h.1 c = h0.1 c) ∧ h.2 = h0.2
theorem Pg.o {a b0 : Nat} {S : Nat → Nat → Bool} {h0 h : PH} (P : Pg a b0 S h0 h) (hd : a + 7 ≤ b0 ∨ b0 + 7 ≤ a) {i : Nat} (hi : i ≤ 6) : h.1 (b0 + i) = h0.1 (b0 + i) := P.2.1 _ (by omega)
theorem Pg.si {a b0 : Nat} {S : Nat → Nat → Bool} {h0 h : PH} (P : Pg a b0 S h0 h) (hd : a + 7 ≤ b0 ∨ b0 + 7 ≤ a) (i0 k0 : Nat) (hi : i0 ≤ 6) : Pg a b0 (fun i k => S i k || (Nat.beq i i0 && Nat.beq k k0)) h0 (si h (a + i0) k0 (gi h (b0 + i0) k0)) := by
  refine ⟨fun i k e => ?_, fun c hc => ?_, P.2.2⟩
  · by_cases c : i = i0 ∧ k = k0
    · obtain ⟨rfl, rfl⟩ := c
      rw [si_a, ups_s]
      show h.1 (b0 + i) k = _
      rw [P.o hd hi]
    · have e2 : S i k = true := by
        rw [Bool.or_eq_true, Bool.and_eq_true] at e
        rcases e with e | e
        · exact e
        · exact absurd ⟨Nat.eq_of_beq_eq_true e.1, Nat.eq_of_beq_eq_true e.2⟩ c
      by_cases d : i = i0
      · subst d
        rw [si_a, ups_n (fun z => c ⟨rfl, z⟩)]
        exact P.1 i k e2
      · rw [si_b (by omega)]
        exact P.1 i k e2
  · rw [si_b (by omega)]
    exact P.2.1 c hc
theorem Pg.cp {a b0 : Nat} {S : Nat → Nat → Bool} {h0 h h' : PH} (P : Pg a b0 S h0 h) (hd : a + 7 ≤ b0 ∨ b0 + 7 ≤ a) {i0 n : Nat} (hi : i0 ≤ 6) (X : Cp (b0 + i0) (a + i0) n h h') : Pg a b0 (fun i k => S i k || (Nat.beq i i0 && Nat.blt k n)) h0 h' := by
  refine ⟨fun i k e => ?_, fun c hc => ?_, X.2.2.1.trans P.2.2⟩
  · by_cases c : i = i0 ∧ k < n
    · obtain ⟨rfl, c2⟩ := c
      rw [X.2.1 k c2, P.o hd hi]
    · have e2 : S i k = true := by
        rw [Bool.or_eq_true, Bool.and_eq_true] at e
        rcases e with e | e
        · exact e
        · exact absurd ⟨Nat.eq_of_beq_eq_true e.1, Nat.le_of_ble_eq_true e.2⟩ c
      by_cases d : i = i0
      · subst d
        rw [X.2.2.2 k (by omega)]
        exact P.1 i k e2
      · rw [X.1 _ (by omega)]
        exact P.1 i k e2
  · rw [X.1 c (by omega)]
    exact P.2.1 c hc
def StC (a b0 : Nat) (f g : FI) : Prop :=
  (∀ k, (k = 1 ∨ k = 2 ∨ (7 ≤ k ∧ k ≤ 14)) → g a k = f b0 k) ∧ (∀ i, 1 ≤ i → i ≤ 4 → ∀ j, j < 12 → g (a + i) j = f (b0 + i) j) ∧ (g (a + 5) 1 = f (b0 + 5) 1 ∧ g (a + 5) 2 = f (b0 + 5) 2) ∧ (∀ j, j < 120 → g (a + 6) j = f (b0 + 6) j)
theorem StR.cp {a b0 : Nat} (hm2 : nn (s 2) ≤ 12) (X : StC a b0 f g) (S : StR b0 s f) : StR a s g := by
  obtain ⟨x1, x2, x3, x4⟩ := X
  refine ⟨⟨?_, ?_, ?_, ?_, ?_, ?_⟩, ⟨?_, ?_, ?_, ?_, ?_, ?_⟩, ?_⟩
  · intro m hm; rw [x2 1 (by omega) (by omega) m (by omega)]; exact S.ve m hm
  · intro m hm; rw [x2 2 (by omega) (by omega) m (by omega)]; exact S.co m hm
  · intro m hm; rw [x2 3 (by omega) (by omega) m (by omega)]; exact S.un m hm
  · intro m hm; rw [x2 4 (by omega) (by omega) m (by omega)]; exact S.me m hm
  · rw [x1 7 (by omega)]; exact S.ds
  · rw [x1 8 (by omega)]; exact S.he
  · rw [x1 12 (by omega)]; exact S.ib
  · rw [x1 1 (by omega)]; exact S.ck
  · rw [x1 2 (by omega)]; exact S.fo
  · rw [x1 9 (by omega)]; exact S.st
  · rw [x1 10 (by omega), x1 11 (by omega), x1 12 (by omega), x1 13 (by omega)]; exact S.pl
  · rw [x1 14 (by omega)]; exact S.se
  · obtain ⟨h1, w, hw, h2, h3⟩ := S.ev
    refine ⟨by rw [x3.1]; exact h1, w, hw, by rw [x3.2]; exact h2, fun i hi j hj => ?_⟩
    rw [x4 _ (by unfold evC; omega)]
    exact h3 i hi j hj
end

