/-! ===== what will be: the questions, both sides ===== -/
section
variable {q : Nat → PH → Prop} {kk : Int32 → PH → Prop} {kv : PH → Prop} {h : PH} {s t : RW} {C E : Nat} {a : Nat} {f g : FI}
def WQ (b k : Nat) : Bool := (Nat.beq b 132 && Nat.blt k 253) || (Nat.beq b 136 || (Nat.beq b 130 && (Nat.beq k 0 || (Nat.beq k 25 || (Nat.beq k 26 || Nat.beq k 27)))))
def W136 (b k : Nat) : Bool := Nat.beq b 136
theorem WM_WQ {b k : Nat} (e : WQ b k = false) : WM b k = false := by
  unfold WQ at e
  unfold WM
  revert e
  cases Nat.beq b 132 <;> cases Nat.blt k 253 <;> cases Nat.beq b 136 <;> cases Nat.beq b 130 <;> cases Nat.beq k 0 <;> cases Nat.beq k 25 <;> cases Nat.beq k 26 <;> cases Nat.beq k 27 <;> decide
theorem WR_WQ {b k : Nat} (e : WQ b k = false) : WR b k = false := by
  unfold WQ at e
  unfold WR
  revert e
  cases Nat.beq b 132 && Nat.blt k 253
  · intro _; rfl
  · intro z; cases z
theorem W136_WQ {b k : Nat} (e : WQ b k = false) : W136 b k = false := by
  unfold WQ at e
  unfold W136
  revert e
  cases Nat.beq b 136
  · intro _; rfl
  · cases Nat.beq b 132 && Nat.blt k 253 <;> (intro z; cases z)
/-- a thought: what is done to the row is forgotten -/
theorem think_fr {h0 h1 h2 h3 : PH} (hs : h0.1 132 = s) (f1 : Fr W136 h0 h1) (a1 : ∀ j, j < 253 → gi h1 136 j = gi h0 132 j) (f2 : Fr WM h1 h2) (f3 : Fr WR h2 h3) (a3 : ∀ j, j < 253 → gi h3 132 j = gi h2 136 j) : Fr WQ h0 h3 ∧ h3.1 132 = s := by
  have T := ((f1.mono fun b k e => W136_WQ e).trans (f2.mono fun b k e => WM_WQ e)).trans (f3.mono fun b k e => WR_WQ e)
  refine ⟨T, funext fun i => ?_⟩
  show gi h3 132 i = s i
  by_cases c : i < 253
  · rw [a3 i c, f2.1 136 i rfl, a1 i c]
    exact congrFun hs i
  · have e : Nat.blt i 253 = false := by
      cases z : Nat.blt i 253
      · rfl
      · exact absurd (Nat.le_of_ble_eq_true z) c
    rw [T.1 132 i (by unfold WQ; rw [e]; rfl)]
    exact congrFun hs i
/-- what a question of the reference leaves: its code is c -/
def Qs (s : RW) (c : Nat) (h h' : PH) : Prop := Fr WQ h h' ∧ h'.1 132 = s ∧ gi h' 130 0 = nI c
theorem Qs.of0 (hs : h.1 132 = s) (c : Nat) : Qs s c h (si h 130 0 (nI c)) := ⟨Fr.wr h _ rfl, hs0 hs, gi_same⟩
theorem Qs.th {h0 h1 h2 h3 : PH} (hs : h0.1 132 = s) {c : Nat} (f1 : Fr W136 (si h0 130 0 (nI c)) h1) (a1 : ∀ j, j < 253 → gi h1 136 j = gi (si h0 130 0 (nI c)) 132 j) (f2 : Fr WM h1 h2) (f3 : Fr WR h2 h3) (a3 : ∀ j, j < 253 → gi h3 132 j = gi h2 136 j) : Qs s c h0 h3 := by
  have T := think_fr (hs0 hs) f1 a1 f2 f3 a3
  refine ⟨(Fr.wr h0 _ rfl).trans T.1, T.2, ?_⟩
  rw [f3.1 130 0 rfl, f2.1 130 0 rfl, f1.1 130 0 rfl, gi_same]
theorem thk_row {h1 : PH} (hs : h.1 132 = s) (f1 : Fr W136 h h1) : h1.1 132 = s := (f1.cell fun k => rfl).trans hs
def fre (s : RW) (m : Nat) : Nat := endF (lyS s m 5 (b2i false)) 2000
/-- the best member to free, one more, and its minutes -/
def bst (s : RW) : Nat → Nat × Nat
  | 0 => (0, 2001)
  | n + 1 => if decide (mf s n 5 = nI 1) = true ∧ fre s n ≠ 0 ∧ fre s n - 1 < (bst s n).2 then (n + 1, fre s n - 1) else bst s n
theorem fre_le {m : Nat} : fre s m ≤ 2001 := fst1_le
theorem bst_ok : ∀ n, (bst s n).1 ≤ n ∧ (bst s n).2 ≤ 2001 ∧ ((bst s n).1 = 0 → (bst s n).2 = 2001)
  | 0 => ⟨Nat.le_refl _, Nat.le_refl _, fun _ => rfl⟩
  | n + 1 => by
    have ih := bst_ok n
    have := fre_le (s := s) (m := n)
    rw [bst]
    split
    · exact ⟨Nat.le_refl _, by show fre s n - 1 ≤ 2001; omega, fun z => by cases z⟩
    · exact ⟨by omega, ih.2.1, ih.2.2⟩
def wsB (s : RW) (m : Nat) (x : Int32) : Bool := going s && decide (minS (lyS s m 4 x) 12 = nI 3)
/-! the class: on its trial -/
theorem c_trial (R : Rk C E s) (X : CR 60 s h) (K : ∀ h', Fr (WS 67) h h' → CR 67 s h' → kv h') : MetPM m_X8_copyFrom [.ref 67, .ref 60] h (rV q kv) :=
  c_copySt (Or.inl ⟨rfl, rfl⟩) X.2.ib (fun h1 f1 c1 => K h1 f1 ⟨X.1.fr (Or.inr rfl) f1, X.2.cp R.m.2 c1⟩)
theorem c_minutesToEnd {x : Int32} (R : Rk C E s) (hC : C + 2002 < 2 ^ 29) (hE : E + 30 * 2002 < 2 ^ 31) (X : CR 60 s h) (K0 : inR x 0 2000 = false → q 1 h) (K1 : inR x 0 2000 = true → ∀ h', Fr (WS 67) h h' → kk (pre1 (endF s (nn x))) h') : MetPM m_X11_minutesToEnd [.ref 0, .int x] h (rI q kk) := by
  refine t_X11_minutesToEnd ⟨Nat.le_of_ble_eq_true rfl, c_needAhead K0 (fun e => ?_)⟩
  have K := K1 e
  obtain ⟨e1, _, e2⟩ := inR_n (a := 0) (b := 2000) (by omega) e
  generalize nn x = j at K e1 e2
  subst e1
  exact c_trial R X (fun h1 f1 X1 => c_toDone (Or.inr rfl) R e2 (by omega) (by omega) X1 (fun h2 f2 => K h2 (f1.trans f2)))
theorem StR.cp2 (X : ∀ b, b < 67 → g b = f b) (S : StR 60 s f) : StR 60 s g := by
  refine ⟨⟨?_, ?_, ?_, ?_, ?_, ?_⟩, ⟨?_, ?_, ?_, ?_, ?_, ?_⟩, ?_⟩
  · rw [X 61 (by omega)]; exact S.ve
  · rw [X 62 (by omega)]; exact S.co
  · rw [X 63 (by omega)]; exact S.un
  · rw [X 64 (by omega)]; exact S.me
  · rw [X 60 (by omega)]; exact S.ds
  · rw [X 60 (by omega)]; exact S.he
  · rw [X 60 (by omega)]; exact S.ib
  · rw [X 60 (by omega)]; exact S.ck
  · rw [X 60 (by omega)]; exact S.fo
  · rw [X 60 (by omega)]; exact S.st
  · rw [X 60 (by omega)]; exact S.pl
  · rw [X 60 (by omega)]; exact S.se
  · have := S.ev
    unfold StE
    rw [X 65 (by omega), X 66 (by omega)]; exact this
theorem CR.tr {h' : PH} (X : CR 60 s h) (f : Fr (WS 67) h h') : CR 60 s h' := by
  have e : ∀ b, b < 67 → h'.1 b = h.1 b := fun b hb => f.cell fun k => WS_f (by omega)
  refine ⟨X.1.fr (Or.inr rfl) f, X.2.cp2 ?_⟩
  exact e
end

