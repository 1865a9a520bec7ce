/-! ===== what the reading of a script gives ===== -/
section
variable {s t g : RW} {a b n m p v w lo hi o j k : Nat} {nm : Nat → Int64} {c : Nat → Nat} {td : Nat → Bool} {r : Rs} {X Y : Int32} {R : RW → Nat → Prop}
def PO (R : RW → Nat → Prop) (r : Rs) : Prop := ∀ g nm td p, r = .inr (g, nm, td, p) → R g p
theorem po_er {e : Nat × Nat} : PO R (.inl e) := fun _ _ _ _ z => by cases z
theorem po_ok (h : R g p) : PO R (.inr (g, nm, td, p)) := fun _ _ _ _ z => by
  cases z; exact h
theorem po_num {F : Nat → Nat → Rs} (hp : p ≤ n) (K : ∀ x p1, lo ≤ x → x ≤ hi → p ≤ p1 → p1 ≤ n → PO R (F x p1)) : PO R (aNum c n lo hi p F) := by
  have := nx_le (c := c) hp
  unfold aNum
  split
  · split
    · rename_i d
      exact K _ _ d.1 d.2 (by omega) (by omega)
    · exact po_er
  · exact po_er
theorem po_fnd {F : Nat → Rs} (K : ∀ a, a < m → PO R (F a)) : PO R (aFnd c n nm o m p F) := by
  have hf : fndT c n nm o m p ≤ m := fnd_le
  unfold aFnd
  split
  · split
    · exact po_er
    · rename_i d
      exact K _ (by omega)
  · exact po_er
/-- the arguments are good for the command -/
def AVk (s : RW) (j : Nat) (x y : Nat) : Prop := (j = 0 ∨ j = 8 → x ≤ 999) ∧ (j = 1 → x < nn (s 0)) ∧ (4 ≤ j ∧ j ≤ 7 → x < nn (s 2)) ∧ (j = 6 → y ≤ 999) ∧ (j = 7 → y < nn (s 0)) ∧ (j = 9 → 1 ≤ x ∧ x ≤ 20)
def AVg (s : RW) (g : RW) : Prop := (∀ k, k < pM g → ∀ j, j < 10 → pK g k = nI j → ∃ x y, x < 1000 ∧ y < 1000 ∧ pX g k = nI x ∧ pY g k = nI y ∧ AVk s j x y) ∧ (∀ k, k < pM g → pK g k = nI 10 → 1 ≤ nst g k)
theorem AVg.z : AVg s pg0 := by
  have m0 : pM pg0 = 0 := by decide
  exact ⟨fun k hk => by rw [m0] at hk; omega, fun k hk => by rw [m0] at hk; omega⟩
theorem AVg.put {x y : Nat} (W : WFg g) (A : AVg s g) (hj : j < 10) (hx : x < 1000) (hy : y < 1000) (a : AVk s j x y) : AVg s (aPut g j x y) := by
  obtain ⟨⟨w1, w2, w3⟩, -⟩ := W
  have hM : pM g ≤ 200 := by omega
  have eN : ∀ k, k ≤ pM g → nst (aPut g j x y) k = nst g k := fun k hk => nst_eq k (fun i hi => by rw [put_K (by omega) hM, if_neg (by omega)])
  refine ⟨fun k hk i hi e => ?_, fun k hk e => ?_⟩
  · rw [put_M hM] at hk
    rw [put_K (by omega) hM] at e
    rw [put_X (by omega) hM, put_Y (by omega) hM]
    by_cases d : k = pM g
    · rw [if_pos d] at e
      rw [if_pos d, if_pos d]
      have := (nI_eq (a := j) (b := i) (by omega) (by omega)).mp e
      subst this
      exact ⟨x, y, hx, hy, rfl, rfl, a⟩
    · rw [if_neg d] at e
      rw [if_neg d, if_neg d]
      exact A.1 k (by omega) i hi e
  · rw [put_M hM] at hk
    rw [put_K (by omega) hM] at e
    rw [eN k (by omega)]
    by_cases d : k = pM g
    · rw [if_pos d] at e
      have := (nI_eq (a := j) (b := 10) (by omega) (by omega)).mp e
      omega
    · rw [if_neg d] at e
      exact A.2 k (by omega) e
theorem AVg.en (W : WFg g) (A : AVg s g) (hD : 0 < pD g) : AVg s (aEnd g) := by
  obtain ⟨⟨w1, w2, w3⟩, w4, -⟩ := W
  have hM : pM g ≤ 200 := by omega
  have eN : ∀ k, k ≤ pM g → nst (aEnd g) k = nst g k := fun k hk => nst_eq k (fun i hi => by rw [end_K (by omega) hM, if_neg (by omega)])
  refine ⟨fun k hk i hi e => ?_, fun k hk e => ?_⟩
  · rw [end_M hM] at hk
    rw [end_K (by omega) hM] at e
    rw [end_X (by omega), end_Y (by omega)]
    by_cases d : k = pM g
    · rw [if_pos d] at e
      have := (nI_eq (a := 10) (b := i) (by omega) (by omega)).mp e
      omega
    · rw [if_neg d] at e
      exact A.1 k (by omega) i hi e
  · rw [end_M hM] at hk
    rw [end_K (by omega) hM] at e
    rw [eN k (by omega)]
    by_cases d : k = pM g
    · rw [d, w4]; omega
    · rw [if_neg d] at e
      exact A.2 k (by omega) e
def SCR (s : RW) (n q0 : Nat) (g : RW) (p : Nat) : Prop := q0 ≤ p ∧ p ≤ n ∧ WFg g ∧ AVg s g
theorem po_arg {F : Nat → Nat → Nat → Rs} (P : CNT s) (hj : j < 10) (hp : p ≤ n) (K : ∀ x y p1, x < 1000 → y < 1000 → AVk s j x y → p ≤ p1 → p1 ≤ n → PO R (F x y p1)) : PO R (aArg c n s nm j p F) := by
  have x1 := nx_le (c := c) hp
  have x2 := nx_le (c := c) x1.2
  have l0 := P.1.2
  have l2 := P.2.2.1.2
  unfold aArg
  split
  · rename_i d
    exact po_num hp (fun x p1 h1 h2 h3 h4 => K _ _ _ (by omega) (by omega) ⟨fun _ => h2, fun z => by omega, fun z => by omega, fun z => by omega, fun z => by omega, fun z => by omega⟩ h3 h4)
  split
  · rename_i d
    exact po_fnd (fun a ha => K _ _ _ (by omega) (by omega) ⟨fun z => by omega, fun _ => ha, fun z => by omega, fun z => by omega, fun z => by omega, fun z => by omega⟩ x1.1 x1.2)
  split
  · exact K _ _ _ (by omega) (by omega) ⟨fun z => by omega, fun z => by omega, fun z => by omega, fun z => by omega, fun z => by omega, fun z => by omega⟩ (Nat.le_refl _) hp
  split
  · exact po_fnd (fun a ha => K _ _ _ (by omega) (by omega) ⟨fun z => by omega, fun z => by omega, fun _ => ha, fun z => by omega, fun z => by omega, fun z => by omega⟩ x1.1 x1.2)
  split
  · exact po_fnd (fun a ha => po_num x1.2 (fun y p1 h1 h2 h3 h4 => K _ _ _ (by omega) (by omega) ⟨fun z => by omega, fun z => by omega, fun _ => ha, fun _ => h2, fun z => by omega, fun z => by omega⟩ (by omega) h4))
  split
  · exact po_fnd (fun a ha => po_fnd (fun v hv => K _ _ _ (by omega) (by omega) ⟨fun z => by omega, fun z => by omega, fun _ => ha, fun z => by omega, fun _ => hv, fun z => by omega⟩ (by omega) x2.2))
  · exact po_num hp (fun x p1 h1 h2 h3 h4 => K _ _ _ (by omega) (by omega) ⟨fun z => by omega, fun z => by omega, fun z => by omega, fun z => by omega, fun z => by omega, fun _ => ⟨h1, h2⟩⟩ h3 h4)
theorem po_cmd (P : CNT s) (W : WFg g) (A : AVg s g) (hp : p ≤ n) : PO (SCR s n (p + 2)) (aCmd c n s nm td g p) := by
  obtain ⟨⟨w1, w2, w3⟩, -⟩ := id W
  unfold aCmd
  split
  · exact po_er
  · rename_i j ef
    have hd := fst1_in ef
    have hj : j < 10 := hd.1
    have t1 := tE_lt hp (by rw [kw_1 hd.2]; decide : tK c n p ≠ 0)
    have x1 := nx_le (c := c) hp
    split
    · exact po_er
    · rename_i d1
      split
      · exact po_er
      · rename_i d2
        refine po_arg P hj x1.2 (fun x y p1 hx hy a h1 h2 => ?_)
        by_cases d3 : tK c n p1 = (if j = 9 then 4 else 3)
        · rw [if_pos d3]
          have t2 := tE_lt h2 (by rw [d3]; split <;> omega : tK c n p1 ≠ 0)
          exact po_ok ⟨by omega, (nx_le (c := c) h2).2, W.put hj (by omega) (fun z => by omega), A.put W hj hx hy a⟩
        · rw [if_neg d3]
          exact po_er
theorem po_scr (P : CNT s) (hn : n ≤ 900) : ∀ k g p, p ≤ n → (900 < k + p ∨ (k = 900 ∧ p = 0)) → WFg g → AVg s g → PO (fun g _ => WFg g ∧ AVg s g ∧ pD g = 0) (aScr c n s nm td k g p) := by
  intro k
  induction k with
  | zero =>
    intro g p hp hk W A
    omega
  | succ k ih =>
    intro g p hp hk W A
    unfold aScr
    split
    · rename_i d
      exact po_ok ⟨W, A, d.2⟩
    · split
      · rename_i d
        split
        · rename_i d3
          have t1 := tE_lt hp (by rw [d.1]; decide : tK c n p ≠ 0)
          have x1 := nx_le (c := c) hp
          have t2 := tE_lt x1.2 (by rw [d3]; decide : tK c n (tE c n p) ≠ 0)
          exact ih _ _ (nx_le (c := c) x1.2).2 (by omega) (W.en d.2) (A.en W d.2)
        · exact po_er
      · split
        · exact po_er
        · rename_i g' nm' td' p' e
          obtain ⟨s1, s2, s3, s4⟩ := po_cmd P W A hp _ _ _ _ e
          exact ih _ _ s2 (by omega) s3 s4
end
