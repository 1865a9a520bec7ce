/-! ===== reading goes on ===== -/
section
variable {s : RW} {a b n m p v w q0 i lo hi o : Nat} {nm : Nat → Int64} {c : Nat → Nat} {td : Nat → Bool} {r : Rs}
def PG (q0 : Nat) (r : Rs) : Prop := ∀ s nm td p', r = .inr (s, nm, td, p') → q0 ≤ p'
theorem pg_er {e : Nat × Nat} : PG q0 (.inl e) := fun _ _ _ _ z => by cases z
theorem pg_ok (h : q0 ≤ p) : PG q0 (.inr (s, nm, td, p)) := fun _ _ _ _ z => by
  cases z; exact h
theorem nx_le (hp : p ≤ n) : p ≤ tE c n p ∧ tE c n p ≤ n := ⟨Nat.le_trans (tS_le hp).1 (tE_le hp).1, (tE_le hp).2⟩
theorem pg_num {F : Nat → Nat → Rs} (h1 : q0 ≤ p) (h2 : p ≤ n) (K : ∀ x p1, q0 ≤ p1 → p1 ≤ n → PG q0 (F x p1)) : PG q0 (aNum c n lo hi p F) := by
  have := nx_le (c := c) h2
  unfold aNum
  split
  · split
    · exact K _ _ (by omega) (by omega)
    · exact pg_er
  · exact pg_er
theorem pg_new {F : Nat → Rs} (h1 : q0 ≤ p) (h2 : p ≤ n) (K : ∀ p1, q0 ≤ p1 → p1 ≤ n → PG q0 (F p1)) : PG q0 (aNew c n nm o m p F) := by
  have := nx_le (c := c) h2
  unfold aNew
  split
  · split
    · exact K _ (by omega) (by omega)
    · exact pg_er
  · exact pg_er
theorem pg_fnd {F : Nat → Rs} (K : ∀ a, PG q0 (F a)) : PG q0 (aFnd c n nm o m p F) := by
  unfold aFnd
  split
  · split
    · exact pg_er
    · exact K _
  · exact pg_er
theorem pg_pls (h2 : p ≤ n) (h1 : q0 ≤ p) : ∀ k s p, q0 ≤ p → p ≤ n → PG q0 (aPls c n nm td w k s p) := by
  intro k
  induction k with
  | zero => exact fun s p x y => pg_ok x
  | succ k ih =>
    intro s p x y
    have := nx_le (c := c) y
    unfold aPls
    refine pg_fnd (fun a => ?_)
    split
    · split
      · exact ih _ _ (by omega) (by omega)
      · exact pg_ok (by omega)
    · exact pg_er
theorem pg_rst (h1 : q0 ≤ p) (h2 : p ≤ n) : PG q0 (aRst c n s nm td i p) := by
  have x1 := nx_le (c := c) h2
  have x2 := nx_le (c := c) x1.2
  unfold aRst
  split
  · exact pg_new h1 h2 (fun p1 a1 b1 => pg_num a1 b1 (fun x p2 a2 b2 => pg_num a2 b2 (fun y p3 a3 b3 => pg_ok a3)))
  split
  · refine pg_fnd (fun a => pg_fnd (fun b => ?_))
    split
    · exact pg_er
    · split
      · exact pg_er
      · exact pg_ok (by omega)
  split
  · exact pg_new h1 h2 (fun p1 a1 b1 => pg_ok a1)
  split
  · refine pg_new h1 h2 (fun p1 a1 b1 => pg_fnd (fun a => pg_fnd (fun b => ?_)))
    have y1 := nx_le (c := c) b1
    have y2 := nx_le (c := c) y1.2
    have y3 := nx_le (c := c) y2.2
    split
    · split
      · exact pg_ok (by omega)
      · exact pg_ok (by omega)
    · exact pg_er
  split
  · refine pg_fnd (fun a => pg_fnd (fun b => ?_))
    split
    · exact pg_er
    · split
      · exact pg_er
      · split
        · exact pg_ok (by omega)
        · exact pg_er
  split
  · exact pg_pls h2 h1 _ _ _ h1 h2
  · exact pg_num h1 h2 (fun x p1 a1 b1 => pg_ok a1)
theorem pg_sgn (hn : ∀ s nm td p', r = .inr (s, nm, td, p') → p' ≤ n) (K : PG q0 r) : PG q0 (aSgn c n r) := by
  unfold aSgn
  split
  · exact pg_er
  · rename_i s nm td p'
    have h1 := K _ _ _ _ rfl
    split
    · rename_i d
      intro s2 nm2 td2 p2 z
      cases z
      have := (nx_le (c := c) (hn _ _ _ _ rfl)).1
      omega
    · exact pg_er
/-- where a reader leaves off -/
def PN (n : Nat) (r : Rs) : Prop := ∀ s nm td p', r = .inr (s, nm, td, p') → p' ≤ n
theorem pn_er {e : Nat × Nat} : PN n (.inl e) := fun _ _ _ _ z => by cases z
theorem pn_ok (h : p ≤ n) : PN n (.inr (s, nm, td, p)) := fun _ _ _ _ z => by
  cases z; exact h
theorem pn_num {F : Nat → Nat → Rs} (h2 : p ≤ n) (K : ∀ x p1, p1 ≤ n → PN n (F x p1)) : PN n (aNum c n lo hi p F) := by
  have := nx_le (c := c) h2
  unfold aNum
  split
  · split
    · exact K _ _ (by omega)
    · exact pn_er
  · exact pn_er
theorem pn_new {F : Nat → Rs} (h2 : p ≤ n) (K : ∀ p1, p1 ≤ n → PN n (F p1)) : PN n (aNew c n nm o m p F) := by
  have := nx_le (c := c) h2
  unfold aNew
  split
  · split
    · exact K _ (by omega)
    · exact pn_er
  · exact pn_er
theorem pn_fnd {F : Nat → Rs} (K : ∀ a, PN n (F a)) : PN n (aFnd c n nm o m p F) := by
  unfold aFnd
  split
  · split
    · exact pn_er
    · exact K _
  · exact pn_er
theorem pn_pls : ∀ k s p, p ≤ n → PN n (aPls c n nm td w k s p) := by
  intro k
  induction k with
  | zero => exact fun s p y => pn_ok y
  | succ k ih =>
    intro s p y
    have := nx_le (c := c) y
    unfold aPls
    refine pn_fnd (fun a => ?_)
    split
    · split
      · exact ih _ _ (by omega)
      · exact pn_ok (by omega)
    · exact pn_er
theorem pn_rst (h2 : p ≤ n) : PN n (aRst c n s nm td i p) := by
  have x1 := nx_le (c := c) h2
  have x2 := nx_le (c := c) x1.2
  unfold aRst
  split
  · exact pn_new h2 (fun p1 b1 => pn_num b1 (fun x p2 b2 => pn_num b2 (fun y p3 b3 => pn_ok b3)))
  split
  · refine pn_fnd (fun a => pn_fnd (fun b => ?_))
    split
    · exact pn_er
    · split
      · exact pn_er
      · exact pn_ok (by omega)
  split
  · exact pn_new h2 (fun p1 b1 => pn_ok b1)
  split
  · refine pn_new h2 (fun p1 b1 => pn_fnd (fun a => pn_fnd (fun b => ?_)))
    have y1 := nx_le (c := c) b1
    have y2 := nx_le (c := c) y1.2
    have y3 := nx_le (c := c) y2.2
    split
    · split
      · exact pn_ok (by omega)
      · exact pn_ok (by omega)
    · exact pn_er
  split
  · refine pn_fnd (fun a => pn_fnd (fun b => ?_))
    split
    · exact pn_er
    · split
      · exact pn_er
      · split
        · exact pn_ok (by omega)
        · exact pn_er
  split
  · exact pn_pls _ _ _ h2
  · exact pn_num h2 (fun x p1 b1 => pn_ok b1)
/-- a statement takes a byte at least -/
theorem pg_stm (hp : p ≤ n) : PG (p + 1) (aStm c n s nm td p) := by
  unfold aStm
  split
  · exact pg_er
  · rename_i i e
    have d := fst1_in e
    have t1 := tE_lt hp (by rw [kw_1 d.2]; decide : tK c n p ≠ 0)
    have x1 := nx_le (c := c) hp
    split
    · exact pg_sgn (pn_rst x1.2) (pg_rst (by omega) x1.2)
    · exact pg_er
end
