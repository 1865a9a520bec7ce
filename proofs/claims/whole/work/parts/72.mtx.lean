/-! ===== the model reads a whole cluster ===== -/
section
variable {q : Nat → PH → Prop} {kk kj : Int32 → PH → Prop} {kl : Int64 → PH → Prop} {kv kw k1 : PH → Prop} {h h' : PH} {s t : RW} {C E L : Nat} {a b n m p v w e pl i : Nat} {f g : FI} {nm : Nat → Int64} {c : Nat → Nat} {td : Nat → Bool} {y : Int64}
theorem l_clr (r : RW) (K : ∀ h', Fr WR h h' → h'.1 132 = clrS r → kv h') (hr : ∀ j, 253 ≤ j → gi h 132 j = r j) : MetPM m_X12_clears [.ref 130] h (rV q kv) := by
  have fin : ∀ k i h1, i + k = 49 → 44 ≤ i → Fr WR h h1 → (∀ j, j < 253 → gi h1 132 j = if 44 ≤ j ∧ j < i then -(nI 1) else nI 0) → At m_X12_clears (rV q kv) 25 0 [some (.ref 130), some (.int (nI i))] [] h1 := by
    intro k
    induction k with
    | zero =>
      intro i h1 hi hi2 F e
      have hi3 : i = 49 := by omega
      subst hi3
      refine u_X12_clears_25 (pk_le 49 49 (fun _ => ⟨rv (by omega), rv (by omega), rv (by omega), ?_⟩) (fun y => absurd y (by omega)))
      intro h2
      refine ⟨rv (by omega), rv (by omega), rv (by omega), ?_⟩
      intro h3
      have F2 : Fr WR h1 h3 := (((((Fr.wr h1 _ (WR_t (show 5 < 253 by omega))).and _ (WR_t (show 6 < 253 by omega))).and _ (WR_t (show 7 < 253 by omega))).and _ (WR_t (show 8 < 253 by omega))).and _ (WR_t (show 9 < 253 by omega))).and _ (WR_t (show 10 < 253 by omega))
      refine K h3 (F.trans F2) (funext fun j => ?_)
      show (if j = 10 then nI 50 else if j = 9 then nI 10 else if j = 8 then nI 5 else if j = 7 then nI 1 else if j = 6 then nI 1 else if j = 5 then nI 1 else gi h1 132 j) = _
      unfold clrS
      by_cases hj : j < 253
      · rw [if_pos hj, e j hj]
        by_cases d : 44 ≤ j ∧ j < 49
        · rw [if_pos d, if_pos d, if_neg (by omega), if_neg (by omega), if_neg (by omega), if_neg (by omega), if_neg (by omega), if_neg (by omega)]
        · rw [if_neg d, if_neg d]
          rcases (by omega : j = 10 ∨ j = 9 ∨ j = 8 ∨ j = 7 ∨ j = 6 ∨ j = 5 ∨ (j < 5 ∨ 10 < j)) with rfl | rfl | rfl | rfl | rfl | rfl | z
          · rfl
          · rfl
          · rfl
          · rfl
          · rfl
          · rfl
          · rw [if_neg (by omega), if_neg (by omega), if_neg (by omega), if_neg (by omega), if_neg (by omega), if_neg (by omega), if_neg (by omega), if_neg (by omega), if_neg (by omega), if_neg (by omega)]
      · rw [if_neg hj, if_neg (by omega), if_neg (by omega), if_neg (by omega), if_neg (by omega), if_neg (by omega), if_neg (by omega)]
        rw [← hr j (by omega)]
        refine F.1 132 j ?_
        unfold WR
        cases z : Nat.blt j 253
        · rfl
        · exact absurd (Nat.le_of_ble_eq_true z) (by omega)
    | succ k ih =>
      intro i h1 hi hi2 F e
      refine u_X12_clears_25 (pk_le 49 i (fun y => absurd y (by omega)) (fun _ => ⟨vp_in_nI (by omega) (by omega), ?_⟩))
      rw [nI_add, cl (by omega)]
      refine ih (i + 1) _ (by omega) (by omega) (F.and _ (WR_t (by omega))) (fun j hj => ?_)
      by_cases d : j = i
      · rw [d, gi_same, if_pos (by omega)]
      · rw [gi_ok d, e j hj]
        by_cases d2 : 44 ≤ j ∧ j < i
        · rw [if_pos d2, if_pos (by omega)]
        · rw [if_neg d2, if_neg (by omega)]
  have go : ∀ k i h1, i + k = 253 → Fr WR h h1 → (∀ j, j < i → gi h1 132 j = nI 0) → At m_X12_clears (rV q kv) 2 0 [some (.ref 130), some (.int (nI i))] [] h1 := by
    intro k
    induction k with
    | zero =>
      intro i h1 hi F e
      refine u_X12_clears_2 (pk_le 253 i (fun _ => fin 5 44 h1 (by omega) (by omega) F (fun j hj => ?_)) (fun y => absurd y (by omega)))
      rw [if_neg (by omega)]
      exact e j (by omega)
    | succ k ih =>
      intro i h1 hi F e
      refine u_X12_clears_2 (pk_le 253 i (fun y => absurd y (by omega)) (fun _ => ⟨vp_in_nI (by omega) (by omega), ?_⟩))
      rw [nI_add, cl (by omega)]
      refine ih (i + 1) _ (by omega) (F.and _ (WR_t (by omega))) (fun j hj => ?_)
      by_cases d : j = i
      · rw [d, gi_same]
      · rw [gi_ok d]; exact e j (by omega)
  exact t_X12_clears (go 253 0 h (by omega) (Fr.refl _ _) (fun j hj => absurd hj (by omega)))
theorem l_mall : ∀ k s nm td p h v1, p ≤ n → n - p ≤ k → MS c n s nm td p h → Km c n h (fun h' => At m_X12_readText (rI q kk) 64 0 [some (.ref 130), some (.int v1)] [] h') (aAll c n k s nm td p) → At m_X12_readText (rI q kk) 43 0 [some (.ref 130), some (.int v1)] [] h := by
  intro k
  induction k with
  | zero =>
    intro s nm td p h v1 hp hf S K
    have X := S.2.2
    have sk := sK_1 (tK_lt (c := c) (n := n) (p := p))
    refine u_X12_readText_43 (s_good X.e8 ⟨fun y => absurd y (by decide), fun _ => ?_⟩)
    rw [show gi h 130 6 = _ from X.T.1, sk.2.2.2.2]
    have t0 : tK c n p = 0 := by
      have := tS_le (c := c) hp
      unfold tK kK
      rw [if_pos (by omega)]
    exact ⟨fun _ => K.ok S, fun y => absurd t0 y⟩
  | succ k ih =>
    intro s nm td p h v1 hp hf S K
    have X := S.2.2
    have sk := sK_1 (tK_lt (c := c) (n := n) (p := p))
    refine u_X12_readText_43 (s_good X.e8 ⟨fun y => absurd y (by decide), fun _ => ?_⟩)
    rw [show gi h 130 6 = _ from X.T.1, sk.2.2.2.2]
    unfold aAll at K
    refine ⟨fun d => ?_, fun d => ?_⟩
    · rw [if_pos d] at K
      exact K.ok S
    · rw [if_neg d] at K
      refine m_stm S ⟨fun e pl er h2 x M => ?_, fun s' nm' td' p' er h2 x S2 => ?_⟩
      · rw [er] at K
        exact u_X12_readText_43 (e_good M ⟨fun _ => K.er x M, fun y => absurd rfl y⟩)
      · have g := pg_stm hp _ _ _ _ er
        rw [er] at K
        exact ih _ _ _ _ _ _ S2.2.2.pn (by have := S2.2.2.pn; omega) S2 (K.fz x)
end
