/-! ===== the model's tokens ===== -/
section
variable {q : Nat → PH → Prop} {kk : Int32 → PH → Prop} {kl : Int64 → PH → Prop} {kv : PH → Prop} {h h' : PH} {t : RW} {C E L : Nat} {a b n m p v w : Nat} {f g : FI} {nm : Nat → Int64} {c : Nat → Nat} {td : Nat → Bool}
def MB (c : Nat → Nat) (n : Nat) (h : PH) : Prop := n ≤ 900 ∧ (∀ j, c j < 256) ∧ gi h 130 3 = nI n ∧ ∀ j, j < n → gi h 131 j = nI (c j)
/-- the model's sort of a token -/
def sK (k : Nat) : Nat := if k ≤ 2 then k else if k ≤ 5 then 3 else 4
def MT (c : Nat → Nat) (n p : Nat) (h : PH) : Prop := gi h 130 6 = nI (sK (tK c n p)) ∧ gi h 130 5 = nI (tS c n p) ∧ gi h 130 4 = nI (tE c n p) ∧ (tK c n p = 1 → gl h 130 12 = lN (tM c n p)) ∧ (tK c n p = 2 → gi h 130 7 = nI (tV c n p)) ∧ (tK c n p = 3 → gi h 130 7 = nI 59) ∧ (tK c n p = 4 → gi h 130 7 = nI 40) ∧ (tK c n p = 5 → gi h 130 7 = nI 41)
def WT (b k : Nat) : Prop := b = 130 ∧ 4 ≤ k ∧ k ≤ 7
def VT (b : Nat) : Prop := b = 130
theorem FT_i {k : Nat} {x : Int32} (h1 : 4 ≤ k) (h2 : k ≤ 7) : Fz WT VT h (si h 130 k x) := Fz.si h x ⟨rfl, h1, h2⟩
theorem FT_l {k : Nat} {x : Int64} : Fz WT VT h (sl h 130 k x) := Fz.sl h x rfl
theorem MB.fz {W : Nat → Nat → Prop} {V : Nat → Prop} (x : Fz W V h h') (w1 : ¬ W 130 3) (w2 : ∀ k, ¬ W 131 k) (B : MB c n h) : MB c n h' := ⟨B.1, B.2.1, (x.1 130 3 w1).trans B.2.2.1, fun j hj => (x.1 131 j (w2 j)).trans (B.2.2.2 j hj)⟩
theorem MB.ft (x : Fz WT VT h h') (B : MB c n h) : MB c n h' := B.fz x (by unfold WT; omega) (fun k => by unfold WT; omega)
theorem s_here {s k : Nat} (B : MB c n h) (e4 : gi h 130 4 = nI s) (hs : s + k < 2000) (K1 : s + k < n → kk (nI (c (s + k))) h) (K0 : n ≤ s + k → kk (-(nI 1)) h) : MetPM m_X12_here [.ref 130, .int (nI k)] h (rI q kk) := by
  have hn := B.1
  refine t_X12_here ?_
  rw [show gi h 130 3 = nI n from B.2.2.1, e4, nI_add]
  refine pk_le n (s + k) (fun d => K0 d) (fun d => ⟨vp_in_nI (by omega) (by omega), ?_⟩)
  rw [cl (by omega), show gi h 131 (s + k) = _ from B.2.2.2 _ d]
  exact K1 d
theorem s_isLetter {x : Nat} (hx : x < 256) (K : kk (b2i (leC x)) h) : MetPM m_X12_isLetter [.int (nI x)] h (rI q kk) := by
  refine t_X12_isLetter ?_
  cases e : leC x
  · rw [e] at K
    refine pk_lt x 97 (fun d => ⟨isB_0, K⟩) (fun d => pk_lt 122 x (fun d2 => ⟨isB_0, K⟩) (fun d2 => ?_))
    exfalso
    unfold leC at e
    rw [Nat.ble_eq_true_of_le (show 97 ≤ x by omega), Nat.ble_eq_true_of_le (show x ≤ 122 by omega)] at e
    cases e
  · rw [e] at K
    have := leC_t e
    exact pk_lt x 97 (fun d => absurd d (by omega)) (fun d => pk_lt 122 x (fun d2 => absurd d2 (by omega)) (fun d2 => ⟨isB_1, K⟩))
theorem s_isLetter_ (K : kk (b2i false) h) : MetPM m_X12_isLetter [.int (-(nI 1))] h (rI q kk) := t_X12_isLetter ⟨fun _ => ⟨isB_0, K⟩, fun y => absurd (by decide) y⟩
theorem s_isDigit {x : Nat} (hx : x < 256) (K : kk (b2i (diC x)) h) : MetPM m_X12_isDigit [.int (nI x)] h (rI q kk) := by
  refine t_X12_isDigit ?_
  cases e : diC x
  · rw [e] at K
    refine pk_lt x 48 (fun d => ⟨isB_0, K⟩) (fun d => pk_lt 57 x (fun d2 => ⟨isB_0, K⟩) (fun d2 => ?_))
    exfalso
    unfold diC at e
    rw [Nat.ble_eq_true_of_le (show 48 ≤ x by omega), Nat.ble_eq_true_of_le (show x ≤ 57 by omega)] at e
    cases e
  · rw [e] at K
    have := diC_t e
    exact pk_lt x 48 (fun d => absurd d (by omega)) (fun d => pk_lt 57 x (fun d2 => absurd d2 (by omega)) (fun d2 => ⟨isB_1, K⟩))
theorem s_isDigit_ (K : kk (b2i false) h) : MetPM m_X12_isDigit [.int (-(nI 1))] h (rI q kk) := t_X12_isDigit ⟨fun _ => ⟨isB_0, K⟩, fun y => absurd (by decide) y⟩
theorem m_scanW {h0 : PH} {s : Nat} {v1 : Int32} (hs : s ≤ n) (K : ∀ h', Fz WT VT h0 h' → gi h' 130 6 = nI (if wE c n s - s ≤ 8 then 1 else 4) → gi h' 130 5 = nI s → gi h' 130 4 = nI (wE c n s) → (wE c n s - s ≤ 8 → gl h' 130 12 = lN (w5 c s (wE c n s - s))) → kv h') : ∀ k v h, s + v + k = n → wE c n (s + v) = wE c n s → MB c n h → Fz WT VT h0 h → gi h 130 5 = nI s → gi h 130 4 = nI s → (∀ i, i < v → leC (c (s + i)) = true) → (v ≤ 8 → gl h 130 12 = lN (w5 c s v)) → (8 < v → wE c n s - s > 8) → At m_X12_goOn (rV q kv) 76 0 [some (.ref 130), some (.int v1), some (.int (nI v))] [] h := by
  have stop : ∀ v h, s + v ≤ n → wE c n (s + v) = s + v → wE c n (s + v) = wE c n s → MB c n h → Fz WT VT h0 h → gi h 130 5 = nI s → gi h 130 4 = nI s → (v ≤ 8 → gl h 130 12 = lN (w5 c s v)) → ((nI v ≤ nI 8 → At m_X12_goOn (rV q kv) 239 0 [some (.ref 130), some (.int v1), some (.int (nI v))] [] (si h 130 6 (nI 1))) ∧ (¬ nI v ≤ nI 8 → At m_X12_goOn (rV q kv) 239 0 [some (.ref 130), some (.int v1), some (.int (nI v))] [] (si h 130 6 (nI 4)))) := fun v h h2 e1 e2 B F e5 e4 el => by
    have hn := B.1
    have e9 : wE c n s = s + v := e2.symm.trans e1
    rw [e9, Nat.add_sub_cancel_left] at K
    have g4 : ∀ x : Int32, gi (si h 130 6 x) 130 4 + nI v = nI (s + v) := fun x => by rw [gi_ok (by omega), e4, nI_add]
    refine pk_le v 8 (fun d => u_X12_goOn_239 ?_) (fun d => u_X12_goOn_239 ?_)
    · refine K _ (F.trans ((FT_i (k := 6) (by omega) (by omega)).trans (FT_i (k := 4) (by omega) (by omega)))) ?_ ?_ ?_ (fun _ => el d)
      · rw [gi_ok (by omega), gi_same, if_pos d]
      · rw [gi_ok (by omega), gi_ok (by omega)]; exact e5
      · rw [gi_same]; exact g4 _
    · refine K _ (F.trans ((FT_i (k := 6) (by omega) (by omega)).trans (FT_i (k := 4) (by omega) (by omega)))) ?_ ?_ ?_ (fun y => absurd y (by omega))
      · rw [gi_ok (by omega), gi_same, if_neg (by omega)]
      · rw [gi_ok (by omega), gi_ok (by omega)]; exact e5
      · rw [gi_same]; exact g4 _
  intro k
  induction k with
  | zero =>
    intro v h hj ew B F e5 e4 al el _
    have hn := B.1
    have st := stop v h (by omega) (rE_no (Or.inl (by omega))) ew B F e5 e4 el
    refine u_X12_goOn_76 (s_here B e4 (by omega) (fun d => absurd d (by omega)) (fun _ => s_isLetter_ ?_))
    exact ⟨fun _ => st, fun y => absurd rfl y⟩
  | succ k ih =>
    intro v h hj ew B F e5 e4 al el e8
    have hn := B.1
    have hc := B.2.1 (s + v)
    refine u_X12_goOn_76 (s_here B e4 (by omega) (fun _ => s_isLetter hc (bq (fun y => ?_) (fun y => ?_))) (fun d => absurd d (by omega)))
    · exact stop v h (by omega) (rE_no (Or.inr y)) ew B F e5 e4 el
    · have hl := leC_t y
      have ew2 : wE c n (s + (v + 1)) = wE c n s := by
        rw [← ew]
        exact (rE_go (P := fun i => leC (c i)) (by omega) y).symm
      have al2 : ∀ i, i < v + 1 → leC (c (s + i)) = true := fun i hi => by
        by_cases d : i = v
        · rw [d]; exact y
        · exact al i (by omega)
      have big : 8 < v + 1 → wE c n s - s > 8 := fun d => by
        have := (rE_le (P := fun i => leC (c i)) (n := n) (p := s + (v + 1)) (by omega)).1
        have e9 : rE (fun i => leC (c i)) n (s + (v + 1)) = wE c n s := ew2
        omega
      refine pk_le 8 v (fun d => ?_) (fun d => ?_)
      · refine u_X12_goOn_115 ?_
        rw [nI_add]
        exact ih (v + 1) h (by omega) ew2 B F e5 e4 al2 (fun d2 => absurd d2 (by omega)) big
      · refine s_here B e4 (by omega) (fun _ => ?_) (fun d => absurd d (by omega))
        intro h7
        have e7 : h7 = sl h 130 12 (lN (w5 c s (v + 1))) := by
          show sl h 130 12 _ = _
          rw [el (by omega), pk_sub (by omega), nI_add, sh5 (Nat.lt_of_lt_of_le (w5_lt (c := c) (p := s) (k := v) (fun i hi => by
            have := leC_t (al i hi)
            omega)) (Nat.le_trans (Nat.pow_le_pow_right (n := 32) (by omega) (show v ≤ 7 by omega)) (by decide))) (by omega), w5]
          rw [show c (s + v) - 97 + 1 = c (s + v) - 96 by omega]
        clear_value h7
        subst e7
        refine u_X12_goOn_115 ?_
        rw [nI_add]
        exact ih (v + 1) _ (by omega) ew2 (B.ft FT_l) (F.trans FT_l) e5 e4 al2 (fun _ => gl_same) big
theorem m_scanD {h0 : PH} {s : Nat} {v1 : Int32} (hs : s ≤ n) (K : ∀ h', Fz WT VT h0 h' → gi h' 130 6 = nI (if dE c n s - s ≤ 3 then 2 else 4) → gi h' 130 5 = nI s → gi h' 130 4 = nI (dE c n s) → (dE c n s - s ≤ 3 → gi h' 130 7 = nI (vl c s (dE c n s - s))) → kv h') : ∀ k v h, s + v + k = n → dE c n (s + v) = dE c n s → MB c n h → Fz WT VT h0 h → gi h 130 5 = nI s → gi h 130 4 = nI s → (∀ i, i < v → diC (c (s + i)) = true) → (v ≤ 3 → gi h 130 7 = nI (vl c s v)) → At m_X12_goOn (rV q kv) 146 0 [some (.ref 130), some (.int v1), some (.int (nI v))] [] h := by
  have stop : ∀ v h, s + v ≤ n → dE c n (s + v) = s + v → dE c n (s + v) = dE c n s → MB c n h → Fz WT VT h0 h → gi h 130 5 = nI s → gi h 130 4 = nI s → (v ≤ 3 → gi h 130 7 = nI (vl c s v)) → ((nI v ≤ nI 3 → At m_X12_goOn (rV q kv) 239 0 [some (.ref 130), some (.int v1), some (.int (nI v))] [] (si h 130 6 (nI 2))) ∧ (¬ nI v ≤ nI 3 → At m_X12_goOn (rV q kv) 239 0 [some (.ref 130), some (.int v1), some (.int (nI v))] [] (si h 130 6 (nI 4)))) := fun v h h2 e1 e2 B F e5 e4 el => by
    have hn := B.1
    have e9 : dE c n s = s + v := e2.symm.trans e1
    rw [e9, Nat.add_sub_cancel_left] at K
    have g4 : ∀ x : Int32, gi (si h 130 6 x) 130 4 + nI v = nI (s + v) := fun x => by rw [gi_ok (by omega), e4, nI_add]
    refine pk_le v 3 (fun d => u_X12_goOn_239 ?_) (fun d => u_X12_goOn_239 ?_)
    · refine K _ (F.trans ((FT_i (k := 6) (by omega) (by omega)).trans (FT_i (k := 4) (by omega) (by omega)))) ?_ ?_ ?_ (fun _ => ?_)
      · rw [gi_ok (by omega), gi_same, if_pos d]
      · rw [gi_ok (by omega), gi_ok (by omega)]; exact e5
      · rw [gi_same]; exact g4 _
      · rw [gi_ok (by omega), gi_ok (by omega)]; exact el d
    · refine K _ (F.trans ((FT_i (k := 6) (by omega) (by omega)).trans (FT_i (k := 4) (by omega) (by omega)))) ?_ ?_ ?_ (fun y => absurd y (by omega))
      · rw [gi_ok (by omega), gi_same, if_neg (by omega)]
      · rw [gi_ok (by omega), gi_ok (by omega)]; exact e5
      · rw [gi_same]; exact g4 _
  intro k
  induction k with
  | zero =>
    intro v h hj ew B F e5 e4 al el
    have hn := B.1
    have st := stop v h (by omega) (rE_no (Or.inl (by omega))) ew B F e5 e4 el
    refine u_X12_goOn_146 (s_here B e4 (by omega) (fun d => absurd d (by omega)) (fun _ => s_isDigit_ ?_))
    exact ⟨fun _ => st, fun y => absurd rfl y⟩
  | succ k ih =>
    intro v h hj ew B F e5 e4 al el
    have hn := B.1
    have hc := B.2.1 (s + v)
    refine u_X12_goOn_146 (s_here B e4 (by omega) (fun _ => s_isDigit hc (bq (fun y => ?_) (fun y => ?_))) (fun d => absurd d (by omega)))
    · exact stop v h (by omega) (rE_no (Or.inr y)) ew B F e5 e4 el
    · have hl := diC_t y
      have ew2 : dE c n (s + (v + 1)) = dE c n s := by
        rw [← ew]
        exact (rE_go (P := fun i => diC (c i)) (by omega) y).symm
      have al2 : ∀ i, i < v + 1 → diC (c (s + i)) = true := fun i hi => by
        by_cases d : i = v
        · rw [d]; exact y
        · exact al i (by omega)
      refine pk_le 3 v (fun d => ?_) (fun d => ?_)
      · refine u_X12_goOn_182 ?_
        rw [nI_add]
        exact ih (v + 1) h (by omega) ew2 B F e5 e4 al2 (fun d2 => absurd d2 (by omega))
      · refine s_here B e4 (by omega) (fun _ => ?_) (fun d => absurd d (by omega))
        have e7 : ((nI 10) * (gi h 130 7) + nI (c (s + v))) - nI 48 = nI (vl c s (v + 1)) := by
          rw [el (by omega), pk_mul, nI_add, pk_sub (by omega), vl]
          congr 1
          omega
        rw [e7]
        refine u_X12_goOn_182 ?_
        rw [nI_add]
        refine ih (v + 1) _ (by omega) ew2 (B.ft (FT_i (by omega) (by omega))) (F.trans (FT_i (by omega) (by omega))) ?_ ?_ al2 (fun _ => gi_same)
        · rw [gi_ok (by omega)]; exact e5
        · rw [gi_ok (by omega)]; exact e4
end
