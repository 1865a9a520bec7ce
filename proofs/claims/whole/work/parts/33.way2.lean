/-! ===== ways: the reference's table ===== -/
section
variable {q : Nat → PH → Prop} {kk : Int32 → PH → Prop} {kv : PH → Prop} {h : PH} {s : RW} {C E : Nat} {a : Nat}
def WF (b k : Nat) : Bool := Nat.beq b 140
/-- the reference's table: one more than the changes, 0: none yet -/
def FA (f : Nat → Nat) (h : PH) : Prop := ∀ v, v < 8 → gi h 140 v = pre1 (f v)
def setf (f : Nat → Nat) (a x : Nat) : Nat → Nat := fun v => if v = a then x else f v
/-- f is g, bettered: every row ahead of i, and those of row i ahead of j, have been looked at -/
def Bet (s : RW) (y : Nat) (g f : Nat → Nat) (i j : Nat) : Prop :=
  (∀ v, g v ≠ 0 → f v ≠ 0 ∧ f v ≤ g v) ∧ (∀ v d, v < 8 → f v = d + 1 → wlk s d v y = true) ∧
  ∀ x b, (x < i ∧ b < nn (s 0)) ∨ (x = i ∧ b < j) → folw s x b = true → g b ≠ 0 → f x ≠ 0 ∧ f x ≤ g b + 1
theorem pre1_n1 {n : Nat} (hn : n < 2 ^ 31) : pre1 n = -(nI 1) ↔ n = 0 := by
  cases n with
  | zero => exact ⟨fun _ => rfl, fun _ => pre1_z⟩
  | succ n => exact ⟨fun z => absurd z (nI_m1 (by omega)), fun z => by omega⟩
theorem l_lw57 {h0 : PH} {y L i : Nat} {g : Nat → Nat} (R : Rk C E s) (hi : i < nn (s 0)) (hg : ∀ v, g v < 2000) :
    ∀ k j f h T, j + k = nn (s 0) → T + k < 2000 → FA f h → Fr WF h0 h → h.1 132 = s → Bet s y g f i j → (∀ v, f v ≤ T) →
    (∀ f' h', FA f' h' → Fr WF h0 h' → h'.1 132 = s → Bet s y g f' i (nn (s 0)) → (∀ v, f' v ≤ T + k) → At m_X12_laysWays (rV q kv) 44 0 [some (.ref 130), some (.int (nI y)), some (.int (nI L)), some (.int (nI (i + 1))), some (.int (nI (nn (s 0))))] [] h') →
    At m_X12_laysWays (rV q kv) 57 0 [some (.ref 130), some (.int (nI y)), some (.int (nI L)), some (.int (nI i)), some (.int (nI j))] [] h := by
  have hv8 := R.v.2
  intro k
  induction k with
  | zero =>
    intro j f h T hj hT A F hs B hf K
    refine u_X12_laysWays_57 ⟨rv (by omega), ?_⟩
    rw [rd hs 0 (by omega), R.v.1, nI_add]
    refine pk_le (nn (s 0)) j (fun _ => ?_) (fun z => absurd z (by omega))
    have : j = nn (s 0) := by omega
    subst this
    exact K f h A F hs B (fun v => by have := hf v; omega)
  | succ k ih =>
    intro j f h T hj hT A F hs B hf K
    refine u_X12_laysWays_57 ⟨rv (by omega), ?_⟩
    rw [rd hs 0 (by omega), R.v.1]
    refine pk_le (nn (s 0)) j (fun z => absurd z (by omega)) (fun hlt => ⟨rv8 hlt hv8, ?_⟩)
    have fi := hf i
    have fj := hf j
    -- nothing is bettered
    have keep : (folw s i j = true → g j ≠ 0 → f i ≠ 0 ∧ f i ≤ g j + 1) → ∀ h, FA f h → Fr WF h0 h → h.1 132 = s → At m_X12_laysWays (rV q kv) 132 0 [some (.ref 130), some (.int (nI y)), some (.int (nI L)), some (.int (nI i)), some (.int (nI j))] [] h := fun w h A F hs => by
      refine u_X12_laysWays_132 ?_
      rw [nI_add]
      refine ih (j + 1) f h T (by omega) (by omega) A F hs ⟨B.1, B.2.1, fun x b c => ?_⟩ hf (fun f' h' a1 a2 a3 a4 a5 => K f' h' a1 a2 a3 a4 (fun v => by have := a5 v; omega))
      by_cases c2 : x = i ∧ b = j
      · rw [c2.1, c2.2]; exact w
      · exact B.2.2 x b (by omega)
    have set : f j ≠ 0 → folw s i j = true → (f i = 0 ∨ f j + 1 < f i) → ∀ h, FA f h → Fr WF h0 h → h.1 132 = s → At m_X12_laysWays (rV q kv) 117 0 [some (.ref 130), some (.int (nI y)), some (.int (nI L)), some (.int (nI i)), some (.int (nI j))] [] h := fun w1 w2 w3 h A F hs => by
      refine u_X12_laysWays_117 ⟨rv8 hlt hv8, rv8 hi hv8, u_X12_laysWays_132 ?_⟩
      obtain ⟨d, hd⟩ : ∃ d, f j = d + 1 := ⟨f j - 1, by omega⟩
      rw [cl (by omega), cl (by omega), A j (by omega), hd, pre1_s, nI_add, nI_add]
      refine ih (j + 1) (setf f i (d + 2)) _ (T + 1) (by omega) (by omega) (fun v hv => ?_) (F.and _ rfl) (by rw [si_b (by omega)]; exact hs) ⟨fun v hv => ?_, fun v e hv ev => ?_, fun x b c c2 c3 => ?_⟩ (fun v => ?_) (fun f' h' a1 a2 a3 a4 a5 => K f' h' a1 a2 a3 a4 (fun v => by have := a5 v; omega))
      · unfold setf
        by_cases c : v = i
        · subst c; rw [if_pos rfl, gi_same]; rfl
        · rw [if_neg c, gi_ok c]; exact A v hv
      · unfold setf
        have := B.1 v hv
        by_cases c : v = i
        · subst c; rw [if_pos rfl]; omega
        · rw [if_neg c]; exact this
      · unfold setf at ev
        by_cases c : v = i
        · subst c
          rw [if_pos rfl] at ev
          have : e = d + 1 := by omega
          subst this
          exact wlk_s.mpr ⟨j, hlt, w2, B.2.1 j d (by omega) hd⟩
        · rw [if_neg c] at ev
          exact B.2.1 v e hv ev
      · unfold setf
        by_cases c4 : x = i
        · subst c4
          rw [if_pos rfl]
          by_cases c5 : b = j
          · subst c5
            have := B.1 b c3
            omega
          · have := B.2.2 x b (by omega) c2 c3
            omega
        · rw [if_neg c4]
          exact B.2.2 x b (by omega) c2 c3
      · unfold setf
        split
        · omega
        · have := hf v; omega
    rw [cl (by omega), A j (by omega), pre1_n1 (by omega)]
    refine cq (fun c => keep (fun _ z => absurd c (B.1 j z).1) h A F hs) (fun c => s_mayFollow R hs (by omega) (by omega) (bq (fun c2 => keep (fun z => by rw [c2] at z; cases z) h A F hs) (fun c2 => ⟨rv8 hi hv8, ?_⟩)))
    rw [cl (by omega), A i (by omega), pre1_n1 (by omega)]
    refine cq (fun c3 => set c c2 (Or.inl c3) h A F hs) (fun c3 => ⟨rv8 hi hv8, rv8 hlt hv8, ?_⟩)
    obtain ⟨d, hd⟩ : ∃ d, f j = d + 1 := ⟨f j - 1, by omega⟩
    obtain ⟨e, he⟩ : ∃ e, f i = e + 1 := ⟨f i - 1, by omega⟩
    rw [A j (by omega), hd, he, pre1_s, pre1_s, nI_add]
    refine pk_le e (d + 1) (fun c4 => keep (fun _ z => ?_) h A F hs) (fun c4 => set c c2 (Or.inr (by omega)) h A F hs)
    have := B.1 j z
    omega
where
  rv8 {k n : Nat} (h1 : k < n) (h2 : n ≤ 8) : vp_in (nI k) 8 := vp_in_nI (by omega) (by omega)
theorem l_lw44 {h0 : PH} {y L : Nat} {g : Nat → Nat} (R : Rk C E s) (hg : ∀ v, g v < 2000) :
    ∀ k i f h T o4, i + k = nn (s 0) → T + 8 * k < 1900 → FA f h → Fr WF h0 h → h.1 132 = s → Bet s y g f i 0 → (∀ v, f v ≤ T) →
    (∀ f' h' o3 o4, FA f' h' → Fr WF h0 h' → h'.1 132 = s → Bet s y g f' (nn (s 0)) 0 → (∀ v, f' v ≤ T + 8 * k) → At m_X12_laysWays (rV q kv) 32 0 [some (.ref 130), some (.int (nI y)), some (.int (nI (L + 1))), o3, o4] [] h') →
    At m_X12_laysWays (rV q kv) 44 0 [some (.ref 130), some (.int (nI y)), some (.int (nI L)), some (.int (nI i)), o4] [] h := by
  have hv8 := R.v.2
  intro k
  induction k with
  | zero =>
    intro i f h T o4 hi hT A F hs B hf K
    refine u_X12_laysWays_44 ⟨rv (by omega), ?_⟩
    rw [rd hs 0 (by omega), R.v.1, nI_add]
    refine pk_le (nn (s 0)) i (fun _ => ?_) (fun z => absurd z (by omega))
    have : i = nn (s 0) := by omega
    subst this
    exact K f h _ _ A F hs B (fun v => by have := hf v; omega)
  | succ k ih =>
    intro i f h T o4 hi hT A F hs B hf K
    refine u_X12_laysWays_44 ⟨rv (by omega), ?_⟩
    rw [rd hs 0 (by omega), R.v.1]
    refine pk_le (nn (s 0)) i (fun z => absurd z (by omega)) (fun hlt => ?_)
    refine l_lw57 (h0 := h0) R hlt hg _ 0 f h T (Nat.zero_add _) (by omega) A F hs B hf (fun f' h' a1 a2 a3 a4 a5 => ?_)
    refine ih (i + 1) f' h' (T + nn (s 0)) _ (by omega) (by omega) a1 a2 a3 ⟨a4.1, a4.2.1, fun x b c => a4.2.2 x b (by omega)⟩ a5 (fun f2 h2 o3 o4 b1 b2 b3 b4 b5 => K f2 h2 o3 o4 b1 b2 b3 b4 (fun v => by have := b5 v; omega))
theorem l_lw32 {h0 : PH} {y : Nat} (R : Rk C E s)
    (K : ∀ f' h', FA f' h' → Fr WF h0 h' → h'.1 132 = s → (∀ v d, v < 8 → f' v = d + 1 → wlk s d v y = true) → (∀ v d, v < nn (s 0) → d ≤ nn (s 0) → wlk s d v y = true → f' v ≠ 0 ∧ f' v ≤ d + 1) → kv h') :
    ∀ k L f h T o3 o4, L + k = nn (s 0) → T + 64 * k < 1000 → FA f h → Fr WF h0 h → h.1 132 = s → (∀ v d, v < 8 → f v = d + 1 → wlk s d v y = true) → (∀ v d, v < nn (s 0) → d ≤ L → wlk s d v y = true → f v ≠ 0 ∧ f v ≤ d + 1) → (∀ v, f v ≤ T) →
    At m_X12_laysWays (rV q kv) 32 0 [some (.ref 130), some (.int (nI y)), some (.int (nI L)), o3, o4] [] h := by
  have hv8 := R.v.2
  intro k
  induction k with
  | zero =>
    intro L f h T o3 o4 hL hT A F hs S D hf
    refine u_X12_laysWays_32 ⟨rv (by omega), ?_⟩
    rw [rd hs 0 (by omega), R.v.1]
    refine pk_le (nn (s 0)) L (fun _ => ?_) (fun z => absurd z (by omega))
    exact K f h A F hs S (fun v d hv hd => D v d hv (by omega))
  | succ k ih =>
    intro L f h T o3 o4 hL hT A F hs S D hf
    refine u_X12_laysWays_32 ⟨rv (by omega), ?_⟩
    rw [rd hs 0 (by omega), R.v.1]
    refine pk_le (nn (s 0)) L (fun z => absurd z (by omega)) (fun hlt => ?_)
    refine l_lw44 (h0 := h0) (g := f) R (fun v => by have := hf v; omega) _ 0 f h T _ (Nat.zero_add _) (by omega) A F hs ⟨fun v hv => ⟨hv, Nat.le_refl _⟩, S, fun x b c => by omega⟩ hf (fun f' h' o3 o4 a1 a2 a3 a4 a5 => ?_)
    refine ih (L + 1) f' h' (T + 64) _ _ (by omega) (by omega) a1 a2 a3 a4.2.1 (fun v d hv hd w => ?_) (fun v => by have := a5 v; omega)
    by_cases c : d ≤ L
    · have d1 := D v d hv c w
      have d2 := a4.1 v d1.1
      omega
    · have : d = L + 1 := by omega
      subst this
      obtain ⟨c, hc, w1, w2⟩ := wlk_s.mp w
      have d1 := D c L hc (Nat.le_refl _) w2
      have d2 := a4.2.2 v c (Or.inl ⟨hv, hc⟩) w1 d1.1
      omega
theorem l_lw2 {h0 : PH} {y : Nat} (K : ∀ h', FA (fun v => if v = y then 1 else 0) h' → Fr WF h0 h' → At m_X12_laysWays (rV q kv) 32 0 [some (.ref 130), some (.int (nI y)), some (.int (nI 0)), none, none] [] h') (hy : y < 8) :
    ∀ k i h, i + k = 8 → Fr WF h0 h → (∀ v, v < i → gi h 140 v = pre1 (if v = y then 1 else 0)) → At m_X12_laysWays (rV q kv) 2 0 [some (.ref 130), some (.int (nI y)), some (.int (nI i)), none, none] [] h := by
  intro k
  induction k with
  | zero =>
    intro i h hi F A
    refine u_X12_laysWays_2 (pk_le 8 i (fun _ => ?_) (fun z => absurd z (by omega)))
    exact K h (fun v hv => A v (by omega)) F
  | succ k ih =>
    intro i h hi F A
    refine u_X12_laysWays_2 (pk_le 8 i (fun z => absurd z (by omega)) (fun _ => ?_))
    rw [nI_add, nI_eq (by omega) (by omega), cl (by omega)]
    have go : ∀ x, x = pre1 (if i = y then 1 else 0) → At m_X12_laysWays (rV q kv) 2 0 [some (.ref 130), some (.int (nI y)), some (.int (nI (i + 1))), none, none] [] (si h 140 i x) := fun x hx => by
      refine ih (i + 1) _ (by omega) (F.and _ rfl) (fun v hv => ?_)
      by_cases c : v = i
      · subst c; rw [gi_same, hx]
      · rw [gi_ok c]; exact A v (by omega)
    refine ⟨fun c => ⟨vp_in_nI (by omega) (by omega), go _ ?_⟩, fun c => ⟨vp_in_nI (by omega) (by omega), go _ ?_⟩⟩
    · rw [if_neg c]; exact pre1_z.symm
    · rw [if_pos c]; rfl
theorem s_laysWays {y : Nat} (R : Rk C E s) (hs : h.1 132 = s) (hy : y < nn (s 0)) (K : ∀ h', Fr WF h h' → h'.1 132 = s → (∀ v, v < nn (s 0) → gi h' 140 v = pre1 (wayN s v y)) → kv h') : MetPM m_X12_laysWays [.ref 130, .int (nI y)] h (rV q kv) := by
  have hv8 := R.v.2
  refine t_X12_laysWays (l_lw2 (h0 := h) (fun h1 A1 F1 => ?_) (by omega) _ 0 h (Nat.zero_add _) (Fr.refl _ _) (fun v hv => absurd hv (Nat.not_lt_zero v)))
  have hs1 : h1.1 132 = s := (F1.cell fun k => rfl).trans hs
  refine l_lw32 (h0 := h) R (fun f' h' a1 a2 a3 a4 a5 => K h' a2 a3 (fun v hv => ?_)) _ 0 _ h1 1 none none (Nat.zero_add _) (by omega) A1 F1 hs1 (fun v d hv e => ?_) (fun v d hv hd w => ?_) (fun v => ?_)
  · rw [a1 v (by omega)]
    congr 1
    unfold wayN
    cases e : f' v with
    | zero =>
      refine (fst1_no fun d hd => ?_).symm
      cases e2 : wlk s d v y
      · rfl
      · exact absurd e (a5 v d hv (by omega) e2).1
    | succ d =>
      have w := a4 v d (by omega) e
      obtain ⟨d', hd', w'⟩ := wlk_short hv hy w
      have d1 := a5 v d' hv (by omega) w'
      refine (fst1_yes (k := d) w (fun j hj => ?_) (by omega)).symm
      cases e2 : wlk s j v y
      · rfl
      · have := a5 v j hv (by omega) e2
        omega
  · by_cases c : v = y
    · simp only [if_pos c] at e
      have : d = 0 := by omega
      subst this
      exact decide_eq_true c
    · simp only [if_neg c] at e
      omega
  · have : d = 0 := by omega
    subst this
    have : v = y := of_decide_eq_true w
    simp only [if_pos this]
    omega
  · show (if v = y then 1 else 0) ≤ 1
    split <;> omega
end
