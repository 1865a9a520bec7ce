/-! ===== a cluster that is being read: its row ===== -/
section
variable {s t : RW} {C E : Nat} {a b : Nat} {f g : FI}
def RkV (s : RW) : Prop := isN (s 0) 8 ∧ ∀ a b, a < nn (s 0) → b < nn (s 0) → tlk s a b = tlk s b a
def RkN (s : RW) : Prop := isN (s 6) 7 ∧ isN (s 7) 12 ∧ isN (s 8) 99 ∧ 1 ≤ nn (s 8) ∧ isN (s 9) 99 ∧ isN (s 10) 999
def RkX (s : RW) : Prop := isN (s 1) 5 ∧ isN (s 2) 12 ∧ isN (s 3) 5 ∧ isN (s 4) 20 ∧ (∀ m, m < nn (s 2) → isN (mf s m 0) 4 ∧ pN s m < nn (s 1)) ∧ (∀ p, p < nn (s 1) → s (44 + p) = -1 ∨ (isN (s (44 + p)) 4 ∧ nn (s (44 + p)) < nn (s 3))) ∧ (∀ a b, a < nn (s 2) → b < nn (s 2) → par s a b = par s b a)
theorem RkL.of (h1 : RkV s) (h2 : RkN s) (h3 : RkX s) : RkL s := ⟨h1.1, h3.1, h3.2.1, h3.2.2.1, h3.2.2.2.1, h2.1, h2.2.1, h2.2.2.1, h2.2.2.2.1, h2.2.2.2.2.1, h2.2.2.2.2.2, h3.2.2.2.2.1, h3.2.2.2.2.2.1, h1.2, h3.2.2.2.2.2.2⟩
def Pm (s : RW) (m : Nat) : Prop := (isN (mf s m 1) 7 ∧ vN s m < nn (s 0)) ∧ mf s m 2 = -(nI 1) ∧ mf s m 3 = -(nI 1) ∧ mf s m 4 = 0 ∧ (mf s m 5 = 0 ∨ mf s m 5 = nI 1)
def PzV (s : RW) : Prop := (∀ v, v < 8 → nn (s 0) ≤ v → s (36 + v) = 0) ∧ (∀ v i, v < nn (s 0) → nn (s 0) ≤ i → bt (s (36 + v)) i = false)
def PzX (s : RW) : Prop := (∀ p, p < 5 → nn (s 1) ≤ p → s (44 + p) = -1) ∧ (∀ m, m < 12 → nn (s 2) ≤ m → mf s m 4 = 0 ∧ mf s m 6 = 0) ∧ (∀ m i, m < nn (s 2) → nn (s 2) ≤ i → bt (mf s m 6) i = false)
def PR (s : RW) : Prop := RkV s ∧ RkN s ∧ RkX s ∧ (isN (s 5) 9 ∧ s 11 = 0 ∧ s 12 = 0 ∧ s 19 = 0) ∧ (∀ m, m < nn (s 2) → Pm s m) ∧ PzV s ∧ PzX s
theorem PR.v (P : PR s) : RkV s := P.1
theorem PR.n (P : PR s) : RkN s := P.2.1
theorem PR.x (P : PR s) : RkX s := P.2.2.1
theorem PR.c (P : PR s) : isN (s 5) 9 ∧ s 11 = 0 ∧ s 12 = 0 ∧ s 19 = 0 := P.2.2.2.1
theorem PR.m (P : PR s) : ∀ m, m < nn (s 2) → Pm s m := P.2.2.2.2.1
theorem PR.zv (P : PR s) : PzV s := P.2.2.2.2.2.1
theorem PR.zx (P : PR s) : PzX s := P.2.2.2.2.2.2
theorem nn_0 : nn 0 = 0 := by decide
theorem isN_0 {n : Nat} : isN 0 n := ⟨by decide, by rw [nn_0]; omega⟩
theorem Pm.up {m : Nat} (P : Pm s m) : isD s m = false := isD_m1 P.2.1
theorem PR.rk (P : PR s) : Rk 0 0 s := by
  refine ⟨RkL.of P.v P.n P.x, ⟨by rw [P.c.2.1]; exact isN_0, fun m hm => ?_⟩, RkT.none (n := 0) P.c.1 P.c.2.2.1 (Or.inl rfl), by rw [P.c.2.2.2]; exact isN_0⟩
  have M := P.m m hm
  have d := M.up
  refine ⟨M.1, fun z => ?_, fun _ => by rw [M.2.2.1, m1_eq], fun z => ?_, by rw [M.2.2.2.1]; exact isN_0, M.2.2.2.2⟩
  · rw [d] at z; cases z
  · rw [d] at z; cases z
theorem isN.sc {x : Int32} {n : Nat} (h : isN x n) (hn : n < 2 ^ 30) : x + nI 1 = nI (nn x + 1) ∧ nn (x + nI 1) = nn x + 1 := by
  have e : x + nI 1 = nI (nn x + 1) := by
    have h1 := h.1
    have : x + nI 1 = nI (nn x) + nI 1 := by rw [← h1]
    rw [this, nI_add]
  rw [e]
  have := h.2
  exact ⟨rfl, nn_nI (by omega)⟩
theorem mfx (e : ∀ i, 49 ≤ i → i < 133 → t i = s i) {m w : Nat} (hm : m < 12) (hw : w < 7) : mf t m w = mf s m w := e _ (by omega) (by omega)
theorem RkX.congr (e1 : ∀ i, 1 ≤ i → i ≤ 4 → t i = s i) (e2 : ∀ i, 44 ≤ i → i < 133 → t i = s i) (X : RkX s) : RkX t := by
  obtain ⟨x1, x2, x3, x4, x5, x6, x7⟩ := X
  have h5 := x1.2
  have h12 := x2.2
  have em : ∀ m w, m < 12 → w < 7 → mf t m w = mf s m w := fun m w hm hw => e2 _ (by omega) (by omega)
  refine ⟨?_, ?_, ?_, ?_, ?_, ?_, ?_⟩
  · rw [e1 1 (by omega) (by omega)]; exact x1
  · rw [e1 2 (by omega) (by omega)]; exact x2
  · rw [e1 3 (by omega) (by omega)]; exact x3
  · rw [e1 4 (by omega) (by omega)]; exact x4
  · rw [e1 2 (by omega) (by omega), e1 1 (by omega) (by omega)]
    intro m hm
    unfold pN
    rw [em m 0 (by omega) (by omega)]; exact x5 m hm
  · rw [e1 1 (by omega) (by omega), e1 3 (by omega) (by omega)]
    intro p hp
    rw [e2 (44 + p) (by omega) (by omega)]; exact x6 p hp
  · rw [e1 2 (by omega) (by omega)]
    intro a b ha hb
    unfold par
    rw [em a 0 (by omega) (by omega), em b 0 (by omega) (by omega), em a 6 (by omega) (by omega), em b 6 (by omega) (by omega)]
    exact x7 a b ha hb
theorem RkN.congr (e : ∀ i, 6 ≤ i → i ≤ 10 → t i = s i) (X : RkN s) : RkN t := by
  unfold RkN
  rw [e 6 (by omega) (by omega), e 7 (by omega) (by omega), e 8 (by omega) (by omega), e 9 (by omega) (by omega), e 10 (by omega) (by omega)]
  exact X
theorem RkV.congr (e0 : t 0 = s 0) (e : ∀ i, 36 ≤ i → i < 44 → t i = s i) (X : RkV s) : RkV t := by
  have h := X.1.2
  refine ⟨by rw [e0]; exact X.1, ?_⟩
  rw [e0]
  intro a b ha hb
  unfold tlk
  rw [e _ (by omega) (by omega), e _ (by omega) (by omega)]
  exact X.2 a b ha hb
theorem PzV.congr (e0 : t 0 = s 0) (h8 : nn (s 0) ≤ 8) (e : ∀ i, 36 ≤ i → i < 44 → t i = s i) (X : PzV s) : PzV t := by
  unfold PzV
  rw [e0]
  exact ⟨fun v hv h => by rw [e _ (by omega) (by omega)]; exact X.1 v hv h, fun v i hv h => by rw [e _ (by omega) (by omega)]; exact X.2 v i hv h⟩
theorem PzX.congr (e1 : t 1 = s 1) (e2 : t 2 = s 2) (h2 : nn (s 2) ≤ 12) (e : ∀ i, 44 ≤ i → i < 133 → t i = s i) (X : PzX s) : PzX t := by
  have em : ∀ m w, m < 12 → w < 7 → mf t m w = mf s m w := fun m w hm hw => e _ (by omega) (by omega)
  unfold PzX
  rw [e1, e2]
  exact ⟨fun p hp h => by rw [e _ (by omega) (by omega)]; exact X.1 p hp h, fun m hm h => by rw [em m 4 hm (by omega), em m 6 hm (by omega)]; exact X.2.1 m hm h, fun m i hm h => by rw [em m 6 (by omega) (by omega)]; exact X.2.2 m i hm h⟩
theorem Pm.congr {m : Nat} (hm : m < 12) (e0 : nn (s 0) ≤ nn (t 0)) (e : ∀ w, w < 7 → mf t m w = mf s m w) (P : Pm s m) : Pm t m := by
  unfold Pm vN
  rw [e 1 (by omega), e 2 (by omega), e 3 (by omega), e 4 (by omega), e 5 (by omega)]
  exact ⟨⟨P.1.1, Nat.lt_of_lt_of_le P.1.2 e0⟩, P.2⟩
/-! the first row -/
def clrS (s : RW) : RW := fun j => if j < 253 then (if 44 ≤ j ∧ j < 49 then -(nI 1) else if j = 5 ∨ j = 6 ∨ j = 7 then nI 1 else if j = 8 then nI 5 else if j = 9 then nI 10 else if j = 10 then nI 50 else nI 0) else s j
theorem clr_0 {j : Nat} (h : j < 5 ∨ (10 < j ∧ j < 44) ∨ (49 ≤ j ∧ j < 253)) : clrS s j = 0 := by
  unfold clrS
  rw [if_pos (by omega), if_neg (by omega), if_neg (by omega), if_neg (by omega), if_neg (by omega), if_neg (by omega)]; rfl
theorem clr_1 : clrS s 5 = nI 1 ∧ clrS s 6 = nI 1 ∧ clrS s 7 = nI 1 ∧ clrS s 8 = nI 5 ∧ clrS s 9 = nI 10 ∧ clrS s 10 = nI 50 := by
  unfold clrS
  refine ⟨?_, ?_, ?_, ?_, ?_, ?_⟩ <;> rfl
theorem PR.clr : PR (clrS s) := by
  have z : ∀ j, j < 5 → clrS s j = 0 := fun j hj => clr_0 (by omega)
  have n0 : ∀ j, j < 5 → nn (clrS s j) = 0 := fun j hj => by rw [z j hj]; exact nn_0
  have i0 : ∀ j b, j < 5 → isN (clrS s j) b := fun j b hj => by rw [z j hj]; exact isN_0
  obtain ⟨c5, c6, c7, c8, c9, c10⟩ := clr_1 (s := s)
  refine ⟨⟨i0 0 _ (by omega), fun a b ha => ?_⟩, ⟨?_, ?_, ?_, ?_, ?_, ?_⟩, ⟨i0 1 _ (by omega), i0 2 _ (by omega), i0 3 _ (by omega), i0 4 _ (by omega), fun m hm => ?_, fun p hp => ?_, fun a b ha => ?_⟩, ⟨?_, clr_0 (by omega), clr_0 (by omega), clr_0 (by omega)⟩, fun m hm => ?_, ⟨fun v hv _ => clr_0 (by omega), fun v i hv => ?_⟩, ⟨fun p hp _ => ?_, fun m hm _ => ⟨clr_0 (by omega), clr_0 (by omega)⟩, fun m i hm => ?_⟩⟩
  · rw [n0 0 (by omega)] at ha; omega
  · rw [c6]; exact isN_nI (by omega) (by omega)
  · rw [c7]; exact isN_nI (by omega) (by omega)
  · rw [c8]; exact isN_nI (by omega) (by omega)
  · rw [c8, nn_nI (by omega)]; omega
  · rw [c9]; exact isN_nI (by omega) (by omega)
  · rw [c10]; exact isN_nI (by omega) (by omega)
  · rw [n0 2 (by omega)] at hm; omega
  · rw [n0 1 (by omega)] at hp; omega
  · rw [n0 2 (by omega)] at ha; omega
  · rw [c5]; exact isN_nI (by omega) (by omega)
  · rw [n0 2 (by omega)] at hm; omega
  · rw [n0 0 (by omega)] at hv; omega
  · unfold clrS
    rw [if_pos (by omega), if_pos (by omega), m1_eq]
  · rw [n0 2 (by omega)] at hm; omega
/-! settings -/
theorem PR.set {w : Nat} {x : Int32} (P : PR s) (h : (w = 5 ∧ isN x 9) ∨ (w = 6 ∧ isN x 7) ∨ (w = 7 ∧ isN x 12) ∨ (w = 8 ∧ isN x 99 ∧ 1 ≤ nn x) ∨ (w = 9 ∧ isN x 99) ∨ (w = 10 ∧ isN x 999)) : PR (ups s w x) := by
  have hw : 5 ≤ w ∧ w ≤ 10 := by omega
  have u : ∀ i, i ≠ w → (ups s w x) i = s i := fun i hi => ups_n hi
  have h2 := P.x.2.1.2
  refine ⟨P.v.congr (u 0 (by omega)) (fun i _ _ => u i (by omega)), ?_, P.x.congr (fun i _ _ => u i (by omega)) (fun i _ _ => u i (by omega)), ⟨?_, ?_, ?_, ?_⟩, fun m hm => ?_, P.zv.congr (u 0 (by omega)) P.v.1.2 (fun i _ _ => u i (by omega)), P.zx.congr (u 1 (by omega)) (u 2 (by omega)) h2 (fun i _ _ => u i (by omega))⟩
  · obtain ⟨n1, n2, n3, n4, n5, n6⟩ := P.n
    rcases h with ⟨rfl, h⟩ | ⟨rfl, h⟩ | ⟨rfl, h⟩ | ⟨rfl, h⟩ | ⟨rfl, h⟩ | ⟨rfl, h⟩
    · exact P.n.congr (fun i _ _ => u i (by omega))
    · refine ⟨by rw [ups_s]; exact h, ?_, ?_, ?_, ?_, ?_⟩
      · rw [u 7 (by omega)]; exact n2
      · rw [u 8 (by omega)]; exact n3
      · rw [u 8 (by omega)]; exact n4
      · rw [u 9 (by omega)]; exact n5
      · rw [u 10 (by omega)]; exact n6
    · refine ⟨?_, by rw [ups_s]; exact h, ?_, ?_, ?_, ?_⟩
      · rw [u 6 (by omega)]; exact n1
      · rw [u 8 (by omega)]; exact n3
      · rw [u 8 (by omega)]; exact n4
      · rw [u 9 (by omega)]; exact n5
      · rw [u 10 (by omega)]; exact n6
    · refine ⟨?_, ?_, by rw [ups_s]; exact h.1, by rw [ups_s]; exact h.2, ?_, ?_⟩
      · rw [u 6 (by omega)]; exact n1
      · rw [u 7 (by omega)]; exact n2
      · rw [u 9 (by omega)]; exact n5
      · rw [u 10 (by omega)]; exact n6
    · refine ⟨?_, ?_, ?_, ?_, by rw [ups_s]; exact h, ?_⟩
      · rw [u 6 (by omega)]; exact n1
      · rw [u 7 (by omega)]; exact n2
      · rw [u 8 (by omega)]; exact n3
      · rw [u 8 (by omega)]; exact n4
      · rw [u 10 (by omega)]; exact n6
    · refine ⟨?_, ?_, ?_, ?_, ?_, by rw [ups_s]; exact h⟩
      · rw [u 6 (by omega)]; exact n1
      · rw [u 7 (by omega)]; exact n2
      · rw [u 8 (by omega)]; exact n3
      · rw [u 8 (by omega)]; exact n4
      · rw [u 9 (by omega)]; exact n5
  · by_cases c : w = 5
    · subst c
      rw [ups_s]
      rcases h with h | h | h | h | h | h
      · exact h.2
      all_goals exact absurd h.1 (by omega)
    · rw [u 5 (fun e => c e.symm)]; exact P.c.1
  · rw [u 11 (by omega)]; exact P.c.2.1
  · rw [u 12 (by omega)]; exact P.c.2.2.1
  · rw [u 19 (by omega)]; exact P.c.2.2.2
  · rw [u 2 (by omega)] at hm
    exact (P.m m hm).congr (by omega) (by rw [u 0 (by omega)]; exact Nat.le_refl _) (fun w' _ => u _ (by omega))
/-! versions -/
def verS (s : RW) (lo hi : Int32) : RW := ups (ups (ups s (20 + nn (s 0)) lo) (28 + nn (s 0)) hi) 0 (s 0 + nI 1)
theorem ver_o {lo hi : Int32} {i : Nat} (h : i ≠ 0 ∧ i ≠ 20 + nn (s 0) ∧ i ≠ 28 + nn (s 0)) : verS s lo hi i = s i := by
  unfold verS
  rw [ups_n h.1, ups_n h.2.2, ups_n h.2.1]
theorem ver_0 {lo hi : Int32} (P : PR s) : verS s lo hi 0 = nI (nn (s 0) + 1) ∧ nn (verS s lo hi 0) = nn (s 0) + 1 := by
  have h := P.v.1.sc (by omega)
  unfold verS
  rw [ups_s]
  exact h
theorem PR.ver {lo hi : Int32} (P : PR s) (h8 : nn (s 0) < 8) : PR (verS s lo hi) := by
  have h0 := ver_0 (lo := lo) (hi := hi) P
  have h2 := P.x.2.1.2
  have o : ∀ i, i ≠ 0 → (i < 20 ∨ 36 ≤ i) → verS s lo hi i = s i := fun i x1 x2 => ver_o (by omega)
  refine ⟨⟨?_, ?_⟩, P.n.congr (fun i _ _ => o i (by omega) (by omega)), P.x.congr (fun i _ _ => o i (by omega) (by omega)) (fun i _ _ => o i (by omega) (by omega)), ⟨?_, ?_, ?_, ?_⟩, fun m hm => ?_, ⟨fun v hv h => ?_, fun v i hv h => ?_⟩, P.zx.congr (o 1 (by omega) (by omega)) (o 2 (by omega) (by omega)) h2 (fun i _ _ => o i (by omega) (by omega))⟩
  · rw [h0.1]; exact isN_nI (by omega) (by omega)
  · rw [h0.2]
    intro a b ha hb
    have key : ∀ a b, a < nn (s 0) + 1 → b < nn (s 0) + 1 → tlk (verS s lo hi) a b = if a < nn (s 0) ∧ b < nn (s 0) then tlk s a b else decide (a = b) := fun a b ha hb => by
      unfold tlk
      rw [o _ (by omega) (by omega)]
      split
      · rfl
      · rename_i c
        have : bt (s (36 + a)) b = false := by
          by_cases d : a < nn (s 0)
          · exact P.zv.2 a b d (by omega)
          · rw [P.zv.1 a (by omega) (by omega)]; exact b_0 b
        rw [this, Bool.or_false]
    rw [key a b ha hb, key b a hb ha]
    by_cases c : a < nn (s 0) ∧ b < nn (s 0)
    · rw [if_pos c, if_pos ⟨c.2, c.1⟩]; exact P.v.2 a b c.1 c.2
    · rw [if_neg c, if_neg (fun z => c ⟨z.2, z.1⟩)]
      exact decide_eq_decide.mpr ⟨fun z => z.symm, fun z => z.symm⟩
  · rw [o 5 (by omega) (by omega)]; exact P.c.1
  · rw [o 11 (by omega) (by omega)]; exact P.c.2.1
  · rw [o 12 (by omega) (by omega)]; exact P.c.2.2.1
  · rw [o 19 (by omega) (by omega)]; exact P.c.2.2.2
  · rw [o 2 (by omega) (by omega)] at hm
    exact (P.m m hm).congr (by omega) (by rw [h0.2]; omega) (fun w _ => o _ (by omega) (by omega))
  · rw [h0.2] at h
    rw [o _ (by omega) (by omega)]; exact P.zv.1 v hv (by omega)
  · rw [h0.2] at hv h
    rw [o _ (by omega) (by omega)]
    by_cases d : v < nn (s 0)
    · exact P.zv.2 v i d (by omega)
    · rw [P.zv.1 v (by omega) (by omega)]; exact b_0 i
/-! talks -/
def talS (s : RW) (a b : Nat) : RW := ups (ups s (36 + a) (s (36 + a) ||| ((nI 1) <<< (nI b &&& 31)))) (36 + b) (s (36 + b) ||| ((nI 1) <<< (nI a &&& 31)))
theorem tal_o {a b i : Nat} (h : i ≠ 36 + a ∧ i ≠ 36 + b) : talS s a b i = s i := by
  unfold talS
  rw [ups_n h.2, ups_n h.1]
theorem tal_b {x y : Nat} (hab : a ≠ b) (ha : a < 32) (hb : b < 32) (hy : y < 32) : bt (talS s a b (36 + x)) y = (bt (s (36 + x)) y || ((decide (x = a) && decide (y = b)) || (decide (x = b) && decide (y = a)))) := by
  unfold talS
  by_cases c : x = b
  · subst c
    rw [ups_s, b_or, bt_one ha hy, decide_eq_false (p := x = a) (fun e => hab e.symm), decide_eq_true (p := x = x) rfl]
    simp
  · rw [ups_n (by omega)]
    by_cases d : x = a
    · subst d
      rw [ups_s, b_or, bt_one hb hy]
      simp [c]
    · rw [ups_n (by omega)]
      simp [c, d]
theorem PR.tal (P : PR s) (hab : a ≠ b) (ha : a < nn (s 0)) (hb : b < nn (s 0)) : PR (talS s a b) := by
  have h8 := P.v.1.2
  have h2 := P.x.2.1.2
  have o : ∀ i, (i < 36 ∨ 44 ≤ i) → talS s a b i = s i := fun i h => tal_o (by omega)
  refine ⟨⟨?_, ?_⟩, P.n.congr (fun i _ _ => o i (by omega)), P.x.congr (fun i _ _ => o i (by omega)) (fun i _ _ => o i (by omega)), ⟨?_, ?_, ?_, ?_⟩, fun m hm => ?_, ⟨fun v hv h => ?_, fun v i hv h => ?_⟩, P.zx.congr (o 1 (by omega)) (o 2 (by omega)) h2 (fun i _ _ => o i (by omega))⟩
  · rw [o 0 (by omega)]; exact P.v.1
  · rw [o 0 (by omega)]
    intro x y hx hy
    have hs := P.v.2 x y hx hy
    unfold tlk at hs ⊢
    rw [tal_b hab (by omega) (by omega) (by omega), tal_b hab (by omega) (by omega) (by omega)]
    have e1 : decide (y = x) = decide (x = y) := decide_eq_decide.mpr ⟨fun z => z.symm, fun z => z.symm⟩
    rw [e1] at hs ⊢
    have e2 : ((decide (x = a) && decide (y = b)) || (decide (x = b) && decide (y = a))) = ((decide (y = a) && decide (x = b)) || (decide (y = b) && decide (x = a))) := by
      cases decide (x = a) <;> cases decide (x = b) <;> cases decide (y = a) <;> cases decide (y = b) <;> rfl
    rw [e2, ← Bool.or_assoc, hs, Bool.or_assoc]
  · rw [o 5 (by omega)]; exact P.c.1
  · rw [o 11 (by omega)]; exact P.c.2.1
  · rw [o 12 (by omega)]; exact P.c.2.2.1
  · rw [o 19 (by omega)]; exact P.c.2.2.2
  · rw [o 2 (by omega)] at hm
    exact (P.m m hm).congr (by omega) (by rw [o 0 (by omega)]; exact Nat.le_refl _) (fun w _ => o _ (by omega))
  · rw [o 0 (by omega)] at h
    rw [tal_o (by omega)]; exact P.zv.1 v hv h
  · rw [o 0 (by omega)] at hv h
    rcases Nat.lt_or_ge i 32 with hi | hi
    · rw [tal_b hab (by omega) (by omega) hi, P.zv.2 v i hv h, decide_eq_false (show ¬ i = b by omega), decide_eq_false (show ¬ i = a by omega)]
      simp
    · exact b_big hi
/-! places -/
def plaS (s : RW) : RW := ups s 1 (s 1 + nI 1)
theorem PR.pla (P : PR s) (h5 : nn (s 1) < 5) : PR (plaS s) := by
  have h1 := P.x.1.sc (by omega)
  have h2 := P.x.2.1.2
  have e1 : plaS s 1 = nI (nn (s 1) + 1) := by unfold plaS; rw [ups_s]; exact h1.1
  have n1 : nn (plaS s 1) = nn (s 1) + 1 := by rw [e1, nn_nI (by omega)]
  have o : ∀ i, i ≠ 1 → plaS s i = s i := fun i h => ups_n h
  obtain ⟨x1, x2, x3, x4, x5, x6, x7⟩ := P.x
  refine ⟨P.v.congr (o 0 (by omega)) (fun i _ _ => o i (by omega)), P.n.congr (fun i _ _ => o i (by omega)), ⟨?_, ?_, ?_, ?_, fun m hm => ?_, fun p hp => ?_, fun a b ha hb => ?_⟩, ⟨?_, ?_, ?_, ?_⟩, fun m hm => ?_, P.zv.congr (o 0 (by omega)) P.v.1.2 (fun i _ _ => o i (by omega)), ⟨fun p hp h => ?_, fun m hm h => ?_, fun m i hm h => ?_⟩⟩
  · rw [e1]; exact isN_nI (by omega) (by omega)
  · rw [o 2 (by omega)]; exact x2
  · rw [o 3 (by omega)]; exact x3
  · rw [o 4 (by omega)]; exact x4
  · rw [o 2 (by omega)] at hm
    unfold pN
    rw [show mf (plaS s) m 0 = mf s m 0 from o _ (by omega), n1]
    have := x5 m hm
    exact ⟨this.1, by have := this.2; unfold pN at this; omega⟩
  · rw [n1] at hp
    rw [o (44 + p) (by omega), o 3 (by omega)]
    by_cases c : p < nn (s 1)
    · exact x6 p c
    · exact Or.inl (P.zx.1 p (by omega) (by omega))
  · rw [o 2 (by omega)] at ha hb
    have em : ∀ m w, mf (plaS s) m w = mf s m w := fun m w => o _ (by omega)
    unfold par
    rw [em, em, em, em]
    exact x7 a b ha hb
  · rw [o 5 (by omega)]; exact P.c.1
  · rw [o 11 (by omega)]; exact P.c.2.1
  · rw [o 12 (by omega)]; exact P.c.2.2.1
  · rw [o 19 (by omega)]; exact P.c.2.2.2
  · rw [o 2 (by omega)] at hm
    exact (P.m m hm).congr (by omega) (by rw [o 0 (by omega)]; exact Nat.le_refl _) (fun w _ => o _ (by omega))
  · rw [n1] at h
    rw [o (44 + p) (by omega)]; exact P.zx.1 p hp (by omega)
  · rw [o 2 (by omega)] at h
    rw [show mf (plaS s) m 4 = mf s m 4 from o _ (by omega), show mf (plaS s) m 6 = mf s m 6 from o _ (by omega)]
    exact P.zx.2.1 m hm h
  · rw [o 2 (by omega)] at hm h
    rw [show mf (plaS s) m 6 = mf s m 6 from o _ (by omega)]
    exact P.zx.2.2 m i hm h
/-! members -/
def memS (s : RW) (p v : Nat) (hb : Bool) : RW := ups (lyS (lyS (lyS (lyS (lyS s (nn (s 2)) 0 (nI p)) (nn (s 2)) 1 (nI v)) (nn (s 2)) 2 (-(nI 1))) (nn (s 2)) 3 (-(nI 1))) (nn (s 2)) 5 (b2i hb)) 2 (s 2 + nI 1)
theorem mem_lo {p v i : Nat} {hb : Bool} (h : i < 49) (h2 : i ≠ 2) : memS s p v hb i = s i := by
  unfold memS
  rw [ups_n h2, lyS_lo h, lyS_lo h, lyS_lo h, lyS_lo h, lyS_lo h]
theorem mem_o {p v o w : Nat} {hb : Bool} (ho : o ≠ nn (s 2)) (hw : w < 7) : mf (memS s p v hb) o w = mf s o w := by
  unfold memS
  rw [mf_up (by omega), mf_ly (by omega) hw (by omega), mf_ly (by omega) hw (by omega), mf_ly (by omega) hw (by omega), mf_ly (by omega) hw (by omega), mf_ly (by omega) hw (by omega)]
theorem mem_n {p v : Nat} {hb : Bool} : mf (memS s p v hb) (nn (s 2)) 0 = nI p ∧ mf (memS s p v hb) (nn (s 2)) 1 = nI v ∧ mf (memS s p v hb) (nn (s 2)) 2 = -(nI 1) ∧ mf (memS s p v hb) (nn (s 2)) 3 = -(nI 1) ∧ mf (memS s p v hb) (nn (s 2)) 5 = b2i hb ∧ mf (memS s p v hb) (nn (s 2)) 4 = mf s (nn (s 2)) 4 ∧ mf (memS s p v hb) (nn (s 2)) 6 = mf s (nn (s 2)) 6 := by
  unfold memS
  refine ⟨?_, ?_, ?_, ?_, ?_, ?_, ?_⟩
  · rw [mf_up (by omega), mf_ly (by omega) (by omega) (by omega), mf_ly (by omega) (by omega) (by omega), mf_ly (by omega) (by omega) (by omega), mf_ly (by omega) (by omega) (by omega), mf_lys]
  · rw [mf_up (by omega), mf_ly (by omega) (by omega) (by omega), mf_ly (by omega) (by omega) (by omega), mf_ly (by omega) (by omega) (by omega), mf_lys]
  · rw [mf_up (by omega), mf_ly (by omega) (by omega) (by omega), mf_ly (by omega) (by omega) (by omega), mf_lys]
  · rw [mf_up (by omega), mf_ly (by omega) (by omega) (by omega), mf_lys]
  · rw [mf_up (by omega), mf_lys]
  · rw [mf_up (by omega), mf_ly (by omega) (by omega) (by omega), mf_ly (by omega) (by omega) (by omega), mf_ly (by omega) (by omega) (by omega), mf_ly (by omega) (by omega) (by omega), mf_ly (by omega) (by omega) (by omega)]
  · rw [mf_up (by omega), mf_ly (by omega) (by omega) (by omega), mf_ly (by omega) (by omega) (by omega), mf_ly (by omega) (by omega) (by omega), mf_ly (by omega) (by omega) (by omega), mf_ly (by omega) (by omega) (by omega)]
theorem mem_2 {p v : Nat} {hb : Bool} (P : PR s) : memS s p v hb 2 = nI (nn (s 2) + 1) ∧ nn (memS s p v hb 2) = nn (s 2) + 1 := by
  have h := P.x.2.1.sc (by omega)
  unfold memS
  rw [ups_s]
  exact h
theorem mem_par {p v x y : Nat} {hb : Bool} (P : PR s) (hm : nn (s 2) < 12) (hx : x < nn (s 2) + 1) (hy : y < nn (s 2) + 1) : par (memS s p v hb) x y = if x < nn (s 2) ∧ y < nn (s 2) then par s x y else (!decide (x = y) && decide (mf (memS s p v hb) x 0 = mf (memS s p v hb) y 0)) := by
  have hn := mem_n (s := s) (p := p) (v := v) (hb := hb)
  by_cases c : x < nn (s 2) ∧ y < nn (s 2)
  · rw [if_pos c]
    unfold par
    rw [mem_o (by omega) (by omega), mem_o (by omega) (by omega), mem_o (by omega) (by omega)]
  · rw [if_neg c]
    have z : bt (mf (memS s p v hb) x 6) y = false := by
      by_cases d : x < nn (s 2)
      · rw [mem_o (by omega) (by omega)]
        exact P.zx.2.2 x y d (by omega)
      · have : x = nn (s 2) := by omega
        rw [this, hn.2.2.2.2.2.2, (P.zx.2.1 _ hm (Nat.le_refl _)).2]
        exact b_0 y
    unfold par
    rw [z, Bool.or_false]
theorem PR.mem {p v : Nat} {hb : Bool} (P : PR s) (hm : nn (s 2) < 12) (hp : p < nn (s 1)) (hv : v < nn (s 0)) : PR (memS s p v hb) := by
  have h5 := P.x.1.2
  have h8 := P.v.1.2
  have e2 := mem_2 (p := p) (v := v) (hb := hb) P
  have hn := mem_n (s := s) (p := p) (v := v) (hb := hb)
  have o : ∀ i, i < 49 → i ≠ 2 → memS s p v hb i = s i := fun i x1 x2 => mem_lo x1 x2
  obtain ⟨x1, x2, x3, x4, x5, x6, x7⟩ := P.x
  refine ⟨P.v.congr (o 0 (by omega) (by omega)) (fun i _ _ => o i (by omega) (by omega)), P.n.congr (fun i _ _ => o i (by omega) (by omega)), ⟨?_, ?_, ?_, ?_, fun m hm' => ?_, fun p' hp' => ?_, fun a b ha hb' => ?_⟩, ⟨?_, ?_, ?_, ?_⟩, fun m hm' => ?_, P.zv.congr (o 0 (by omega) (by omega)) P.v.1.2 (fun i _ _ => o i (by omega) (by omega)), ⟨fun p' hp' h => ?_, fun m hm' h => ?_, fun m i hm' h => ?_⟩⟩
  · rw [o 1 (by omega) (by omega)]; exact x1
  · rw [e2.1]; exact isN_nI (by omega) (by omega)
  · rw [o 3 (by omega) (by omega)]; exact x3
  · rw [o 4 (by omega) (by omega)]; exact x4
  · rw [e2.2] at hm'
    rw [o 1 (by omega) (by omega)]
    unfold pN
    by_cases c : m = nn (s 2)
    · subst c
      rw [hn.1, nn_nI (n := p) (by omega)]
      exact ⟨isN_nI (by omega) (by omega), hp⟩
    · rw [mem_o c (by omega)]
      exact x5 m (by omega)
  · rw [o 1 (by omega) (by omega)] at hp'
    rw [o (44 + p') (by omega) (by omega), o 3 (by omega) (by omega)]
    exact x6 p' hp'
  · rw [e2.2] at ha hb'
    rw [mem_par P hm ha hb', mem_par P hm hb' ha]
    by_cases c : a < nn (s 2) ∧ b < nn (s 2)
    · rw [if_pos c, if_pos ⟨c.2, c.1⟩]; exact x7 a b c.1 c.2
    · rw [if_neg c, if_neg (fun z => c ⟨z.2, z.1⟩)]
      have q1 : decide (b = a) = decide (a = b) := decide_eq_decide.mpr ⟨fun z => z.symm, fun z => z.symm⟩
      have q2 : decide (mf (memS s p v hb) b 0 = mf (memS s p v hb) a 0) = decide (mf (memS s p v hb) a 0 = mf (memS s p v hb) b 0) := decide_eq_decide.mpr ⟨fun z => z.symm, fun z => z.symm⟩
      rw [q1, q2]
  · rw [o 5 (by omega) (by omega)]; exact P.c.1
  · rw [o 11 (by omega) (by omega)]; exact P.c.2.1
  · rw [o 12 (by omega) (by omega)]; exact P.c.2.2.1
  · rw [o 19 (by omega) (by omega)]; exact P.c.2.2.2
  · rw [e2.2] at hm'
    by_cases c : m = nn (s 2)
    · subst c
      unfold Pm vN
      rw [hn.2.1, hn.2.2.1, hn.2.2.2.1, hn.2.2.2.2.1, hn.2.2.2.2.2.1, (P.zx.2.1 _ hm (Nat.le_refl _)).1, nn_nI (n := v) (by omega), o 0 (by omega) (by omega)]
      exact ⟨⟨isN_nI (by omega) (by omega), hv⟩, rfl, rfl, rfl, b2i_c hb⟩
    · exact (P.m m (by omega)).congr (by omega) (by rw [o 0 (by omega) (by omega)]; exact Nat.le_refl _) (fun w hw => mem_o c hw)
  · rw [o 1 (by omega) (by omega)] at h
    rw [o (44 + p') (by omega) (by omega)]; exact P.zx.1 p' hp' h
  · rw [e2.2] at h
    rw [mem_o (by omega) (by omega), mem_o (by omega) (by omega)]
    exact P.zx.2.1 m hm' (by omega)
  · rw [e2.2] at hm' h
    by_cases c : m = nn (s 2)
    · subst c
      rw [hn.2.2.2.2.2.2, (P.zx.2.1 _ hm (Nat.le_refl _)).2]
      exact b_0 i
    · rw [mem_o c (by omega)]
      exact P.zx.2.2 m i (by omega) (by omega)
end

