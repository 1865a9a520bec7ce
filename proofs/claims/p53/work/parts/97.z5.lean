/-! ===== the world when the law begins its loop ===== -/
def bW_0 : BW := [
  .inl (8, [.ref 1, .ref 3, .ref 25, .ref 32, .ref 54, .int (cI 0), .ref 76, .ref 120, .ref 121, .ref 129, .int (cI 0)]),
  .inl (7, [.ref 2, .int (cI 0), .int (cI 0), .int (cI (-1)), .int (cI 0), .int (cI 0), .long (lN 0), .int (cI 0), .int (cI 0)]),
  .inr (1, 900, [], []),
  .inl (6, [.ref 4, .int (cI 0), .int (cI 1), .ref 19, .ref 20, .ref 21, .ref 22, .int (cI 0), .int (cI 0), .int (cI 0), .int (cI (-1)), .int (cI (-1)), .int (cI 0), .int (cI (-1)), .int (cI (-1)), .ref 23]),
  .inl (3, [.ref 5, .ref 7, .ref 8, .ref 9, .ref 10, .ref 12, .ref 13, .ref 14, .ref 15, .ref 17, .ref 18, .int (cI 0), .int (cI 0), .int (cI 1), .int (cI 1), .int (cI 5), .int (cI 10), .int (cI 50)]),
  .inl (4, [.ref 6, .int (cI 0)]),
  .inr (2, 8, [], []),
  .inr (0, 8, [], []),
  .inr (0, 8, [], []),
  .inr (0, 8, [], []),
  .inl (4, [.ref 11, .int (cI 0)]),
  .inr (2, 5, [], []),
  .inr (0, 5, [], []),
  .inr (0, 5, [], []),
  .inr (0, 5, [], []),
  .inl (4, [.ref 16, .int (cI 0)]),
  .inr (2, 12, [], []),
  .inr (0, 12, [], []),
  .inr (0, 12, [], []),
  .inr (0, 12, [], []),
  .inr (0, 12, [], []),
  .inr (0, 12, [], []),
  .inr (0, 12, [], []),
  .inl (1, [.ref 24, .int (cI 0), .int (cI 0)]),
  .inr (0, 120, [], [])]
def bW_1 : BW := [
  .inl (6, [.ref 4, .int (cI 0), .int (cI 1), .ref 26, .ref 27, .ref 28, .ref 29, .int (cI 0), .int (cI 0), .int (cI 0), .int (cI (-1)), .int (cI (-1)), .int (cI 0), .int (cI (-1)), .int (cI (-1)), .ref 30]),
  .inr (0, 12, [], []),
  .inr (0, 12, [], []),
  .inr (0, 12, [], []),
  .inr (0, 12, [], []),
  .inl (1, [.ref 31, .int (cI 0), .int (cI 0)]),
  .inr (0, 120, [], []),
  .inl (6, [.ref 33, .int (cI 0), .int (cI 1), .ref 48, .ref 49, .ref 50, .ref 51, .int (cI 0), .int (cI 0), .int (cI 0), .int (cI (-1)), .int (cI (-1)), .int (cI 0), .int (cI (-1)), .int (cI (-1)), .ref 52]),
  .inl (3, [.ref 34, .ref 36, .ref 37, .ref 38, .ref 39, .ref 41, .ref 42, .ref 43, .ref 44, .ref 46, .ref 47, .int (cI 0), .int (cI 0), .int (cI 1), .int (cI 1), .int (cI 5), .int (cI 10), .int (cI 50)]),
  .inl (4, [.ref 35, .int (cI 0)]),
  .inr (2, 8, [], []),
  .inr (0, 8, [], []),
  .inr (0, 8, [], []),
  .inr (0, 8, [], []),
  .inl (4, [.ref 40, .int (cI 0)]),
  .inr (2, 5, [], []),
  .inr (0, 5, [], []),
  .inr (0, 5, [], []),
  .inr (0, 5, [], []),
  .inl (4, [.ref 45, .int (cI 0)]),
  .inr (2, 12, [], []),
  .inr (0, 12, [], []),
  .inr (0, 12, [], []),
  .inr (0, 12, [], []),
  .inr (0, 12, [], [])]
def bW_2 : BW := [
  .inr (0, 12, [], []),
  .inr (0, 12, [], []),
  .inl (1, [.ref 53, .int (cI 0), .int (cI 0)]),
  .inr (0, 120, [], []),
  .inl (6, [.ref 55, .int (cI 0), .int (cI 1), .ref 70, .ref 71, .ref 72, .ref 73, .int (cI 0), .int (cI 0), .int (cI 0), .int (cI (-1)), .int (cI (-1)), .int (cI 0), .int (cI (-1)), .int (cI (-1)), .ref 74]),
  .inl (3, [.ref 56, .ref 58, .ref 59, .ref 60, .ref 61, .ref 63, .ref 64, .ref 65, .ref 66, .ref 68, .ref 69, .int (cI 0), .int (cI 0), .int (cI 1), .int (cI 1), .int (cI 5), .int (cI 10), .int (cI 50)]),
  .inl (4, [.ref 57, .int (cI 0)]),
  .inr (2, 8, [], []),
  .inr (0, 8, [], []),
  .inr (0, 8, [], []),
  .inr (0, 8, [], []),
  .inl (4, [.ref 62, .int (cI 0)]),
  .inr (2, 5, [], []),
  .inr (0, 5, [], []),
  .inr (0, 5, [], []),
  .inr (0, 5, [], []),
  .inl (4, [.ref 67, .int (cI 0)]),
  .inr (2, 12, [], []),
  .inr (0, 12, [], []),
  .inr (0, 12, [], []),
  .inr (0, 12, [], []),
  .inr (0, 12, [], []),
  .inr (0, 12, [], []),
  .inr (0, 12, [], []),
  .inl (1, [.ref 75, .int (cI 0), .int (cI 0)])]
def bW_3 : BW := [
  .inr (0, 120, [], []),
  .inl (2, [.ref 77, .int (cI 0), .int (cI 0)]),
  .inr (4, 6, [], [(5, 113), (4, 106), (3, 99), (2, 92), (1, 85), (0, 78)]),
  .inl (6, [.ref 4, .int (cI 0), .int (cI 1), .ref 79, .ref 80, .ref 81, .ref 82, .int (cI 0), .int (cI 0), .int (cI 0), .int (cI (-1)), .int (cI (-1)), .int (cI 0), .int (cI (-1)), .int (cI (-1)), .ref 83]),
  .inr (0, 12, [], []),
  .inr (0, 12, [], []),
  .inr (0, 12, [], []),
  .inr (0, 12, [], []),
  .inl (1, [.ref 84, .int (cI 0), .int (cI 0)]),
  .inr (0, 120, [], []),
  .inl (6, [.ref 4, .int (cI 0), .int (cI 1), .ref 86, .ref 87, .ref 88, .ref 89, .int (cI 0), .int (cI 0), .int (cI 0), .int (cI (-1)), .int (cI (-1)), .int (cI 0), .int (cI (-1)), .int (cI (-1)), .ref 90]),
  .inr (0, 12, [], []),
  .inr (0, 12, [], []),
  .inr (0, 12, [], []),
  .inr (0, 12, [], []),
  .inl (1, [.ref 91, .int (cI 0), .int (cI 0)]),
  .inr (0, 120, [], []),
  .inl (6, [.ref 4, .int (cI 0), .int (cI 1), .ref 93, .ref 94, .ref 95, .ref 96, .int (cI 0), .int (cI 0), .int (cI 0), .int (cI (-1)), .int (cI (-1)), .int (cI 0), .int (cI (-1)), .int (cI (-1)), .ref 97]),
  .inr (0, 12, [], []),
  .inr (0, 12, [], []),
  .inr (0, 12, [], []),
  .inr (0, 12, [], []),
  .inl (1, [.ref 98, .int (cI 0), .int (cI 0)]),
  .inr (0, 120, [], []),
  .inl (6, [.ref 4, .int (cI 0), .int (cI 1), .ref 100, .ref 101, .ref 102, .ref 103, .int (cI 0), .int (cI 0), .int (cI 0), .int (cI (-1)), .int (cI (-1)), .int (cI 0), .int (cI (-1)), .int (cI (-1)), .ref 104])]
def bW_4 : BW := [
  .inr (0, 12, [], []),
  .inr (0, 12, [], []),
  .inr (0, 12, [], []),
  .inr (0, 12, [], []),
  .inl (1, [.ref 105, .int (cI 0), .int (cI 0)]),
  .inr (0, 120, [], []),
  .inl (6, [.ref 4, .int (cI 0), .int (cI 1), .ref 107, .ref 108, .ref 109, .ref 110, .int (cI 0), .int (cI 0), .int (cI 0), .int (cI (-1)), .int (cI (-1)), .int (cI 0), .int (cI (-1)), .int (cI (-1)), .ref 111]),
  .inr (0, 12, [], []),
  .inr (0, 12, [], []),
  .inr (0, 12, [], []),
  .inr (0, 12, [], []),
  .inl (1, [.ref 112, .int (cI 0), .int (cI 0)]),
  .inr (0, 120, [], []),
  .inl (6, [.ref 4, .int (cI 0), .int (cI 1), .ref 114, .ref 115, .ref 116, .ref 117, .int (cI 0), .int (cI 0), .int (cI 0), .int (cI (-1)), .int (cI (-1)), .int (cI 0), .int (cI (-1)), .int (cI (-1)), .ref 118]),
  .inr (0, 12, [], []),
  .inr (0, 12, [], []),
  .inr (0, 12, [], []),
  .inr (0, 12, [], []),
  .inl (1, [.ref 119, .int (cI 0), .int (cI 0)]),
  .inr (0, 120, [], []),
  .inl (0, [.ref 1, .ref 32, .ref 33, .int (cI 0)]),
  .inl (5, [.ref 122, .ref 123, .ref 124, .ref 125, .ref 126, .int (cI 0), .ref 127, .ref 128, .int (cI 0), .int (cI 0)]),
  .inr (5, 30, [], []),
  .inr (0, 30, [], []),
  .inr (0, 30, [], [])]
def bW_5 : BW := [
  .inr (0, 30, [], []),
  .inr (0, 30, [], []),
  .inr (0, 2, [], []),
  .inr (0, 2, [], []),
  .inr (1, 336, [], [])]
def bW1 : BW := bW_0 ++ (bW_1 ++ (bW_2 ++ (bW_3 ++ (bW_4 ++ (bW_5)))))
def bL1 : Lc := [some (.ref 0)]
def beqC : BC → BC → Bool
  | .inl a, .inl b => decide (a = b)
  | .inr a, .inr b => decide (a = b)
  | _, _ => false
theorem beqC_eq {a b : BC} (h : beqC a b = true) : a = b := by
  unfold beqC at h
  split at h
  · rw [of_decide_eq_true h]
  · rw [of_decide_eq_true h]
  · cases h
def beqW : BW → BW → Bool
  | [], [] => true
  | a :: r, b :: q => beqC a b && beqW r q
  | _, _ => false
theorem beqW_eq : ∀ {a b : BW}, beqW a b = true → a = b
  | [], [], _ => rfl
  | a :: r, b :: q, h => by
    have h : (beqC a b && beqW r q) = true := h
    rw [Bool.and_eq_true] at h
    rw [beqC_eq h.1, beqW_eq h.2]
  | [], _ :: _, h => by cases h
  | _ :: _, [], h => by cases h
def beqO (o : Option (Nat × Lc × BW)) (c : Nat) (l : Lc) (w : BW) : Bool := match o with
  | some (c', l', w') => decide (c' = c) && (decide (l' = l) && beqW w' w)
  | none => false
theorem beqO_eq {o : Option (Nat × Lc × BW)} {c : Nat} {l : Lc} {w : BW} (h : beqO o c l w = true) : o = some (c, l, w) := by
  unfold beqO at h
  split at h
  · simp only [Bool.and_eq_true, decide_eq_true_eq] at h
    obtain ⟨h1, h2, h3⟩ := h
    rw [h1, h2, beqW_eq h3]
  · cases h
theorem b_run0 : beqO (bex bTc 3000 none 10 0 0 (entL 1 [.ref 0]) [] [.inl (8, dfl 8)]) 711 bL1 bW1 = true := by decide +kernel
theorem b_run : bex bTc 3000 none 10 0 0 (entL 1 [.ref 0]) [] [.inl (8, dfl 8)] = some (711, bL1, bW1) := beqO_eq b_run0
