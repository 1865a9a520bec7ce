/-! ===== new T[n][m]: the state behind i rows, in closed form ===== -/
section MG1
/-- the outer array, its first i places filled with the rows that lie behind it -/
def mg_out (c : ClassId) (N h0 i : Nat) : Cell := arrV c N (fun j => va_rf (if j < i then some (h0 + 1 + j) else none))
theorem mg_out_size (c : ClassId) (N h0 i : Nat) : (mg_out c N h0 i).slots.size = N := arrV_size ..
theorem mg_out_0 (c : ClassId) (N h0 : Nat) : ({ cls := c, slots := Array.replicate N .null, vm := .none } : Cell) = mg_out c N h0 0 := by
  rw [arrV_new]
  unfold mg_out
  exact congrArg (arrV c N) (funext fun j => by rw [if_neg (Nat.not_lt_zero j)]; rfl)
theorem mg_out_s (c : ClassId) (N h0 i : Nat) : (mg_out c N h0 i).setSlot i (.ref (h0 + 1 + i)) = mg_out c N h0 (i + 1) := by
  unfold mg_out
  rw [arrV_store]
  refine congrArg (arrV c N) (funext fun j => ?_)
  unfold updV
  rcases Nat.lt_trichotomy j i with h | h | h
  · rw [if_neg (Nat.ne_of_lt h)]
    show va_rf (if j < i then some (h0 + 1 + j) else none) = _
    rw [if_pos h, if_pos (Nat.lt_succ_of_lt h)]
  · subst h
    rw [if_pos rfl, if_pos (Nat.lt_succ_self j)]
    rfl
  · rw [if_neg (Nat.ne_of_gt h)]
    show va_rf (if j < i then some (h0 + 1 + j) else none) = _
    rw [if_neg (Nat.lt_asymm h), if_neg (by omega)]
/-- a state with the outer array and i rows at the heap's end -/
def mg_st (U : State) (c : ClassId) (N K : Nat) (row : Cell) (i : Nat) : State := { U with heap := U.heap.push (mg_out c N U.heap.size i) ++ Array.replicate i row, slotsUsed := U.slotsUsed + N + i * K }
variable {U : State} {c : ClassId} {N K : Nat} {row : Cell}
theorem mg_st_size (i : Nat) : (mg_st U c N K row i).heap.size = U.heap.size + 1 + i := by
  show (U.heap.push (mg_out c N U.heap.size i) ++ Array.replicate i row).size = _
  rw [Array.size_append, Array.size_push, Array.size_replicate]
theorem mg_st_out (i : Nat) : (mg_st U c N K row i).heap[U.heap.size]? = some (mg_out c N U.heap.size i) := by
  show (U.heap.push (mg_out c N U.heap.size i) ++ Array.replicate i row)[U.heap.size]? = _
  rw [Array.getElem?_append_left (by rw [Array.size_push]; exact Nat.lt_succ_self _), Array.getElem?_push_size]
theorem mg_st_old {i a : Nat} (h : a < U.heap.size) : (mg_st U c N K row i).heap[a]? = U.heap[a]? := by
  show (U.heap.push (mg_out c N U.heap.size i) ++ Array.replicate i row)[a]? = _
  rw [Array.getElem?_append_left (by rw [Array.size_push]; omega), Array.getElem?_push, if_neg (Nat.ne_of_lt h)]
theorem mg_st_row {i j : Nat} (h : j < i) : (mg_st U c N K row i).heap[U.heap.size + 1 + j]? = some row := by
  show (U.heap.push (mg_out c N U.heap.size i) ++ Array.replicate i row)[U.heap.size + 1 + j]? = _
  rw [Array.getElem?_append_right (by rw [Array.size_push]; omega), Array.size_push, Nat.add_sub_cancel_left, Array.getElem?_replicate, if_pos h]
theorem mg_st_0 : U.pushCell (mg_out c N U.heap.size 0) = mg_st U c N K row 0 := by
  unfold mg_st State.pushCell
  rw [mg_out_size, Nat.zero_mul, Nat.add_zero, Array.replicate_zero, Array.append_empty]
theorem mg_st_s (hK : row.slots.size = K) (i : Nat) : ((mg_st U c N K row i).pushCell row).setCell U.heap.size (mg_out c N U.heap.size (i + 1)) = mg_st U c N K row (i + 1) := by
  have e1 : (mg_st U c N K row i).slotsUsed + row.slots.size = U.slotsUsed + N + (i + 1) * K := by
    show U.slotsUsed + N + i * K + row.slots.size = _
    rw [hK, Nat.succ_mul, Nat.add_assoc]
  have e2 : ((mg_st U c N K row i).heap.push row).setIfInBounds U.heap.size (mg_out c N U.heap.size (i + 1)) = U.heap.push (mg_out c N U.heap.size (i + 1)) ++ Array.replicate (i + 1) row := by
    apply Array.ext_getElem?
    intro a
    rw [Array.getElem?_setIfInBounds, Array.size_push, mg_st_size]
    rcases Nat.lt_trichotomy a U.heap.size with h | h | h
    · rw [if_neg (Nat.ne_of_gt h), Array.getElem?_push, mg_st_size, if_neg (by omega), mg_st_old h]
      exact (mg_st_old (U := U) (c := c) (N := N) (K := K) (row := row) (i := i + 1) h).symm
    · subst h
      rw [if_pos rfl, if_pos (by omega)]
      exact (mg_st_out (U := U) (c := c) (N := N) (K := K) (row := row) (i + 1)).symm
    · obtain ⟨j, rfl⟩ : ∃ j, a = U.heap.size + 1 + j := ⟨a - (U.heap.size + 1), by omega⟩
      rw [if_neg (by omega), Array.getElem?_push, mg_st_size]
      rcases Nat.lt_trichotomy j i with g | g | g
      · rw [if_neg (by omega), mg_st_row g]
        exact (mg_st_row (U := U) (c := c) (N := N) (K := K) (row := row) (i := i + 1) (Nat.lt_succ_of_lt g)).symm
      · subst g
        rw [if_pos rfl]
        exact (mg_st_row (U := U) (c := c) (N := N) (K := K) (row := row) (i := j + 1) (Nat.lt_succ_self j)).symm
      · rw [if_neg (by omega), Array.getElem?_eq_none (by rw [mg_st_size]; omega)]
        exact (Array.getElem?_eq_none (by rw [Array.size_append, Array.size_push, Array.size_replicate]; omega)).symm
  unfold State.setCell State.pushCell
  rw [show (mg_st U c N K row (i + 1)) = { mg_st U c N K row i with heap := U.heap.push (mg_out c N U.heap.size (i + 1)) ++ Array.replicate (i + 1) row, slotsUsed := U.slotsUsed + N + (i + 1) * K } from rfl, ← e1, ← e2]
end MG1
