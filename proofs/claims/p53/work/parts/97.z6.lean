/-! ===== the world at the loop, by the numbers of the pure machine ===== -/
def bPi : List (List Nat) := [[0, 1, 2, 129, 120, 121, 122, 123, 124, 125, 126, 127, 128, 76, 77, 4], [5, 6, 7, 8, 9, 10, 11, 12, 13, 14, 15, 16, 17, 18, 33, 34], [35, 36, 37, 38, 39, 40, 41, 42, 43, 44, 45, 46, 47, 55, 56, 57], [58, 59, 60, 61, 62, 63, 64, 65, 66, 67, 68, 69, 3, 19, 20, 21], [22, 23, 24, 25, 26, 27, 28, 29, 30, 31, 32, 48, 49, 50, 51, 52], [53, 54, 70, 71, 72, 73, 74, 75, 78, 79, 80, 81, 82, 83, 84, 85], [86, 87, 88, 89, 90, 91, 92, 93, 94, 95, 96, 97, 98, 99, 100, 101], [102, 103, 104, 105, 106, 107, 108, 109, 110, 111, 112, 113, 114, 115, 116, 117], [118, 119]]
def bP (a : Nat) : Nat := (bPi.getD (a / 16) []).getD (a % 16) 0
def h0T : List (List (List (Nat × Int32))) := [[[], [(3, cI (-1))], [], [], [], [], [], [], [], [], [], [], [], [], [], [(13, cI 1), (14, cI 1), (15, cI 5), (16, cI 10), (17, cI 50)]],
  [[], [], [], [], [], [], [], [], [], [], [], [], [], [], [(13, cI 1), (14, cI 1), (15, cI 5), (16, cI 10), (17, cI 50)], []],
  [[], [], [], [], [], [], [], [], [], [], [], [], [], [(13, cI 1), (14, cI 1), (15, cI 5), (16, cI 10), (17, cI 50)], [], []],
  [[], [], [], [], [], [], [], [], [], [], [], [], [(2, cI 1), (10, cI (-1)), (11, cI (-1)), (13, cI (-1)), (14, cI (-1))], [], [], []],
  [[], [], [], [(2, cI 1), (10, cI (-1)), (11, cI (-1)), (13, cI (-1)), (14, cI (-1))], [], [], [], [], [], [], [(2, cI 1), (10, cI (-1)), (11, cI (-1)), (13, cI (-1)), (14, cI (-1))], [], [], [], [], []],
  [[], [(2, cI 1), (10, cI (-1)), (11, cI (-1)), (13, cI (-1)), (14, cI (-1))], [], [], [], [], [], [], [(2, cI 1), (10, cI (-1)), (11, cI (-1)), (13, cI (-1)), (14, cI (-1))], [], [], [], [], [], [], [(2, cI 1), (10, cI (-1)), (11, cI (-1)), (13, cI (-1)), (14, cI (-1))]],
  [[], [], [], [], [], [], [(2, cI 1), (10, cI (-1)), (11, cI (-1)), (13, cI (-1)), (14, cI (-1))], [], [], [], [], [], [], [(2, cI 1), (10, cI (-1)), (11, cI (-1)), (13, cI (-1)), (14, cI (-1))], [], []],
  [[], [], [], [], [(2, cI 1), (10, cI (-1)), (11, cI (-1)), (13, cI (-1)), (14, cI (-1))], [], [], [], [], [], [], [(2, cI 1), (10, cI (-1)), (11, cI (-1)), (13, cI (-1)), (14, cI (-1))], [], [], [], []],
  [[], [], [(9, cI (-1)), (11, cI (-1))], [], [(10, cI 50), (9, cI 10), (8, cI 5), (7, cI 1), (6, cI 1), (5, cI 1), (48, cI (-1)), (47, cI (-1)), (46, cI (-1)), (45, cI (-1)), (44, cI (-1))], [], [], [], [], [], [], [], [], [], [], []],
  [[], [], [], [], []]]
def h0L (a : Nat) : List (Nat × Int32) := (h0T.getD (a / 16) []).getD (a % 16) []
def h0R : List (Nat × Nat) := [(5, 123), (4, 116), (3, 109), (2, 102), (1, 95), (0, 88)]
def bRi : List (List Nat) := [[0, 1, 2, 60, 15, 16, 17, 18, 19, 20, 21, 22, 23, 24, 25, 26], [27, 28, 29, 61, 62, 63, 64, 65, 66, 67, 68, 69, 70, 71, 72, 73], [74, 30, 31, 32, 33, 34, 35, 36, 37, 38, 39, 40, 41, 42, 43, 44], [75, 76, 77, 78, 79, 80, 81, 45, 46, 47, 48, 49, 50, 51, 52, 53], [54, 55, 56, 57, 58, 59, 82, 83, 84, 85, 86, 87, 13, 14, 88, 89], [90, 91, 92, 93, 94, 95, 96, 97, 98, 99, 100, 101, 102, 103, 104, 105], [106, 107, 108, 109, 110, 111, 112, 113, 114, 115, 116, 117, 118, 119, 120, 121], [122, 123, 124, 125, 126, 127, 128, 129, 4, 5, 6, 7, 8, 9, 10, 11], [12, 3]]
def bR (a : Nat) : Nat := (bRi.getD (a / 16) []).getD (a % 16) 0
theorem bP_ok : (List.range 130).all (fun a => Nat.beq (bR (bP a)) a && Nat.blt (bP a) 130) = true := by decide +kernel
theorem bP_lt {a : Nat} (h : a < 130) : bP a < 130 ∧ bR (bP a) = a := by
  have := List.all_eq_true.mp bP_ok a (List.mem_range.mpr h)
  rw [Bool.and_eq_true] at this
  exact ⟨blt_of this.2, Nat.eq_of_beq_eq_true this.1⟩
/-- the start's script -/
def zS (xs : Nat → Int32) (L : Nat) : FI := fun a k => match a with
  | 0 => if k = 0 then nI L else 0
  | _ => xs k
def h0i (z : FI) : FI := fun a => match Nat.blt a 149 with
  | true => asI (h0L a)
  | false => match a with
    | 998 => z 0
    | 999 => z 1
    | _ => fun _ => 0
def h0r (a k : Nat) : Option Nat := match Nat.beq a 14 with
  | true => asR h0R k
  | false => none
def h0P (z : FI) : PH := (h0i z, fun _ _ => 0, h0r, fun _ _ => 0)
def fok (a : Nat) (rs : List (Option Nat)) (so j : Nat) (v : Value) : Bool := match so, v with
  | 0, .int x => decide (asI (h0L a) j = x)
  | 1, .long x => decide (x = 0)
  | 2, .null => (match rs.getD j none with
    | none => true
    | some _ => false)
  | 2, .ref q => (match rs.getD j none with
    | some b => Nat.beq q (bP b) && Nat.blt b 130
    | none => false)
  | _, _ => false
def cellOk (a : Nat) : Bool := match kd a, bW1[bP a]? with
  | some (.inl (ci, rs)), some (.inl (ci', fs)) => Nat.beq ci ci' && (Nat.beq fs.length (fso ci).length && (List.range (fso ci).length).all (fun j => fok a rs ((fso ci).getD j 0) j (fs.getD j .null)))
  | some (.inr (t, n)), some (.inr (t', n', oi, orf)) => Nat.beq t t' && (Nat.beq n n' && (match t with
    | 0 => decide (h0L a = oi)
    | 1 => decide (h0L a = oi)
    | 2 => true
    | 3 => true
    | _ => (match Nat.beq a 14 with
      | true => decide (orf = h0R.map (fun q => (q.1, bP q.2)))
      | false => decide (orf = []))))
  | _, _ => false
theorem cells_ok : (List.range 130).all cellOk = true := by decide +kernel
theorem h0R_lt : h0R.all (fun q => Nat.blt q.2 130) = true := by decide +kernel
section
variable {ad adB' : Nat → Nat} {cA : Nat → ClassId} {z : FI} {a : Nat}
theorem asR_map (had : ∀ b, b < 130 → ad b = adB' (bP b)) : ∀ (l : List (Nat × Nat)), l.all (fun q => Nat.blt q.2 130) = true → ∀ j, (asR l j).map ad = (asR (l.map (fun q => (q.1, bP q.2))) j).map adB'
  | [], _, j => rfl
  | (k, b) :: r, h, j => by
    simp only [List.all_cons, Bool.and_eq_true] at h
    show (if j = k then some b else asR r j).map ad = (if j = k then some (bP b) else asR (r.map (fun q => (q.1, bP q.2))) j).map adB'
    split
    · show some (ad b) = some (adB' (bP b))
      rw [had b (blt_of h.1)]
    · exact asR_map had r h.2 j
theorem h0i_lt (h : a < 149) : (h0P z).1 a = asI (h0L a) := by
  show h0i z a = _
  unfold h0i
  rw [Nat.blt_eq.mpr h]
theorem fok_ok (had : ∀ b, b < 130 → ad b = adB' (bP b)) (ha : a < 130) {rs : List (Option Nat)} {so j : Nat} {v : Value} (h : fok a rs so j v = true) : fv ad (h0P z) a rs so j = tr adB' v := by
  unfold fok at h
  split at h
  · have h := of_decide_eq_true h
    show Value.int (gi (h0P z) a j) = .int _
    rw [← h]
    show Value.int ((h0P z).1 a j) = _
    rw [h0i_lt (by omega)]
  · have h := of_decide_eq_true h
    rw [h]; rfl
  · split at h
    · rename_i e
      show va_rf ((rs.getD j none).map ad) = _
      rw [e]; rfl
    · cases h
  · split at h
    · rename_i b e
      simp only [Bool.and_eq_true] at h
      show va_rf ((rs.getD j none).map ad) = _
      rw [e, Nat.eq_of_beq_eq_true h.1]
      show Value.ref (ad b) = .ref (adB' (bP b))
      rw [had b (blt_of h.2)]
    · cases h
  · cases h
theorem cell_eq (had : ∀ b, b < 130 → ad b = adB' (bP b)) (ha : a < 130) : ∃ c, bW1[bP a]? = some c ∧ cellE ad cA (h0P z) a (kd a) = bcE adB' cA c := by
  have h := List.all_eq_true.mp cells_ok a (List.mem_range.mpr ha)
  unfold cellOk at h
  split at h
  · rename_i ci rs ci' fs hk hc
    refine ⟨_, hc, ?_⟩
    simp only [Bool.and_eq_true] at h
    obtain ⟨h1, h2, h3⟩ := h
    have h1 := Nat.eq_of_beq_eq_true h1
    have h2 := Nat.eq_of_beq_eq_true h2
    rw [hk]
    show Sum.inr (ci, fvs ad (h0P z) a ci rs) = Sum.inr (ci', fs.map (tr adB'))
    rw [← h1]
    congr 2
    apply List.ext_getElem?
    intro j
    unfold fvs
    by_cases hj : j < (fso ci).length
    · have h4 := List.all_eq_true.mp h3 j (List.mem_range.mpr hj)
      rw [List.getElem?_map, List.getElem?_range hj, List.getElem?_map, List.getElem?_eq_getElem (by omega)]
      rw [List.getD_eq_getElem?_getD (l := fs), List.getElem?_eq_getElem (by omega)] at h4
      exact congrArg some (fok_ok (z := z) had ha h4)
    · rw [List.getElem?_eq_none (by simp; omega), List.getElem?_eq_none (by simp; omega)]
  · rename_i t n t' n' oi orf hk hc
    refine ⟨_, hc, ?_⟩
    simp only [Bool.and_eq_true] at h
    obtain ⟨h1, h2, h3⟩ := h
    have h1 := Nat.eq_of_beq_eq_true h1
    have h2 := Nat.eq_of_beq_eq_true h2
    rw [hk]
    show Sum.inl (cA t, n, aev ad (h0P z) a t) = Sum.inl (cA t', n', bcC adB' t' oi orf)
    rw [← h1, ← h2]
    congr 3
    split at h3
    · have h3 := of_decide_eq_true h3
      show Sum.inl ((h0P z).1 a) = Sum.inl (asI oi)
      rw [h0i_lt (by omega), h3]
    · have h3 := of_decide_eq_true h3
      show Sum.inl ((h0P z).1 a) = Sum.inl (asI oi)
      rw [h0i_lt (by omega), h3]
    · rfl
    · rfl
    · rename_i n0 n1 n2 n3
      have e1 : aev ad (h0P z) a t = .inr (.inr (.inr (.inr (fun j => (h0r a j).map ad)))) := by
        unfold aev
        split
        · exact absurd rfl n0
        · exact absurd rfl n1
        · exact absurd rfl n2
        · exact absurd rfl n3
        · rfl
      have e2 : bcC adB' t oi orf = .inr (.inr (.inr (.inr (fun j => (asR orf j).map adB')))) := by
        unfold bcC
        split
        · exact absurd rfl n0
        · exact absurd rfl n1
        · exact absurd rfl n2
        · exact absurd rfl n3
        · rfl
      rw [e1, e2]
      congr 4
      funext j
      unfold h0r
      split at h3
      · rename_i hb
        rw [of_decide_eq_true h3]
        exact asR_map had h0R h0R_lt j
      · rename_i hb
        rw [of_decide_eq_true h3]
        rfl
  · cases h
theorem wd_h0 (had : ∀ b, b < 130 → ad b = adB' (bP b)) {D : va_G} {H : Heap} (hP : va_P D pmCl (bwd adB' cA bW1) H) : va_P D pmCl (wd ad cA (h0P z)) H := by
  refine hP.by bP (fun k q hq => ?_)
  have hk : k < 130 := by
    have := (List.getElem?_eq_some_iff.mp hq).1
    have h9 : k < NK := by simpa [wd] using this
    exact h9
  rw [wd_get hk] at hq
  obtain ⟨c, hc, e⟩ := cell_eq (cA := cA) (z := z) had hk
  rw [bwd_get hc, ← hq, had k hk, e]
theorem wd_D0 (had : ∀ b, b < 130 → ad b = adB' (bP b)) {B : Nat} (hB : adB adB' B) {A : Nat → Prop} (hA : ∀ q, B ≤ q → A q) {h : PH} : va_D A (wd ad cA h) := by
  have key : ∀ (i : Nat) (q : Nat × va_E), (wd ad cA h)[i]? = some q → i < 130 ∧ q.1 = B + bP i := by
    intro i q hq
    have hi : i < 130 := by
      have := (List.getElem?_eq_some_iff.mp hq).1
      have h9 : i < NK := by simpa [wd] using this
      exact h9
    rw [wd_get hi] at hq
    cases hq
    exact ⟨hi, by show ad i = _; rw [had i hi, hB _ (bP_lt hi).1]⟩
  refine ⟨fun i j x y hi hj hxy => ?_, fun k q hk => ?_⟩
  · obtain ⟨a1, a2⟩ := key i x hi
    obtain ⟨b1, b2⟩ := key j y hj
    have e : bP i = bP j := by omega
    rw [← (bP_lt a1).2, ← (bP_lt b1).2, e]
  · obtain ⟨a1, a2⟩ := key k q hk
    rw [a2]
    exact hA _ (by omega)
end
/-! what holds of it -/
def s0R : RW := asI (h0L 132)
def g0F : FI := fun a => asI (h0L a)
theorem s0_n : nn (s0R 0) = 0 ∧ nn (s0R 1) = 0 ∧ nn (s0R 2) = 0 ∧ nn (s0R 3) = 0 := by decide +kernel
theorem s0_p : hasP s0R = false := by decide +kernel
theorem vac {p : Prop} {m n : Nat} (e : n = 0) (h : m < n) : p := by omega
theorem Rk_s0 : Rk 0 0 s0R := by
  obtain ⟨e0, e1, e2, e3⟩ := s0_n
  refine ⟨⟨?_, ?_, ?_, ?_, ?_, ?_, ?_, ?_, ?_, ?_, ?_, fun m hm => vac e2 hm, fun p hp => vac e1 hp, fun a b ha _ => vac e0 ha, fun a b ha _ => vac e2 ha⟩, ⟨?_, fun m hm => vac e2 hm⟩, ⟨?_, ?_, fun y => ?_, fun y => ?_, fun y => ?_, fun y => ?_, fun y => ?_, fun y => ?_⟩, ?_⟩
  all_goals first
    | (refine ⟨?_, ?_⟩ <;> decide +kernel)
    | (decide +kernel)
    | (rw [s0_p] at y; cases y)
    | (exact absurd y (by decide +kernel))
    | (rcases y with y | ⟨y, -⟩ <;> exact absurd y (by decide +kernel))
theorem Ly_s0 : LyR 15 s0R g0F := by
  obtain ⟨e0, e1, e2, e3⟩ := s0_n
  refine ⟨?_, ?_, ?_, ?_, ?_, ?_, ?_, ?_, ?_, ?_, fun v hv => vac e0 hv, fun v hv => vac e0 hv, fun v hv => vac e0 hv, fun v hv => vac e1 hv, fun v hv => vac e1 hv, fun v hv => vac e3 hv, fun v hv => vac e2 hv, fun v hv => vac e2 hv⟩
  all_goals decide +kernel
theorem St_s0 : StR 60 s0R g0F := by
  obtain ⟨e0, e1, e2, e3⟩ := s0_n
  refine ⟨⟨fun v hv => vac e2 hv, fun v hv => vac e2 hv, fun v hv => vac e2 hv, fun v hv => vac e2 hv, ?_, ?_⟩, ⟨Or.inl ?_, ?_, ?_, ?_, fun y => ?_, ?_⟩, ⟨?_, 0, by omega, ?_, fun i hi => vac ?_ hi⟩⟩
  all_goals first
    | (decide +kernel)
    | (rw [s0_p] at y; cases y)
theorem Inv_0 {xs : Nat → Int32} {L : Nat} : Inv (zS xs L) 0 0 (h0P (zS xs L)) := by
  have e : ∀ a, a < 149 → (h0P (zS xs L)).1 a = g0F a := fun a ha => h0i_lt (by omega)
  have eg : ∀ a k, a < 149 → gi (h0P (zS xs L)) a k = g0F a k := fun a k ha => congrFun (e a ha) k
  have e2 : (h0P (zS xs L)).1 132 = s0R := e 132 (by omega)
  obtain ⟨n0, n1, n2, n3⟩ := s0_n
  refine ⟨⟨?_, ?_, ?_⟩, ⟨0, by omega, ?_, ?_, fun j hj => vac rfl hj, ?_, ?_⟩, ?_, ⟨Or.inl ?_, ?_, fun y => ?_⟩, ⟨0, 0, by omega, by omega, ?_, ?_, ?_, ?_, fun i hi => vac rfl hi⟩, ⟨0, by omega, ?_, Or.inl ?_, fun y => ?_, fun _ => rfl, fun j hj => vac rfl hj⟩, ⟨rfl, rfl, 0, by omega, ?_⟩⟩
  · rw [e2]; exact Rk_s0
  · rw [e2]; exact Ly_s0.heap (fun b h1 h2 => e b (by omega))
  · rw [e2]; exact St_s0.heap (fun b h1 h2 => e b (by omega))
  · rw [eg _ _ (by omega)]; decide +kernel
  · rw [eg _ _ (by omega)]; decide +kernel
  · rw [eg _ _ (by omega), eg _ _ (by omega)]; decide +kernel
  · rw [eg _ _ (by omega), eg _ _ (by omega)]; decide +kernel
  · unfold IN
    rw [e2]
    exact ⟨fun i hi => vac n0 hi, fun i hi => vac n1 hi, fun i hi => vac n2 hi, fun i j _ hj => vac n0 hj, fun i j _ hj => vac n1 hj, fun i j _ hj => vac n2 hj⟩
  · rw [eg _ _ (by omega)]; decide +kernel
  · rw [eg _ _ (by omega), eg _ _ (by omega)]; decide +kernel
  · rw [eg _ _ (by omega)] at y; exact absurd y (by decide +kernel)
  · rw [eg _ _ (by omega)]; decide +kernel
  · rw [eg _ _ (by omega)]; decide +kernel
  · rw [eg _ _ (by omega)]; decide +kernel
  · intro j hj
    have h6 : ∀ j, j < 6 → h0r 14 j = some (88 + 7 * j) := by decide +kernel
    exact h6 j hj
  · rw [eg _ _ (by omega)]; decide +kernel
  · rw [eg _ _ (by omega)]; decide +kernel
  · rw [eg _ _ (by omega)] at y; exact absurd y (by decide +kernel)
  · rw [eg _ _ (by omega)]; decide +kernel
