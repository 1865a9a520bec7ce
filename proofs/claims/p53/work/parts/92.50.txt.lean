/-! ===== feed, truncate, the error told ===== -/
section
variable {q : Nat → PH → Prop} {kk : Int32 → PH → Prop} {kv : PH → Prop} {h h' : PH} {s t s' : RW} {C E D F : Nat} {a b0 u w n : Nat} {f g z : FI}
/-- a byte of an int, from the left -/
def byt (x : Int32) (k : Nat) : Nat := (x >>> (nI (24 - 8 * k) &&& 31)).toBitVec.toNat % 2 ^ 8
theorem byt_lt {x : Int32} {k : Nat} : byt x k < 256 := Nat.mod_lt _ (by decide)
theorem low8 (y : Int32) : (y &&& nI 255).toInt8 = y.toInt8 := by
  apply Int8.toBitVec_inj.mp
  show (y &&& nI 255).toBitVec.signExtend 8 = y.toBitVec.signExtend 8
  apply BitVec.eq_of_getLsbD_eq
  intro i hi
  rw [BitVec.getLsbD_signExtend, BitVec.getLsbD_signExtend]
  have e1 : decide (i < 32) = true := decide_eq_true (by omega)
  simp only [show i < 32 by omega, if_pos, decide_eq_true hi, Bool.true_and]
  show bt (y &&& nI 255) i = bt y i
  rw [b_and, show nI 255 = (255 : Int32) from rfl, b_255, decide_eq_true hi, Bool.and_true]
theorem byt_m (x : Int32) {k : Nat} : (x >>> (nI (24 - 8 * k) &&& 31)) &&& nI 255 = nI (byt x k) := pk_and _ 8 (by decide)
theorem byt_c (x : Int32) {k : Nat} : (x >>> (nI (24 - 8 * k) &&& 31)).toInt8.toInt32.toInt8.toInt32 = sb_b (byt x k) := by
  have e := byt_m x (k := k)
  unfold sb_b
  rw [← e, low8]
  simp
theorem st8 : ∀ i, i < 4 → nI (24 - 8 * i) + -(nI 8) = (if i + 1 < 4 then nI (24 - 8 * (i + 1)) else -(nI 8)) := by decide +kernel
def W12 (b k : Nat) : Bool := (Nat.beq b 1 && Nat.beq k 1) || Nat.beq b 2
def W131 (b k : Nat) : Bool := (Nat.beq b 130 && Nat.beq k 2) || Nat.beq b 131
theorem l_append {x : Int32} {h0 : PH} (hn : n + 4 ≤ 900) (K : ∀ h', Fr W12 h0 h' → gi h' 1 1 = nI (n + 4) → (∀ j, j < n → gi h' 2 j = gi h0 2 j) → (∀ k, k < 4 → gi h' 2 (n + k) = sb_b (byt x k)) → kv h') : ∀ k i h v2, i + k = 4 → v2 = (if i < 4 then nI (24 - 8 * i) else -(nI 8)) → Fr W12 h0 h → gi h 1 1 = nI (n + i) → (∀ j, j < n → gi h 2 j = gi h0 2 j) → (∀ j, j < i → gi h 2 (n + j) = sb_b (byt x j)) → At m_X10_append (rV q kv) 3 0 [some (.ref 1), some (.int x), some (.int v2)] [] h := by
  intro k
  induction k with
  | zero =>
    intro i h v2 hi hv F e A B
    have : i = 4 := by omega
    subst this
    rw [hv, if_neg (by omega)]
    exact u_X10_append_3 (br_t (by decide) (K h F e A B))
  | succ k ih =>
    intro i h v2 hi hv F e A B
    rw [hv, if_pos (by omega)]
    refine u_X10_append_3 (br_f (nI_pos (by omega)) ?_)
    rw [e, byt_c, cl (by omega)]
    refine pk_le 900 (n + i) (fun y => absurd y (by omega)) (fun _ => ⟨vp_in_nI (by omega) (by omega), ?_⟩)
    intro y1
    have ey : y1 = nI (n + i) := by
      show gi (si h 2 (n + i) (sb_b (byt x i))) 1 1 = _
      rw [gi_ob (by omega)]; exact e
    clear_value y1
    subst ey
    rw [nI_add]
    intro h2
    have F2 : Fr W12 h0 h2 := (F.and (a := 2) _ rfl).and (a := 1) (k := 1) _ rfl
    have e2 : gi h2 1 1 = nI (n + (i + 1)) := gi_same
    have A2 : ∀ j, gi h2 2 j = gi (si h 2 (n + i) (sb_b (byt x i))) 2 j := fun j => gi_ob (by omega)
    clear_value h2
    refine ih (i + 1) h2 _ (by omega) ?_ F2 e2 (fun j hj => ?_) (fun j hj => ?_)
    · exact st8 i (by omega)
    · rw [A2, gi_ok (by omega)]; exact A j hj
    · by_cases c : j = i
      · subst c; rw [A2, gi_same]
      · rw [A2, gi_ok (by omega)]; exact B j (by omega)
theorem c_append {x : Int32} (hn : n + 4 ≤ 900) (e : gi h 1 1 = nI n) (K : ∀ h', Fr W12 h h' → gi h' 1 1 = nI (n + 4) → (∀ j, j < n → gi h' 2 j = gi h 2 j) → (∀ k, k < 4 → gi h' 2 (n + k) = sb_b (byt x k)) → kv h') : MetPM m_X10_append [.ref 1, .int x] h (rV q kv) := t_X10_append (l_append hn K _ 0 h _ (Nat.zero_add _) rfl (Fr.refl _ _) e (fun _ _ => rfl) (fun j hj => absurd hj (Nat.not_lt_zero j)))
def pick (a b c d e : Int32) (j : Nat) : Nat := if j < 4 then byt a j else if j < 8 then byt b (j - 4) else if j < 12 then byt c (j - 8) else if j < 16 then byt d (j - 12) else byt e (j - 16)
theorem pick_lt {a b c d e : Int32} {j : Nat} : pick a b c d e j < 256 := by
  unfold pick
  split
  · exact byt_lt
  · split
    · exact byt_lt
    · split
      · exact byt_lt
      · split
        · exact byt_lt
        · exact byt_lt
/-- the class has been fed -/
def FdC (n : Nat) (p : Nat → Nat) (h h' : PH) : Prop := Fr W12 h h' ∧ gi h' 1 1 = nI (n + 20) ∧ (∀ j, j < n → gi h' 2 j = gi h 2 j) ∧ ∀ j, j < 20 → gi h' 2 (n + j) = sb_b (p j)
theorem c_feed {x0 x1 x2 x3 x4 : Int32} (e : gi h 1 1 = nI n) (hn9 : n ≤ 900) (K0 : ¬ n + 20 ≤ 900 → q 0 h) (K1 : n + 20 ≤ 900 → ∀ h', FdC n (pick x0 x1 x2 x3 x4) h h' → kk (nI (n + 20)) h') : MetPM m_X11_feed [.ref 0, .int x0, .int x1, .int x2, .int x3, .int x4] h (rI q kk) := by
  refine t_X11_feed ?_
  rw [e, nI_add]
  refine pk_le (n + 20) 900 (fun c => ?_) (fun c => ⟨Nat.le_of_ble_eq_true rfl, K0 (by omega)⟩)
  refine c_append (n := n) (by omega) e (fun h1 f1 e1 a1 b1 => ?_)
  refine c_append (n := n + 4) (by omega) e1 (fun h2 f2 e2 a2 b2 => ?_)
  refine c_append (n := n + 4 + 4) (by omega) e2 (fun h3 f3 e3 a3 b3 => ?_)
  refine c_append (n := n + 4 + 4 + 4) (by omega) e3 (fun h4 f4 e4 a4 b4 => ?_)
  refine c_append (n := n + 4 + 4 + 4 + 4) (by omega) e4 (fun h5 f5 e5 a5 b5 => ?_)
  have e5' : gi h5 1 1 = nI (n + 20) := e5
  show rI q kk (.inl (some (.int (gi h5 1 1)))) h5
  rw [e5']
  refine K1 c h5 ⟨(((f1.trans f2).trans f3).trans f4).trans f5, e5', fun j hj => ?_, fun j hj => ?_⟩
  · rw [a5 j (by omega), a4 j (by omega), a3 j (by omega), a2 j (by omega), a1 j hj]
  · unfold pick
    split
    · rw [a5 _ (by omega), a4 _ (by omega), a3 _ (by omega), a2 _ (by omega)]; exact b1 j (by omega)
    · split
      · rw [a5 _ (by omega), a4 _ (by omega), a3 _ (by omega)]
        have := b2 (j - 4) (by omega)
        rw [show n + 4 + (j - 4) = n + j by omega] at this
        exact this
      · split
        · rw [a5 _ (by omega), a4 _ (by omega)]
          have := b3 (j - 8) (by omega)
          rw [show n + 4 + 4 + (j - 8) = n + j by omega] at this
          exact this
        · split
          · rw [a5 _ (by omega)]
            have := b4 (j - 12) (by omega)
            rw [show n + 4 + 4 + 4 + (j - 12) = n + j by omega] at this
            exact this
          · have := b5 (j - 16) (by omega)
            rw [show n + 4 + 4 + 4 + 4 + (j - 16) = n + j by omega] at this
            exact this
/-- all but the text -/
theorem Inv.tx {W : Nat → Nat → Prop} {V : Nat → Prop} (x : Fz W V h h') (w1 : ∀ b k, W b k → b = 1 ∨ b = 2 ∨ b = 131 ∨ b = 147 ∨ (b = 130 ∧ (k = 0 ∨ k = 2))) (v1 : ∀ b, V b → b = 147) (I : Inv z C E h) (T : IT h') : Inv z C E h' := by
  have nw : ∀ b k, ¬ (b = 1 ∨ b = 2 ∨ b = 131 ∨ b = 147 ∨ (b = 130 ∧ (k = 0 ∨ k = 2))) → ¬ W b k := fun b k y z => y (w1 b k z)
  have nv : ∀ b, b ≠ 147 → ¬ V b := fun b y z => y (v1 b z)
  have e132 : h'.1 132 = h.1 132 := x.cell fun k => nw _ _ (by omega)
  refine ⟨⟨?_, ?_⟩, T, ?_, I.is.fz x (nw _ _ (by omega)) (nw _ _ (by omega)) (fun k => nw _ _ (by omega)) (fun b k _ => nw _ _ (by omega)) (nv _ (by omega)) (nv _ (by omega)) (nv _ (by omega)) (nv _ (by omega)), I.ih.fz x (fun k => nw _ _ (by omega)) (nw _ _ (by omega)) (fun k => nw _ _ (by omega)) (fun b k _ => nw _ _ (by omega)), I.ip.fz x (nw _ _ (by omega)) (nw _ _ (by omega)) (nw _ _ (by omega)) (fun k => nw _ _ (by omega)) (fun k => nw _ _ (by omega)), I.iz.fz x (fun k => nw _ _ (by omega)) (fun k => nw _ _ (by omega)) (nw _ _ (by omega))⟩
  · rw [e132]; exact I.ic.1
  · rw [e132]; exact I.ic.2.heap fun b hb => x.cell fun k => nw _ _ (by omega)
  · exact NmR.fz x (nv _ (by omega)) (nv _ (by omega)) (nv _ (by omega)) (nv _ (by omega)) (by rw [e132]) (by rw [e132]) (by rw [e132]) I.inn
theorem W12_t {b k : Nat} (e : W12 b k = true) : b = 1 ∧ k = 1 ∨ b = 2 := by
  unfold W12 at e
  simp only [Bool.or_eq_true, Bool.and_eq_true] at e
  rcases e with ⟨e, e2⟩ | e
  · exact Or.inl ⟨Nat.eq_of_beq_eq_true e, Nat.eq_of_beq_eq_true e2⟩
  · exact Or.inr (Nat.eq_of_beq_eq_true e)
theorem W131_t {b k : Nat} (e : W131 b k = true) : b = 130 ∧ k = 2 ∨ b = 131 := by
  unfold W131 at e
  simp only [Bool.or_eq_true, Bool.and_eq_true] at e
  rcases e with ⟨e, e2⟩ | e
  · exact Or.inl ⟨Nat.eq_of_beq_eq_true e, Nat.eq_of_beq_eq_true e2⟩
  · exact Or.inr (Nat.eq_of_beq_eq_true e)
/-- both have been fed -/
theorem Inv.fed {p : Nat → Nat} {h1 h2 h3 : PH} {x : Int64} (I : Inv z C E h) (e : gi h 1 1 = nI n) (c : n + 20 ≤ 900) (hp : ∀ j, p j < 256) (f : FdC n p h h1) (e2 : h2 = sl h1 147 0 x) (f3 : Fr W131 (si h2 130 0 (nI 0)) h3) (k1 : gi h3 130 2 = nI (n + 20)) (k2 : ∀ j, j < n → gi h3 131 j = gi h2 131 j) (k3 : ∀ j, j < 20 → gi h3 131 (n + j) = nI (p j)) : Inv z C E h3 ∧ gi h3 130 0 = nI 0 := by
  obtain ⟨g1, g2, g3, g4⟩ := f
  have z1 : Fz (fun b k => (b = 1 ∧ k = 1) ∨ b = 2 ∨ b = 131 ∨ (b = 130 ∧ (k = 0 ∨ k = 2))) (fun b => b = 147) h h1 := Fz.fr g1 (fun b k y => by have := W12_t y; omega)
  have z2 : Fz (fun b k => (b = 1 ∧ k = 1) ∨ b = 2 ∨ b = 131 ∨ (b = 130 ∧ (k = 0 ∨ k = 2))) (fun b => b = 147) h1 h2 := by rw [e2]; exact Fz.sl h1 x rfl
  have z3 : Fz (fun b k => (b = 1 ∧ k = 1) ∨ b = 2 ∨ b = 131 ∨ (b = 130 ∧ (k = 0 ∨ k = 2))) (fun b => b = 147) h2 h3 := (Fz.si h2 (nI 0) (by omega)).trans (Fz.fr f3 (fun b k y => by have := W131_t y; omega))
  have zz := (z1.trans z2).trans z3
  have o3 : ∀ b k, b ≠ 130 → b ≠ 131 → gi h3 b k = gi h1 b k := fun b k x1 x2 => by
    rw [f3.1 b k (by
      unfold W131
      rw [nbq x1, nbq x2]; rfl), gi_ob x1, e2]; rfl
  obtain ⟨n0, a1, a2, a3, a4, a5, a6⟩ := I.it
  have en : n0 = n := by
    rw [e, nI_eq (by omega) (by omega)] at a2
    exact a2.symm
  subst en
  refine ⟨I.tx zz (fun b k y => by omega) (fun b y => y) ⟨n0 + 20, c, ?_, k1, fun j hj => ?_, ?_, ?_⟩, ?_⟩
  · rw [o3 1 1 (by omega) (by omega)]; exact g2
  · by_cases d : j < n0
    · obtain ⟨c0, c1, c2, c3⟩ := a4 j d
      refine ⟨c0, c1, ?_, ?_⟩
      · rw [o3 2 j (by omega) (by omega), g3 j d]; exact c2
      · rw [k2 j d, e2]
        show gi h1 131 j = _
        rw [g1.1 131 j rfl]; exact c3
    · refine ⟨p (j - n0), hp _, ?_, ?_⟩
      · rw [o3 2 j (by omega) (by omega)]
        have := g4 (j - n0) (by omega)
        rw [show n0 + (j - n0) = j by omega] at this
        exact this
      · have := k3 (j - n0) (by omega)
        rw [show n0 + (j - n0) = j by omega] at this
        exact this
  · rw [zz.1 1 2 (by omega), zz.1 130 10 (by omega)]; exact a5
  · rw [zz.1 1 3 (by omega), zz.1 130 11 (by omega)]; exact a6
  · rw [f3.1 130 0 rfl, gi_same]
/-! truncate -/
theorem c_truncate {x : Int32} (e : gi h 1 1 = nI n) (hn9 : n ≤ 900) (K0 : inR x 0 n = false → q 1 h) (K1 : inR x 0 n = true → kk x (si h 1 1 x)) : MetPM m_X11_truncate [.ref 0, .int x] h (rI q kk) :=
  t_X11_truncate (inL (a := 0) (b := n) (by omega) rfl e (by omega) (fun c => ⟨Nat.le_of_ble_eq_true rfl, K0 c⟩) K1)
theorem Inv.trunc {x : Int32} {y : Int64} (I : Inv z C E h) (e : gi h 1 1 = nI n) (hn9 : n ≤ 900) (c : inR x 0 n = true) : Inv z C E (si (si (sl (si h 1 1 x) 147 0 y) 130 0 (nI 0)) 130 2 x) := by
  obtain ⟨e1, _, e2⟩ := inR_n (a := 0) (b := n) (by omega) c
  have zz : Fz (fun b k => (b = 1 ∧ k = 1) ∨ (b = 130 ∧ (k = 0 ∨ k = 2))) (fun b => b = 147) h (si (si (sl (si h 1 1 x) 147 0 y) 130 0 (nI 0)) 130 2 x) := by
    refine Fz.trans (Fz.trans (Fz.trans (Fz.si h (a := 1) (k := 1) x ?_) (Fz.sl _ (a := 147) (k := 0) y ?_)) (Fz.si _ (a := 130) (k := 0) (nI 0) ?_)) (Fz.si _ (a := 130) (k := 2) x ?_)
    · exact Or.inl ⟨rfl, rfl⟩
    · rfl
    · exact Or.inr ⟨rfl, Or.inl rfl⟩
    · exact Or.inr ⟨rfl, Or.inr rfl⟩
  obtain ⟨n0, a1, a2, a3, a4, a5, a6⟩ := I.it
  have en : n0 = n := by
    rw [e, nI_eq (by omega) (by omega)] at a2
    exact a2.symm
  subst en
  refine I.tx zz (fun b k y => by omega) (fun b y => y) ⟨nn x, by omega, ?_, ?_, fun j hj => ?_, ?_, ?_⟩
  · rw [gi_ob (by omega), gi_ob (by omega)]
    show gi (si h 1 1 x) 1 1 = _
    rw [gi_same]; exact e1
  · rw [gi_same]; exact e1
  · obtain ⟨c0, c1, c2, c3⟩ := a4 j (by omega)
    exact ⟨c0, c1, by rw [zz.1 2 j (by omega)]; exact c2, by rw [zz.1 131 j (by omega)]; exact c3⟩
  · rw [zz.1 1 2 (by omega), zz.1 130 10 (by omega)]; exact a5
  · rw [zz.1 1 3 (by omega), zz.1 130 11 (by omega)]; exact a6
end

