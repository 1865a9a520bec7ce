/-! ===== the law: holds ===== -/
section
variable {kk : Int32 → PH → Prop} {h h' h0 h1 : PH} {w k v j c : Nat} {W : WN} {s s' s0 t : RW} {C E : Nat} {Q : Res → PH → Prop} {x y z : Int32} {ps : List RW}
def bitV (p0 : Int32) : Int32 :=
  let y11 : Int32 := (p0 - (((p0.toUInt32 >>> ((nI 1).toUInt32 &&& Int32.toUInt32 31)).toInt32) &&& (nI 1431655765)))
  let y12 : Int32 := ((y11 &&& (nI 858993459)) + (((y11.toUInt32 >>> ((nI 2).toUInt32 &&& Int32.toUInt32 31)).toInt32) &&& (nI 858993459)))
  let y13 : Int32 := ((y12 + ((y12.toUInt32 >>> ((nI 4).toUInt32 &&& Int32.toUInt32 31)).toInt32)) &&& (nI 252645135))
  let y14 : Int32 := (((y13 + ((y13.toUInt32 >>> ((nI 8).toUInt32 &&& Int32.toUInt32 31)).toInt32)).toUInt32 >>> ((nI 16).toUInt32 &&& Int32.toUInt32 31)).toInt32)
  (((y13 + ((y13.toUInt32 >>> ((nI 8).toUInt32 &&& Int32.toUInt32 31)).toInt32)) + y14) &&& (nI 63))
def fb6 (a b c d e f : Bool) (i : Nat) : Bool := match i with
  | 0 => a
  | 1 => b
  | 2 => c
  | 3 => d
  | 4 => e
  | 5 => f
  | _ => false
theorem bc6 : ∀ a b c d e f : Bool, bitV (mk 6 (fb6 a b c d e f)) = nI (cnt 6 (fb6 a b c d e f)) := by decide +kernel
theorem bc_mk {n : Nat} (hn : n ≤ 6) (p : Nat → Bool) : bitV (mk n p) = nI (cnt n p) := by
  have e1 : mk n p = mk 6 (fun i => decide (i < n) && p i) := mk_of (by omega) fun i hi => by
    rw [bt_mk p n (by omega) i hi]
    by_cases q : i < n
    · rw [decide_eq_true q, decide_eq_true (show i < 6 by omega)]; rfl
    · rw [decide_eq_false q, Bool.false_and, Bool.and_false]
  have e2 : cnt 6 (fun i => decide (i < n) && p i) = cnt n p := by
    rw [cnt_ge (n := n) hn (fun i h1 h2 => by rw [decide_eq_false (by omega)]; rfl)]
    exact cnt_eq fun i hi => by rw [decide_eq_true hi]; rfl
  rw [e1, ← e2]
  generalize (fun i => decide (i < n) && p i) = r
  have e : ∀ i, i < 6 → r i = fb6 (r 0) (r 1) (r 2) (r 3) (r 4) (r 5) i := fun i hi => by
    rcases (by omega : i = 0 ∨ i = 1 ∨ i = 2 ∨ i = 3 ∨ i = 4 ∨ i = 5) with rfl | rfl | rfl | rfl | rfl | rfl <;> rfl
  rw [mk_eq e, cnt_eq e]
  exact bc6 _ _ _ _ _ _
theorem c_bitc {n : Nat} (hn : n ≤ 6) {p : Nat → Bool} (K : Q (.inl (some (.int (nI (cnt n p))))) h) : MetQ mq_J6_bitCount_0f7a4 [.int (mk n p)] h Q := by
  rw [← bc_mk hn p] at K
  exact tq_J6_bitCount_0f7a4 K
theorem q_read (X : CR 60 s h) (R : Rk C E s) (hx : inR x 1 9 = true) (K : kk (mk (nn (s 0)) (fun v => rds s v x)) h) : MetPM m_X11_readers [.ref 0, .int x] h (rI qF kk) :=
  c_readers R X (fun e => by rw [hx] at e; cases e) (fun _ => K)
theorem q_part (X : CR 60 s h) (R : Rk C E s) (hk : k < nn (s 2)) (K : kk (mk (nn (s 2)) (par s k)) h) : MetPM m_X11_partners [.ref 0, .int (nI k)] h (rI qF kk) := by
  have hm := R.m.2
  refine c_partners R X (fun e => by rw [show inM s (nI k) = true from inR_j hk (by omega)] at e; cases e) (fun _ => ?_)
  rw [nn_nI (by omega)]; exact K
theorem q_talk (X : CR 60 s h) (R : Rk C E s) (hk : k < nn (s 0)) (hv : v < nn (s 0)) (K : kk (b2i (tlk s k v)) h) : MetPM m_X11_mayTalk [.ref 0, .int (nI k), .int (nI v)] h (rI qF kk) := by
  have hm := R.v.2
  have e : (inV s (nI k) && inV s (nI v)) = true := by
    rw [show inV s (nI k) = true from inR_j hk (by omega), show inV s (nI v) = true from inR_j hv (by omega)]; rfl
  refine c_mayTalk R X (fun y => by rw [e] at y; cases y) (fun _ => ?_)
  rw [nn_nI (by omega), nn_nI (by omega)]; exact K
theorem q_down (X : CR 60 s h) (R : Rk C E s) (hk : k < nn (s 1)) (K : kk (mk (nn (s 2)) (dnIn s (nI k))) h) : MetPM m_X11_down [.ref 0, .int (nI k)] h (rI qF kk) := by
  have hm := R.p.2
  exact c_down R X (fun e => by rw [show inP s (nI k) = true from inR_j hk (by omega)] at e; cases e) (fun _ => K)
/-- a member's coming version, as the law asks for it -/
theorem co_c (R : Rk C E s) (hk : k < nn (s 2)) : (0 ≤ mf s k 2 → mf s k 2 = nI (cN s k)) ∧ (¬ 0 ≤ mf s k 2 → mf s k 1 = nI (cN s k)) := by
  refine ⟨fun z => ?_, fun z => ?_⟩
  · rw [← (com_c R hk).1]; unfold com; rw [(up_c R hk).2 z]
  · rw [← (com_c R hk).1]; unfold com; rw [(up_c R hk).1 (Int32.not_le.mp z)]
theorem l_hold80 (hC : C < 2 ^ 30) (ci : CI C E s ps h) (G : Good s) (h6 : nn (s 2) ≤ 6) (hk : k < nn (s 2)) {c0 : Nat} (hcc : c0 ≤ 450) (T : ∀ c, c ≤ c0 + 47 → Bt mq_L_holds Q 174 c [some (.ref 0), some (.ref w), some (.int (nI (nn (s 2)))), some (.int (nI k)), none, none, none] [] h) :
    ∀ n j c, j + n = nn (s 2) → c ≤ c0 + 7 * j → Bt mq_L_holds Q 80 c [some (.ref 0), some (.ref w), some (.int (nI (nn (s 2)))), some (.int (nI k)), some (.int (nI (cN s k))), some (.int (nI j)), none] [] h := by
  have R := ci.R
  have Y := ci.X
  have hv8 := R.v.2
  intro n
  induction n with
  | zero =>
    intro j c hj hc
    have ej : j = nn (s 2) := by omega
    refine sq_L_holds_80 ⟨fun _ => ⟨rfl, by omega, q_mem Y R hk (by decide) (fun _ => ⟨fun z => T _ (by omega), fun z => ⟨rfl, by omega, q_mem Y R hk (by decide) (fun _ => ⟨rfl, by omega, q_set Y (by decide) (fun _ => ⟨fun _ => T _ (by omega), fun z2 => absurd ?_ z2⟩)⟩)⟩⟩)⟩, fun z => absurd (nI_le (a := nn (s 2)) (b := j) (by omega) (by omega)) z⟩
    rw [mbV_f (by decide)] at z
    have d := (up_c R hk).2 (Int32.not_lt.mp z)
    have u := R.un k hk d
    show s 11 < mbV s k 3
    rw [mbV_f (by decide), u.1.1, R.ck.1]
    have := u.2.2
    have hck := u.1.2
    exact nI_lt u.2.1 (by omega)
  | succ n ih =>
    intro j c hj hc
    have hj2 : j < nn (s 2) := by omega
    have next : ∀ c', c' ≤ c + 7 → Bt mq_L_holds Q 142 c' [some (.ref 0), some (.ref w), some (.int (nI (nn (s 2)))), some (.int (nI k)), some (.int (nI (cN s k))), some (.int (nI j)), none] [] h := by
      intro c' hc'
      refine sq_L_holds_142 ?_
      rw [nI_add]
      exact ih (j + 1) c' (by omega) (by omega)
    have two : ∀ y, y = nI (cN s j) → (0 : Nat) = 0 ∧ (((c + 2) + 2) + 1 ≤ 500 ∧ MetPM m_X11_partners [.ref 0, .int (nI k)] h (rI (fun _ _ => False) (fun x22 h21 => Hi h h21 → ((¬ ((x22 >>> (nI j &&& 31)) &&& (nI 1)) = (nI 1) → Bt mq_L_holds Q 142 (((c + 2) + 2) + 1) [some (.ref 0), some (.ref w), some (.int (nI (nn (s 2)))), some (.int (nI k)), some (.int (nI (cN s k))), some (.int (nI j)), none] [] h21) ∧ (((x22 >>> (nI j &&& 31)) &&& (nI 1)) = (nI 1) → ((0 : Nat) = 0 ∧ (((((c + 2) + 2) + 1) + 2) ≤ 500 ∧ MetPM m_X11_mayTalk [.ref 0, .int (nI (cN s k)), .int y] h21 (rI (fun _ _ => False) (fun x24 h23 => Hi h21 h23 → ((¬ x24 = 0 → Bt mq_L_holds Q 142 ((((c + 2) + 2) + 1) + 2) [some (.ref 0), some (.ref w), some (.int (nI (nn (s 2)))), some (.int (nI k)), some (.int (nI (cN s k))), some (.int (nI j)), none] [] h23) ∧ (x24 = 0 → (isB (nI 0) ∧ Q (.inl (some (.int (nI 0)))) h23)))))))))))) := by
      intro y hy
      subst hy
      refine ⟨rfl, by omega, q_part Y R hk (fun _ => ?_)⟩
      rw [bit_b2i (by omega), bt_mk_in (by omega) hj2]
      refine ⟨fun _ => next _ (by omega), fun z => ⟨rfl, by omega, q_talk Y R (com_c R hk).2 (com_c R hj2).2 (fun _ => ⟨fun _ => next _ (by omega), fun z2 => ?_⟩)⟩⟩
      exfalso
      have hp : par s k j = true := by
        cases e : par s k j
        · rw [e] at z; exact absurd z (by decide)
        · rfl
      rw [G.2.2.1 k j hk hj2 hp] at z2
      exact absurd z2 (by decide)
    refine sq_L_holds_80 ⟨fun z => absurd z (nI_ge hj2 (by omega)), fun _ => ⟨rfl, by omega, q_mem Y R hj2 (by decide) (fun _ => ⟨fun z => ⟨rfl, by omega, q_mem Y R hj2 (by decide) (fun _ => two _ ?_)⟩, fun z => ⟨rfl, by omega, q_mem Y R hj2 (by decide) (fun _ => two _ ?_)⟩⟩)⟩⟩
    · rw [mbV_f (by decide)] at z ⊢; exact (co_c R hj2).1 z
    · rw [mbV_f (by decide)] at z ⊢; exact (co_c R hj2).2 z
theorem bak_r : ∀ v, rds s v (s 5) = true → rds s (bak s v) (s 5) = true
  | 0, e => e
  | v + 1, e => by
    unfold bak
    split
    · rename_i q
      rw [Bool.and_eq_true] at q
      exact bak_r v q.1
    · exact e
theorem bak_le : ∀ v, bak s v ≤ v
  | 0 => Nat.le_refl _
  | v + 1 => by
    unfold bak
    split
    · have := bak_le v; omega
    · exact Nat.le_refl _
theorem lo1_at {g : Nat → Nat} {l : Nat} : ∀ {n}, lo1 n (fun _ => true) g = l + 1 → ∃ i, i < n ∧ g i = l
  | 0, e => by cases e
  | n + 1, e => by
    rw [lo1_s] at e
    split at e
    · exact ⟨n, by omega, by omega⟩
    · split at e
      · exact ⟨n, by omega, by omega⟩
      · obtain ⟨i, hi, hg⟩ := lo1_at e
        exact ⟨i, by omega, hg⟩
theorem hi1_at {g : Nat → Nat} {l : Nat} : ∀ {n}, hi1 n (fun _ => true) g = l + 1 → ∃ i, i < n ∧ g i = l
  | 0, e => by cases e
  | n + 1, e => by
    rw [hi1_s] at e
    split at e
    · exact ⟨n, by omega, by omega⟩
    · obtain ⟨i, hi, hg⟩ := hi1_at e
      exact ⟨i, by omega, hg⟩
theorem l_hold182 (ci : CI C E s ps h) (X : WO h w W s0) (e1 : s0 1 = s 1) (G : Good s) (h6 : nn (s 2) ≤ 6) (hpos : 0 < nn (s 2)) (h59 : inR (s 5) 1 9 = true) (K : Q (.inl (some (.int (nI 1)))) h) :
    ∀ n p c, p + n = nn (s 1) → c ≤ 400 + 2 * p → Bt mq_L_holds Q 182 c [some (.ref 0), some (.ref w), none, some (.int (nI p)), none, none, none] [] h := by
  have R := ci.R
  have Y := ci.X
  have hv8 := R.v.2
  have hp5 := R.p
  have j16 : gi h w 16 = nI (nn (s 1)) := by
    rw [show gi h w 16 = s0 1 from X.i.2.1.2.2.2.2.2.2.2.2.2.1, e1]; exact hp5.1
  have hp52 := hp5.2
  intro n
  induction n with
  | zero =>
    intro p c hp hc
    have ep : p = nn (s 1) := by omega
    obtain ⟨l, el⟩ : ∃ l, lowA s = l + 1 := lo1_pos hpos
    have ewb : wbkV s = nI (bak s l) := by unfold wbkV; rw [el]
    obtain ⟨i, hi, hg⟩ := lo1_at el
    have hr : rds s l (s 5) = true := by rw [← hg]; exact G.2.1 i hi
    have hl8 := low_lt R el
    have hb := bak_le (s := s) l
    refine sq_L_holds_182 ⟨X.kw, ?_⟩
    rw [j16]
    refine ⟨fun _ => ⟨rfl, c_wayBack R Y (fun _ => ⟨fun z => ?_, fun _ => ⟨rfl, by omega, q_set Y (by decide) (fun _ => ⟨rfl, by omega, q_read Y R h59 (fun _ => ?_)⟩)⟩⟩)⟩, fun z => absurd (nI_le (a := nn (s 1)) (b := p) (by omega) (by omega)) z⟩
    · rw [ewb] at z; exact absurd z (nI_pos (by omega))
    · rw [ewb, bit_b2i (by omega), bt_mk_in (by omega) (by omega), bak_r l hr]
      exact ⟨fun z => absurd rfl z, fun _ => ⟨Or.inr rfl, K⟩⟩
  | succ n ih =>
    intro p c hp hc
    refine sq_L_holds_182 ⟨X.kw, ?_⟩
    rw [j16]
    refine ⟨fun z => absurd z (nI_ge (by omega) (by omega)), fun _ => ⟨rfl, by omega, q_down Y R (by omega) (fun _ => c_bitc h6 (fun _ => ⟨rfl, by omega, q_set Y (by decide) (fun _ => ⟨fun _ => ?_, fun z => absurd ?_ z⟩)⟩))⟩⟩
    · rw [nI_add]; exact ih (p + 1) _ (by omega) (by omega)
    · rw [R.dn.1]
      exact nI_le (G.2.2.2 _) (by have := R.dn.2; omega)
theorem skw_le (R : Rk C E s) (G : Good s) (hpos : 0 < nn (s 2)) : skwV s ≤ s 6 := by
  have hv8 := R.v.2
  have hs7 := R.sk
  obtain ⟨l, el⟩ : ∃ l, lowA s = l + 1 := lo1_pos hpos
  have hh : higA s ≠ 0 := fun z => by
    have := (lo1_hi1 (p := fun _ => true) (g := cN s) (nn (s 2))).1.mpr z
    unfold lowA at el
    omega
  obtain ⟨u, eu⟩ : ∃ u, higA s = u + 1 := ⟨higA s - 1, by omega⟩
  obtain ⟨i, hi, hgi⟩ := lo1_at el
  obtain ⟨o, ho, hgo⟩ := hi1_at eu
  have hle : l ≤ u := by
    have := (lo1_hi1 (p := fun _ => true) (g := cN s) (nn (s 2))).2
    unfold lowA at el
    unfold higA at eu
    omega
  have ha := G.1 i o hi ho
  rw [hgi, hgo] at ha
  have : u - l ≤ nn (s 6) := by unfold apt at ha; rw [if_pos hle] at ha; exact ha
  unfold skwV
  rw [eu, el]
  show nI u - nI l ≤ s 6
  have hu : u < 8 := by rw [← hgo]; exact com_lt R o ho
  rw [qI_sub hle, hs7.1]
  exact nI_le this (by have := hs7.2; omega)
theorem c_holds (hC : C < 2 ^ 30) (ci : CI C E s ps h) (X : WO h w W s0) (e1 : s0 1 = s 1) (e2 : s0 2 = s 2) (G : Good s) (h6 : nn (s 2) ≤ 6) (hpos : 0 < nn (s 2)) (h59 : inR (s 5) 1 9 = true) (K : Q (.inl (some (.int (nI 1)))) h) : MetQ mq_L_holds [.ref 0, .ref w] h Q := by
  have R := ci.R
  have Y := ci.X
  have hv8 := R.v.2
  have hl := X.m.2.1
  have key : ∀ n k c, k + n = nn (s 2) → c ≤ 1 + 53 * k → Bt mq_L_holds Q 27 c [some (.ref 0), some (.ref w), some (.int (nI (nn (s 2)))), some (.int (nI k)), none, none, none] [] h := by
    intro n
    induction n with
    | zero =>
      intro k c hk hc
      refine sq_L_holds_27 ⟨fun _ => l_hold182 ci X e1 G h6 hpos h59 K (nn (s 1)) 0 c (by omega) (by omega), fun z => absurd (nI_le (a := nn (s 2)) (b := k) (by omega) (by omega)) z⟩
    | succ n ih =>
      intro k c hk hc
      have hk2 : k < nn (s 2) := by omega
      have T : ∀ c', c' ≤ c + 53 → Bt mq_L_holds Q 174 c' [some (.ref 0), some (.ref w), some (.int (nI (nn (s 2)))), some (.int (nI k)), none, none, none] [] h := by
        intro c' hc'
        refine sq_L_holds_174 ?_
        rw [nI_add]
        exact ih (k + 1) c' (by omega) (by omega)
      have hc8 := com_lt R k hk2
      have T80 := l_hold80 (w := w) hC ci G h6 hk2 (c0 := c + 6) (by omega) (fun c' hc' => T c' (by omega)) (nn (s 2)) 0 (c + 6) (by omega) (by omega)
      have fin : ∀ y, y = nI (cN s k) → (0 : Nat) = 0 ∧ ((((c + 2) + 2) + 1) ≤ 500 ∧ MetPM m_X11_setting [.ref 0, .int (nI 5)] h (rI (fun _ _ => False) (fun x16 h15 => Hi h h15 → ((0 : Nat) = 0 ∧ (((((c + 2) + 2) + 1) + 1) ≤ 500 ∧ MetPM m_X11_readers [.ref 0, .int x16] h15 (rI (fun _ _ => False) (fun x18 h17 => Hi h15 h17 → ((¬ ((x18 >>> (y &&& 31)) &&& (nI 1)) = 0 → Bt mq_L_holds Q 80 ((((c + 2) + 2) + 1) + 1) [some (.ref 0), some (.ref w), some (.int (nI (nn (s 2)))), some (.int (nI k)), some (.int y), some (.int (nI 0)), none] [] h17) ∧ (((x18 >>> (y &&& 31)) &&& (nI 1)) = 0 → (isB (nI 0) ∧ Q (.inl (some (.int (nI 0)))) h17)))))))))) := by
        intro y hy
        subst hy
        refine ⟨rfl, by omega, q_set Y (by decide) (fun _ => ⟨rfl, by omega, q_read Y R h59 (fun _ => ?_)⟩)⟩
        rw [bit_b2i (by omega), bt_mk_in (by omega) (com_c R hk2).2, G.2.1 k hk2]
        exact ⟨fun _ => T80, fun z => absurd z (by decide)⟩
      refine sq_L_holds_27 ⟨fun z => absurd z (nI_ge hk2 (by omega)), fun _ => ⟨rfl, by omega, q_mem Y R hk2 (by decide) (fun _ => ⟨fun z => ⟨rfl, by omega, q_mem Y R hk2 (by decide) (fun _ => fin _ ?_)⟩, fun z => ⟨rfl, by omega, q_mem Y R hk2 (by decide) (fun _ => fin _ ?_)⟩⟩)⟩⟩
      · rw [mbV_f (by decide)] at z ⊢; exact (co_c R hk2).1 z
      · rw [mbV_f (by decide)] at z ⊢; exact (co_c R hk2).2 z
  refine tq_L_holds ⟨X.kw, g3 X.r.2.2.2.2.2.1 ⟨X.al.rc, c_lsize X.al (fun _ => ⟨rfl, c_skewNow R Y (fun _ => ⟨rfl, by decide, q_set Y (by decide) (fun _ => ⟨fun _ => ?_, fun z => absurd ?_ z⟩)⟩)⟩)⟩⟩
  · rw [hl, e2]
    exact key (nn (s 2)) 0 1 (by omega) (by omega)
  · exact skw_le R G hpos
end
