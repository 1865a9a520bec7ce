/-! ===== the reference's minute ===== -/
section
variable {q : Nat → PH → Prop} {kk : Int32 → PH → Prop} {kv : PH → Prop} {h : PH} {s : RW} {C E : Nat}
/-- what a minute of the reference may change -/
def WM (b k : Nat) : Bool := (Nat.beq b 132 && Nat.blt k 253) || (Nat.beq b 130 && (Nat.beq k 25 || (Nat.beq k 26 || Nat.beq k 27)))
theorem WM_t {k : Nat} (h : k < 253) : WM 132 k = true := by
  have e : Nat.blt k 253 = true := Nat.ble_eq_true_of_le h
  show ((true && Nat.blt k 253) || _) = true
  rw [e]; rfl
theorem WR_WM {b k : Nat} (e : WM b k = false) : WR b k = false := by
  simp only [WM, Bool.or_eq_false_iff] at e
  exact e.1
theorem s_begins {m : Nat} {v : Int32} (hs : h.1 132 = s) (he : isN (s 19) E) (hE : E < 2 ^ 31) (hm : m < 12) (K : ∀ h', Fr WM h h' → h'.1 132 = begS s m v → gi h' 130 27 = gi h 130 27 + nI 1 → gi h' 130 25 = gi h 130 25 → gi h' 130 26 = gi h 130 26 → kv h') : MetPM m_X12_begins [.ref 130, .int (nI m), .int v] h (rV q kv) := by
  refine t_X12_begins (s_lays (s := s) (by rw [si_b (by omega)]; exact hs) (by omega) (fun h1 e1 r1 => ⟨rv (by omega), rv (by omega), ?_⟩))
  have r1' : h1.1 132 = lyS s m 2 v := r1
  rw [rd r1' 11 (by omega), rd r1' 8 (by omega), lyS_lo (by omega), lyS_lo (by omega)]
  refine s_lays r1' (by omega) (fun h2 e2 r2 => ?_)
  have r2' : h2.1 132 = lyS (lyS s m 2 v) m 3 (s 11 + s 8) := r2
  refine s_notes r2' (E := E) (by rw [lyS_lo (by omega), lyS_lo (by omega)]; exact he) hE (fun h3 f3 r3 => ?_)
  have f : Fr WM h h2 := by
    rw [e2, e1]
    exact ((Fr.wr h _ rfl).and _ (WM_t (by omega))).and _ (WM_t (by omega))
  have g : ∀ k, gi h3 130 k = gi (si h 130 27 (gi h 130 27 + nI 1)) 130 k := fun k => by
    rw [f3.1 130 k rfl, e2, e1, gi_ob (by omega), gi_ob (by omega)]
  exact K h3 (f.trans (f3.mono fun b k e => WR_WM e)) r3 (by rw [g, gi_same]) (by rw [g, gi_ok (by omega)]) (by rw [g, gi_ok (by omega)])
theorem l_measures {h0 : PH} (R : Rk C E s) (hp : hasP s = true) (K : ∀ h', Fr WM h0 h' → h'.1 132 = s → gi h' 130 25 = nI (mCnt s) → gi h' 130 26 = mSum s → gi h' 130 27 = gi h0 130 27 → kv h') :
    ∀ k i h, i + k = nn (s 2) → Fr WM h0 h → h.1 132 = s → gi h 130 25 = nI (cnt i (mesd s)) → gi h 130 26 = sumI i (mesd s) (fun m => mf s m 4) → gi h 130 27 = gi h0 130 27 → At m_X12_measures (rV q kv) 12 0 [some (.ref 130), some (.int (nI i))] [] h := by
  have hm2 := R.m.2
  intro k
  induction k with
  | zero =>
    intro i h hi f hs e1 e2 e3
    refine u_X12_measures_12 ⟨rv (by omega), ?_⟩
    rw [rd hs 2 (by omega), R.m.1]
    refine pk_le (nn (s 2)) i (fun _ => ?_) (fun z => absurd z (by omega))
    have : i = nn (s 2) := by omega
    subst this
    exact K h f hs e1 e2 e3
  | succ k ih =>
    intro i h hi f hs e1 e2 e3
    refine u_X12_measures_12 ⟨rv (by omega), ?_⟩
    rw [rd hs 2 (by omega), R.m.1]
    refine pk_le (nn (s 2)) i (fun z => absurd z (by omega)) (fun _ => ?_)
    refine s_hasPlan hs (bq (fun z => absurd (z.symm.trans hp) (by decide)) (fun _ => s_isPlanned R hs (by omega) (bq (fun c => ?_) (fun c => s_isReady R hp hs (by omega) (bp (fun c2 => ?_) (fun c2 => ?_))))))
    · rw [nI_add]
      refine ih (i + 1) h (by omega) f hs ?_ ?_ e3
      · rw [e1, cnt, show mesd s i = false by simp [mesd, c]]; rfl
      · rw [e2, sumI, show mesd s i = false by simp [mesd, c]]
    · rw [nI_add]
      refine ih (i + 1) h (by omega) f hs ?_ ?_ e3
      · rw [e1, cnt, show mesd s i = false by simp [mesd, c2]]; rfl
      · rw [e2, sumI, show mesd s i = false by simp [mesd, c2]]
    · refine s_of (s := s) (by rw [si_b (by omega)]; exact hs) (by omega) ?_
      rw [nI_add]
      refine ih (i + 1) _ (by omega) ((f.and _ rfl).and _ rfl) (by rw [si_b (by omega), si_b (by omega)]; exact hs) ?_ ?_ ?_
      · rw [gi_ok (by omega), gi_same, e1, nI_add, cnt, show mesd s i = true by simp [mesd, c, c2]]
      · rw [gi_same, gi_ok (by omega), e2, sumI, show mesd s i = true by simp [mesd, c, c2]]
      · rw [gi_ok (by omega), gi_ok (by omega)]; exact e3
theorem s_measures (R : Rk C E s) (hs : h.1 132 = s) (K : ∀ h', Fr WM h h' → h'.1 132 = s → (hasP s = true → gi h' 130 25 = nI (mCnt s) ∧ gi h' 130 26 = mSum s) → (hasP s = false → gi h' 130 25 = nI 0) → gi h' 130 27 = gi h 130 27 → kv h') : MetPM m_X12_measures [.ref 130] h (rV q kv) := by
  have hm2 := R.m.2
  refine t_X12_measures ?_
  have hs1 : (si (si h 130 25 (nI 0)) 130 26 (nI 0)).1 132 = s := by rw [si_b (by omega), si_b (by omega)]; exact hs
  have f1 : Fr WM h (si (si h 130 25 (nI 0)) 130 26 (nI 0)) := (Fr.wr h _ rfl).and _ rfl
  have g25 : gi (si (si h 130 25 (nI 0)) 130 26 (nI 0)) 130 25 = nI 0 := by rw [gi_ok (by omega), gi_same]
  have g27 : gi (si (si h 130 25 (nI 0)) 130 26 (nI 0)) 130 27 = gi h 130 27 := by rw [gi_ok (by omega), gi_ok (by omega)]
  cases hp : hasP s
  · refine u_X12_measures_12 ⟨rv (by omega), ?_⟩
    have fin : kv (si (si h 130 25 (nI 0)) 130 26 (nI 0)) := K _ f1 hs1 (fun z => by rw [hp] at z; cases z) (fun _ => g25) g27
    refine cq (fun _ => fin) (fun _ => s_hasPlan hs1 (bq (fun _ => fin) (fun z => by rw [hp] at z; cases z)))
  · exact l_measures (h0 := h) R hp (fun h' f' s' a b c => K h' f' s' (fun _ => ⟨a, b⟩) (fun z => by rw [hp] at z; cases z) c) _ 0 _ (Nat.zero_add _) f1 hs1 g25 gi_same g27
theorem endA_t {n : Nat} (e : endC (endA n s) n = true) : endA (n + 1) s = endS (endA n s) n := by rw [endA, e]
theorem endA_f {n : Nat} (e : endC (endA n s) n = false) : endA (n + 1) s = endA n s := by rw [endA, e]
theorem l_endsChanges {h0 : PH} (R : RkE 0 C E s) (hC : C < 2 ^ 30) (hE : E + 12 < 2 ^ 31) (K : ∀ h', Fr WR h0 h' → h'.1 132 = endA (nn (s 2)) s → kv h') :
    ∀ k i h, i + k = nn (s 2) → Fr WR h0 h → h.1 132 = endA i s → At m_X12_endsChanges (rV q kv) 2 0 [some (.ref 130), some (.int (nI i))] [] h := by
  have hm2 := R.1.m.2
  intro k
  induction k with
  | zero =>
    intro i h hi f hs
    refine u_X12_endsChanges_2 ⟨rv (by omega), ?_⟩
    rw [rd hs 2 (by omega), (endA_agL i).n2, R.1.m.1]
    refine pk_le (nn (s 2)) i (fun _ => ?_) (fun z => absurd z (by omega))
    have : i = nn (s 2) := by omega
    subst this
    exact K h f hs
  | succ k ih =>
    intro i h hi f hs
    have RE := R.endA hC hE i (by omega)
    refine u_X12_endsChanges_2 ⟨rv (by omega), ?_⟩
    rw [rd hs 2 (by omega), (endA_agL i).n2, R.1.m.1]
    refine pk_le (nn (s 2)) i (fun z => absurd z (by omega)) (fun _ => ?_)
    refine s_isDown hs (by omega) (bq (fun c => u_X12_endsChanges_84 ?_) (fun c => s_of hs (by omega) ⟨rv (by omega), ?_⟩))
    · rw [nI_add]
      exact ih (i + 1) h (by omega) f (by rw [endA_f (by simp [endC, c])]; exact hs)
    · rw [rd hs 11 (by omega)]
      refine cq (fun c2 => ?_) (fun c2 => u_X12_endsChanges_84 ?_)
      · refine s_of hs (by omega) (s_lays hs (by omega) (fun h1 e1 r1 => s_lays r1 (by omega) (fun h2 e2 r2 => s_lays r2 (by omega) (fun h3 e3 r3 => s_lays r3 (by omega) (fun h4 e4 r4 => ?_)))))
        have r4' : h4.1 132 = endU (endA i s) i := r4
        refine s_of r4' (by omega) (s_notes r4' (E := E + i) (by rw [endU_lo (by omega)]; exact RE.2.2.2) (by omega) (fun h5 f5 r5 => u_X12_endsChanges_84 ?_))
        rw [nI_add]
        refine ih (i + 1) h5 (by omega) ?_ ?_
        · refine Fr.trans ?_ f5
          rw [e4, e3, e2, e1]
          exact (((f.and _ (WR_t (by omega))).and _ (WR_t (by omega))).and _ (WR_t (by omega))).and _ (WR_t (by omega))
        · rw [endA_t (by simp [endC, c, c2]), r5, endU_1]; rfl
      · rw [nI_add]
        exact ih (i + 1) h (by omega) f (by rw [endA_f (by simp [endC, c2])]; exact hs)
theorem s_endsChanges (R : RkE 0 C E s) (hC : C < 2 ^ 30) (hE : E + 12 < 2 ^ 31) (hs : h.1 132 = s) (K : ∀ h', Fr WR h h' → h'.1 132 = endA (nn (s 2)) s → kv h') : MetPM m_X12_endsChanges [.ref 130] h (rV q kv) :=
  t_X12_endsChanges (l_endsChanges R hC hE K _ 0 h (Nat.zero_add _) (Fr.refl _ _) hs)
theorem s_stops (hs : h.1 132 = s) (he : isN (s 19) E) (hE : E < 2 ^ 31) (K : ∀ h', Fr WR h h' → h'.1 132 = stopS s → kv h') : MetPM m_X12_stops [.ref 130] h (rV q kv) := by
  refine t_X12_stops ⟨rv (by omega), rv (by omega), rv (by omega), ?_⟩
  intro h1
  have r1 : h1.1 132 = ups (ups s 18 (s 12)) 12 (nI 3) := by
    show (si (si h 132 (nI 18).toNatClampNeg (gi h 132 (nI 12).toNatClampNeg)) 132 (nI 12).toNatClampNeg (nI 3)).1 132 = _
    rw [rd hs 12 (by omega), show (nI 18).toNatClampNeg = 18 from cl (by omega), show (nI 12).toNatClampNeg = 12 from cl (by omega), si_a, si_a, hs]
  refine ⟨rv (by omega), ?_⟩
  rw [rd r1 15 (by omega), ups_n (by omega), ups_n (by omega)]
  exact s_notes r1 (E := E) (by rw [ups_n (by omega), ups_n (by omega)]; exact he) hE (fun h2 f2 r2 => K h2 (((Fr.wr h _ rfl).and _ rfl).trans f2) r2)
theorem s_isDone (hs : h.1 132 = s) (he : isN (s 19) E) (hE : E < 2 ^ 31) (K : ∀ h', Fr WR h h' → h'.1 132 = doneS s → kv h') : MetPM m_X12_isDone [.ref 130] h (rV q kv) := by
  refine t_X12_isDone ⟨rv (by omega), rv (by omega), ?_⟩
  rw [cl (by omega)]
  have r1 : (si h 132 12 (nI 4)).1 132 = ups s 12 (nI 4) := by rw [si_a, hs]
  rw [rd r1 13 (by omega), ups_n (by omega)]
  exact s_notes r1 (E := E) (by rw [ups_n (by omega)]; exact he) hE (fun h2 f2 r2 => K h2 ((Fr.wr h _ rfl).trans f2) r2)
theorem s_takesNext (R : Rk C E s) (hE : E < 2 ^ 31) (e12 : s 12 = nI 2) (hs : h.1 132 = s) (K : ∀ h', Fr WR h h' → h'.1 132 = nextS s → kv h') : MetPM m_X12_takesNext [.ref 130] h (rV q kv) := by
  have hp := hasP_t e12 (by omega) (by omega)
  have htu := R.tu hp
  have hw := R.w.2
  have h15 := htu.1.2
  have e15 : s 15 + nI 1 = nI (nn (s 15) + 1) := by
    have : s 15 + nI 1 = nI (nn (s 15)) + nI 1 := by rw [← htu.1.1]
    rw [this, nI_add]
  refine t_X12_takesNext ⟨rv (by omega), rv (by omega), rv (by omega), ?_⟩
  intro h1
  have r1 : h1.1 132 = nextU s := by
    show (si (si h 132 (nI 15).toNatClampNeg (gi h 132 (nI 15).toNatClampNeg + nI 1)) 132 (nI 12).toNatClampNeg (nI 1)).1 132 = _
    rw [rd hs 15 (by omega), show (nI 15).toNatClampNeg = 15 from cl (by omega), show (nI 12).toNatClampNeg = 12 from cl (by omega), si_a, si_a, hs]; rfl
  have f1 : Fr WR h h1 := (Fr.wr h _ rfl).and _ rfl
  have u15 : nextU s 15 = nI (nn (s 15) + 1) := by unfold nextU; rw [ups_n (by omega), ups_s, e15]
  have u : ∀ i, i ≠ 12 → i ≠ 15 → nextU s i = s i := fun i a b => by unfold nextU; rw [ups_n a, ups_n b]
  clear_value h1
  refine ⟨rv (by omega), rv (by omega), ?_⟩
  rw [rd r1 3 (by omega), rd r1 15 (by omega), u 3 (by omega) (by omega), R.w.1, u15]
  refine pk_le (nn (s 3)) (nn (s 15) + 1) (fun c => ⟨rv (by omega), rv (by omega), rv (by omega), ?_⟩) (fun c => ?_)
  · have r2 : (si h1 132 (nI 15).toNatClampNeg (nI 0)).1 132 = ups (nextU s) 15 (nI 0) := by rw [cl (by omega), si_a, r1]
    have f2 : Fr WR h (si h1 132 (nI 15).toNatClampNeg (nI 0)) := f1.and _ rfl
    have u2 : ∀ i, i ≠ 12 → i ≠ 15 → (ups (nextU s) 15 (nI 0)) i = s i := fun i a b => by rw [ups_n b, u i a b]
    rw [rd r2 14 (by omega), rd r2 13 (by omega), rd r2 17 (by omega), u2 14 (by omega) (by omega), u2 13 (by omega) (by omega), u2 17 (by omega) (by omega)]
    have e9 : nextS s = if s 14 = s 13 then doneS (ups (nextU s) 15 (nI 0)) else ups (ups (nextU s) 15 (nI 0)) 14 (s 14 + (if s 17 = nI 1 then nI 1 else -(nI 1))) := by
      unfold nextS; rw [if_neg (by omega)]
    rw [e9] at K
    refine ⟨fun c2 => ⟨rv (by omega), rv (by omega), ⟨fun c3 => ⟨rv (by omega), ?_⟩, fun c3 => ⟨rv (by omega), ?_⟩⟩⟩, fun c2 => ?_⟩
    · rw [if_neg c2, if_neg c3] at K
      intro h2
      exact K _ (f2.and _ rfl) (by show (si _ _ _ _).1 132 = _; rw [show (nI 14).toNatClampNeg = 14 from cl (by omega), si_a, r2])
    · rw [if_neg c2, if_pos c3] at K
      intro h2
      exact K _ (f2.and _ rfl) (by show (si _ _ _ _).1 132 = _; rw [show (nI 14).toNatClampNeg = 14 from cl (by omega), si_a, r2])
    · rw [if_pos c2] at K
      exact s_isDone r2 (E := E) (by rw [u2 19 (by omega) (by omega)]; exact R.ev) hE (fun h3 f3 r3 => K h3 (f2.trans f3) r3)
  · have e9 : nextS s = nextU s := by unfold nextS; rw [if_pos c]
    rw [e9] at K
    exact K h1 f1 r1
theorem rolA_t {n : Nat} (e : rolC (rolA n s) n = true) : rolA (n + 1) s = begS (rolA n s) n (s 14) ∧ rolN (n + 1) s = rolN n s + 1 := by
  constructor
  · rw [rolA, e]
  · rw [rolN, e]
theorem rolA_f {n : Nat} (e : rolC (rolA n s) n = false) : rolA (n + 1) s = rolA n s ∧ rolN (n + 1) s = rolN n s := by
  constructor
  · rw [rolA, e]
  · rw [rolN, e]
theorem rolA_lo : ∀ n i, i < 49 → i ≠ 19 → rolA n s i = s i
  | 0, _, _, _ => rfl
  | n + 1, i, h, h2 => by
    have ih := rolA_lo n i h h2
    cases q : rolC (rolA n s) n
    · rw [(rolA_f q).1]; exact ih
    · rw [(rolA_t q).1, beg_lo h h2]; exact ih
theorem rolA_agL : ∀ n, agL s (rolA n s)
  | 0 => agL.refl s
  | n + 1 => by
    unfold rolA
    split
    · exact (rolA_agL n).trans agL_beg
    · exact rolA_agL n
theorem rolN_le : ∀ n, rolN n s ≤ n
  | 0 => Nat.le_refl _
  | n + 1 => by
    have ih := rolN_le n
    cases q : rolC (rolA n s) n
    · rw [(rolA_f q).2]; omega
    · rw [(rolA_t q).2]; omega
theorem Rk.rolA (R : Rk C E s) (hC : C < 2 ^ 30) (hE : E + 12 < 2 ^ 31) (hp : hasP s = true) : ∀ n, n ≤ nn (s 2) → Rk C (E + n) (rolA n s)
  | 0, _ => R
  | n + 1, hn => by
    have hm2 := R.m.2
    have ih := Rk.rolA R hC hE hp n (by omega)
    unfold _root_.Jvm.Pilot.CWaveUpgradeLaw_law_r4442_d37db7.rolA
    split
    · refine ih.beg hC (by omega) (by rw [rolA_lo n 2 (by omega) (by omega)]; omega) ?_
      rw [rolA_lo n 0 (by omega) (by omega)]
      exact R.se hp
    · exact ih.mono (Nat.le_refl _) (by omega)
theorem l_rolls {h0 : PH} (R : Rk C E s) (hC : C < 2 ^ 30) (hE : E + 13 < 2 ^ 31) (e12 : s 12 = nI 1) (K : ∀ h', Fr WM h0 h' → h'.1 132 = rolS s → gi h' 130 27 = gi h0 130 27 + nI (rolN (nn (s 2)) s) → kv h') :
    ∀ k i h, i + k = nn (s 2) → Fr WM h0 h → h.1 132 = rolA i s → gi h 130 27 = gi h0 130 27 + nI (rolN i s) → At m_X12_rolls (rV q kv) 2 0 [some (.ref 130), some (.int (nI i))] [] h := by
  have hp := hasP_t e12 (by omega) (by omega)
  have hm2 := R.m.2
  intro k
  induction k with
  | zero =>
    intro i h hi f hs e27
    have Ri := R.rolA hC (by omega) hp i (by omega)
    have hpi : hasP (rolA i s) = true := (hasP_of (rolA_lo i 12 (by omega) (by omega))).trans hp
    refine u_X12_rolls_2 ⟨rv (by omega), ?_⟩
    rw [rd hs 2 (by omega), rolA_lo i 2 (by omega) (by omega), R.m.1]
    refine pk_le (nn (s 2)) i (fun _ => ?_) (fun z => absurd z (by omega))
    have hin : i = nn (s 2) := by omega
    subst hin
    refine s_isComplete Ri hpi hs (bp (fun c => ?_) (fun c => ⟨rv (by omega), rv (by omega), rv (by omega), ?_⟩))
    · have e9 : rolS s = rolA (nn (s 2)) s := by unfold rolS; rw [c]; rfl
      exact K h f (by rw [e9]; exact hs) e27
    · have e9 : rolS s = soakS (rolA (nn (s 2)) s) := by unfold rolS; rw [if_pos c]
      have r1 : (si h 132 (nI 12).toNatClampNeg (nI 2)).1 132 = ups (rolA (nn (s 2)) s) 12 (nI 2) := by rw [cl (by omega), si_a, hs]
      rw [rd r1 11 (by omega), rd r1 9 (by omega), ups_n (by omega), ups_n (by omega)]
      intro y3
      refine ⟨rv (by omega), rv (by omega), ?_⟩
      have r2 : (si (si h 132 (nI 12).toNatClampNeg (nI 2)) 132 (nI 16).toNatClampNeg y3).1 132 = ups (ups (rolA (nn (s 2)) s) 12 (nI 2)) 16 (rolA (nn (s 2)) s 11 + rolA (nn (s 2)) s 9) := by rw [show (nI 16).toNatClampNeg = 16 from cl (by omega), si_a, r1]
      rw [rd r2 15 (by omega), ups_n (by omega), ups_n (by omega)]
      intro y4
      refine s_notes r2 (E := E + nn (s 2)) (by rw [ups_n (by omega), ups_n (by omega)]; exact Ri.ev) (by omega) (fun h5 f5 r5 => K h5 (((f.and _ rfl).and _ rfl).trans (f5.mono fun b k e => WR_WM e)) (by rw [e9, r5]; rfl) ?_)
      rw [f5.1 130 27 rfl, gi_ob (by omega), gi_ob (by omega)]; exact e27
  | succ k ih =>
    intro i h hi f hs e27
    have Ri := R.rolA hC (by omega) hp i (by omega)
    have hpi : hasP (rolA i s) = true := (hasP_of (rolA_lo i 12 (by omega) (by omega))).trans hp
    have n2 : rolA i s 2 = s 2 := rolA_lo i 2 (by omega) (by omega)
    have hmi : i < nn (rolA i s 2) := by rw [n2]; omega
    have e14 : rolA i s 14 = s 14 := rolA_lo i 14 (by omega) (by omega)
    have hse := R.se hp
    have h14 := hse.1.2
    have hv8 := R.v.2
    refine u_X12_rolls_2 ⟨rv (by omega), ?_⟩
    rw [rd hs 2 (by omega), n2, R.m.1]
    refine pk_le (nn (s 2)) i (fun z => absurd z (by omega)) (fun _ => ⟨rv (by omega), ?_⟩)
    rw [rd hs 15 (by omega)]
    have no : rolC (rolA i s) i = false → ∀ h, Fr WM h0 h → h.1 132 = rolA i s → gi h 130 27 = gi h0 130 27 + nI (rolN i s) → At m_X12_rolls (rV q kv) 78 0 [some (.ref 130), some (.int (nI i))] [] h := fun c h f hs e => by
      refine u_X12_rolls_78 ?_
      rw [nI_add]
      exact ih (i + 1) h (by omega) f (by rw [(rolA_f c).1]; exact hs) (by rw [(rolA_f c).2]; exact e)
    refine s_isOfWave Ri hs hmi (bq (fun c => no (by simp [rolC, c]) h f hs e27) (fun c1 => s_isFree Ri hs hmi (bq (fun c => no (by simp [rolC, c]) h f hs e27) (fun c2 => s_isDown hs (by omega) (bp (fun c3 => ?_) (fun c => no (by simp [rolC, c]) h f hs e27))))))
    refine s_isReady Ri hpi hs hmi (bp (fun c4 => ⟨rv (by omega), ?_⟩) (fun c => no (by simp [rolC, c]) h f hs e27))
    rw [rd hs 14 (by omega), e14, hse.1.1]
    refine s_why Ri hs hmi (by omega) ⟨fun c => no ?_ h f hs e27, fun c => ⟨rv (by omega), ?_⟩⟩
    · have : ¬ whyN (rolA i s) i (nn (s 14)) = 0 := fun z => c (by rw [z]; rfl)
      simp [rolC, e14, this]
    · have c5 : whyN (rolA i s) i (nn (s 14)) = 0 := by
        have hle : whyN (rolA i s) i (nn (s 14)) < 8 := by unfold whyN; repeat' split <;> first | omega | skip
        rw [← nI_0, nI_eq (by omega) (by omega)] at c
        exact c
      rw [rd hs 14 (by omega), e14]
      have cc : rolC (rolA i s) i = true := by simp [rolC, c1, c2, c3, c4, e14, c5]
      refine s_begins hs (E := E + i) Ri.ev (by omega) (by omega) (fun h1 f1 r1 g1 _ _ => u_X12_rolls_78 ?_)
      rw [nI_add]
      refine ih (i + 1) h1 (by omega) (f.trans f1) (by rw [(rolA_t cc).1]; exact r1) ?_
      rw [(rolA_t cc).2, g1, e27, Int32.add_assoc, nI_add]
theorem s_rolls (R : Rk C E s) (hC : C < 2 ^ 30) (hE : E + 13 < 2 ^ 31) (e12 : s 12 = nI 1) (hs : h.1 132 = s) (K : ∀ h', Fr WM h h' → h'.1 132 = rolS s → gi h' 130 27 = gi h 130 27 + nI (rolN (nn (s 2)) s) → kv h') : MetPM m_X12_rolls [.ref 130] h (rV q kv) := by
  refine t_X12_rolls (l_rolls R hC hE e12 K _ 0 h (Nat.zero_add _) (Fr.refl _ _) hs ?_)
  show gi h 130 27 = gi h 130 27 + nI 0
  rw [show nI 0 = (0 : Int32) from rfl, Int32.add_zero]
theorem Rk.min2 (R : Rk C E s) (hC : C < 2 ^ 29) (hE : E + 13 < 2 ^ 31) : Rk (C + 1) (E + 13) (min2 s) := by
  have R1 := R.min1 hC (by omega)
  unfold _root_.Jvm.Pilot.CWaveUpgradeLaw_law_r4442_d37db7.min2
  split
  · rename_i c; exact R1.stop (by omega) c.1
  · exact R1.mono (Nat.le_refl _) (by omega)
theorem Rk.min3 (R : Rk C E s) (hC : C < 2 ^ 29) (hE : E + 14 < 2 ^ 31) : Rk (C + 1) (E + 14) (min3 s) := by
  have R2 := R.min2 hC (by omega)
  unfold _root_.Jvm.Pilot.CWaveUpgradeLaw_law_r4442_d37db7.min3
  split
  · rename_i c; exact R2.next (by omega) c.1
  · exact R2.mono (Nat.le_refl _) (by omega)
theorem Rk.minS (R : Rk C E s) (hC : C < 2 ^ 29) (hE : E + 30 < 2 ^ 31) : Rk (C + 1) (E + 30) (minS s) := by
  have R3 := R.min3 hC (by omega)
  have hm2 := R3.m.2
  unfold _root_.Jvm.Pilot.CWaveUpgradeLaw_law_r4442_d37db7.minS
  split
  · rename_i c
    have hp := hasP_t c (by omega) (by omega)
    have R4 := R3.rolA (by omega) (by omega) hp _ (Nat.le_refl _)
    unfold rolS
    split
    · exact (R4.soak (by omega) (by omega) ((hasP_of (rolA_lo _ 12 (by omega) (by omega))).trans hp)).mono (Nat.le_refl _) (by omega)
    · exact R4.mono (Nat.le_refl _) (by omega)
  · exact R3.mono (Nat.le_refl _) (by omega)
theorem s_minute (R : Rk C E s) (hC : C < 2 ^ 29) (hE : E + 30 < 2 ^ 31) (hs : h.1 132 = s) (K : ∀ h', Fr WM h h' → h'.1 132 = minS s → gi h' 130 27 = gi h 130 27 + nI (minN s) → kv h') : MetPM m_X12_minute [.ref 130] h (rV q kv) := by
  have R1 := R.min1 hC (by omega)
  have R2 := R.min2 hC (by omega)
  have R3 := R.min3 hC (by omega)
  refine t_X12_minute ⟨rv (by omega), rv (by omega), ?_⟩
  have e0 : (si h 132 (nI 11).toNatClampNeg (gi h 132 (nI 11).toNatClampNeg + nI 1)).1 132 = ups s 11 (s 11 + nI 1) := by rw [cl (by omega), si_a, hs, show gi h 132 11 = s 11 from congrFun hs 11]
  have e2 : (ups s 11 (s 11 + nI 1)) 2 = s 2 := ups_n (by omega)
  refine s_endsChanges (R.tick (by omega)) (by omega) (by omega) e0 (fun h1 f1 r1 => ?_)
  rw [e2] at r1
  have f1' : Fr WM h h1 := (Fr.wr h _ rfl).trans (f1.mono fun b k e => WR_WM e)
  have g1 : gi h1 130 27 = gi h 130 27 := by rw [f1.1 130 27 rfl, gi_ob (by omega)]
  have three : ∀ h3, Fr WM h h3 → h3.1 132 = min3 s → gi h3 130 27 = gi h 130 27 → At m_X12_minute (rV q kv) 81 0 [some (.ref 130)] [] h3 := fun h3 f3 r3 g3 => by
    refine u_X12_minute_81 ⟨rv (by omega), ?_⟩
    rw [rd r3 12 (by omega)]
    refine ⟨fun c => u_X12_minute_96 (K h3 f3 ?_ ?_), fun c => s_rolls R3 (by omega) (by omega) c r3 (fun h4 f4 r4 g4 => u_X12_minute_96 (K h4 (f3.trans f4) ?_ ?_))⟩
    · unfold minS; rw [if_neg c]; exact r3
    · unfold minN; rw [if_neg c, g3, show nI 0 = (0 : Int32) from rfl, Int32.add_zero]
    · unfold minS; rw [if_pos c]; exact r4
    · unfold minN; rw [if_pos c, g4, g3]
  have two : ∀ h2, Fr WM h h2 → h2.1 132 = min2 s → gi h2 130 27 = gi h 130 27 → At m_X12_minute (rV q kv) 49 0 [some (.ref 130)] [] h2 := fun h2 f2 r2 g2 => by
    refine u_X12_minute_49 ⟨rv (by omega), ?_⟩
    rw [rd r2 12 (by omega), rd r2 11 (by omega), rd r2 16 (by omega)]
    refine ⟨fun c => three h2 f2 ?_ g2, fun c => ⟨rv (by omega), rv (by omega), cq (fun c2 => three h2 f2 ?_ g2) (fun c2 => s_takesNext R2 (by omega) c r2 (fun h3 f3 r3 => three h3 (f2.trans (f3.mono fun b k e => WR_WM e)) ?_ ?_))⟩⟩
    · unfold min3; rw [if_neg (fun z => c z.1)]; exact r2
    · unfold min3; rw [if_neg (fun z => z.2 c2)]; exact r2
    · unfold min3; rw [if_pos ⟨c, c2⟩]; exact r3
    · rw [f3.1 130 27 rfl]; exact g2
  have r1' : h1.1 132 = min1 s := r1
  refine s_measures R1 r1' (fun h2 f2 r2 g2 _ g27 => s_isGoing r2 (bq (fun c => two h2 (f1'.trans f2) ?_ (g27.trans g1)) (fun c => ⟨rv (by omega), ?_⟩)))
  · unfold min2; rw [if_neg (fun z => by rw [c] at z; cases z.1)]; exact r2
  · have g3 := g2 (going_P c)
    rw [rd r2 10 (by omega), g3.1, g3.2]
    refine cq (fun c2 => two h2 (f1'.trans f2) ?_ (g27.trans g1)) (fun c2 => s_stops r2 R1.ev (by omega) (fun h3 f3 r3 => two h3 ((f1'.trans f2).trans (f3.mono fun b k e => WR_WM e)) ?_ ?_))
    · unfold min2
      rw [if_neg (fun z => by
        have := z.2
        simp only [over, decide_eq_true c2] at this
        cases this)]
      exact r2
    · unfold min2
      rw [if_pos ⟨c, by simp only [over, decide_eq_false c2]; rfl⟩]; exact r3
    · rw [f3.1 130 27 rfl]; exact g27.trans g1
end
