/-! ===== what is added to the class's draft, 2 ===== -/
section
variable {q : Nat → PH → Prop} {kk : Int32 → PH → Prop} {kl : Int64 → PH → Prop} {kv : PH → Prop} {h h' : PH} {s t : RW} {C E L : Nat} {a b n p w : Nat} {f g : FI} {nm : Nat → Int64}
theorem DN.l (e : h'.2 = h.2) (e0 : nn (t 0) = nn (s 0)) (e1 : nn (t 1) = nn (s 1)) (e2 : nn (t 2) = nn (s 2)) (D : DN nm s h) : DN nm t h' := D.same e0 e1 e2 (fun b j _ => by
  show h'.2.1 b j = h.2.1 b j
  rw [e])
/-! waves -/
theorem wv_lt (P : PR s) {m : Nat} (hm : m < nn (s 2)) : wvOf s m = -1 ∨ (isN (wvOf s m) 4 ∧ nn (wvOf s m) < nn (s 3)) := P.x.2.2.2.2.2.1 _ (P.x.2.2.2.2.1 m hm).2
theorem c_addWave (P : PR s) (h5 : nn (s 3) < 5) (D : DR nm s h) (K : ∀ h', Fz WD VD h h' → DR nm (wvS s) h' → kv h') : MetPM m_X5_addWave [.ref 30] h (rV q kv) := by
  have W := P.wv h5
  have h2 := P.x.2.1.2
  have o : ∀ i, i ≠ 3 → wvS s i = s i := fun i x1 => ups_n x1
  have em : ∀ m w, mf (wvS s) m w = mf s m w := fun m w => o _ (by omega)
  have e1 : gi h 30 12 = nI (nn (s 3)) := D.1.wa.trans P.x.2.2.1.1
  refine t_X5_addWave ?_
  rw [e1, cl (by omega)]
  refine br_f (nI_ge (by omega) (by omega)) ⟨vp_in_nI (by omega) (by omega), ?_⟩
  rw [show gi (si h 40 (nn (s 3)) (nI 0)) 30 12 = nI (nn (s 3)) by rw [gi_ob (by omega)]; exact e1, nI_add]
  intro h1
  have F : Fz WD VD h h1 := (Fz.si h _ (wdd (by omega))).trans (Fz.si _ _ (wdd (by omega)))
  have c40 : h1.1 40 = ups (h.1 40) (nn (s 3)) (nI 0) := by
    show (si (si h 40 (nn (s 3)) (nI 0)) 30 12 _).1 40 = _
    rw [si_b (by omega), si_a]
  have c30 : h1.1 30 = ups (h.1 30) 12 (nI (nn (s 3) + 1)) := by
    show (si (si h 40 (nn (s 3)) (nI 0)) 30 12 _).1 30 = _
    rw [si_a, si_b (by omega)]
  have co : ∀ b, b ≠ 30 → b ≠ 40 → h1.1 b = h.1 b := fun b x1 x2 => by
    show (si (si h 40 (nn (s 3)) (nI 0)) 30 12 _).1 b = _
    rw [si_b x1, si_b x2]
  have lg : h1.2 = h.2 := rfl
  clear_value h1
  have M := D.1.m3
  have eo : ∀ m x, m < nn (s 2) → ofW (wvS s) m x = ofW s m x := fun m x hm => ofW_e P.x (fun i _ _ => o i (by omega)) hm
  refine K h1 F ⟨LyR.of3 (D.1.v3.congr (o 0 (by omega)) P.v.1.2 (fun i _ _ => o i (by omega)) (co _ (by omega) (by omega)) (co _ (by omega) (by omega)) (co _ (by omega) (by omega)) (co _ (by omega) (by omega))) (D.1.n3.congr (fun i _ _ => o i (by omega)) (fun k _ _ => by rw [c30, ups_n (by omega)])) ⟨⟨?_, ?_, ?_, ?_⟩, fun p hp => ?_, fun p hp => ?_, fun w hw => ?_, fun m hm => ?_, fun m hm => ?_⟩, D.2.1.cg h2 (fun i hi => o i (by omega)) (fun m v _ _ _ => em m v) (fun b x1 x2 => co b (by omega) (by omega)), D.2.2.l lg (by rw [o 0 (by omega)]) (by rw [o 1 (by omega)]) (by rw [o 2 (by omega)])⟩
  · rw [co _ (by omega) (by omega), o 1 (by omega)]; exact M.1.1
  · rw [co _ (by omega) (by omega), o 2 (by omega)]; exact M.1.2.1
  · rw [c30, ups_s, W.2.2]
  · rw [c30, ups_n (by omega), o 4 (by omega)]; exact M.1.2.2.2
  · rw [o 1 (by omega)] at hp
    have := P.x.1.2
    rw [co _ (by omega) (by omega), o (44 + p) (by omega)]; exact M.2.1 p hp
  · rw [o 1 (by omega)] at hp
    rw [co _ (by omega) (by omega), o 2 (by omega), M.2.2.1 p hp]
    exact mk_eq fun m hm => by rw [em]
  · rw [W.2.1] at hw
    show h1.1 40 w = _
    rw [c40, o 2 (by omega)]
    by_cases d : w = nn (s 3)
    · subst d
      rw [ups_s]
      refine (mk_0 fun m hm => ?_).symm
      rw [eo m _ hm]
      refine decide_eq_false (fun y => ?_)
      rcases wv_lt P hm with z | ⟨z, z2⟩
      · rw [z] at y
        exact (isN_nI (n := nn (s 3)) (Nat.le_refl _) (by omega)).nm1 y.symm
      · rw [y, nn_nI (by omega)] at z2
        omega
    · rw [ups_n d, show h.1 40 w = _ from M.2.2.2.1 w (by omega)]
      exact mk_eq fun m hm => (eo m _ hm).symm
  · rw [o 2 (by omega)] at hm
    rw [co _ (by omega) (by omega), em]; exact M.2.2.2.2.1 m hm
  · rw [o 2 (by omega)] at hm
    rw [co _ (by omega) (by omega), o 2 (by omega), M.2.2.2.2.2 m hm]
    refine mk_eq fun o' ho => ?_
    unfold par
    rw [em, em, em]
theorem c_addToWave (P : PR s) (hp : p < nn (s 1)) (hw : w < nn (s 3)) (hf : s (44 + p) = -1) (D : DR nm s h) (K : ∀ h', Fz WD VD h h' → DR nm (wpS s p w) h' → kv h') : MetPM m_X5_addToWave [.ref 30, .int (nI p), .int (nI w)] h (rV q kv) := by
  have h2 := P.x.2.1.2
  have h5 := P.x.1.2
  have h3 := P.x.2.2.1.2
  have o : ∀ i, i ≠ 44 + p → wpS s p w i = s i := fun i x1 => ups_n x1
  have os : wpS s p w (44 + p) = nI w := ups_s
  have em : ∀ m x, mf (wpS s p w) m x = mf s m x := fun m x => o _ (by omega)
  refine t_X5_addToWave ⟨vp_in_nI (by omega) (by omega), vp_in_nI (by omega) (by omega), vp_in_nI (by omega) (by omega), ?_⟩
  rw [cl (by omega), cl (by omega)]
  intro y1
  have ey : y1 = h.1 40 w ||| h.1 39 p := by
    show gi (si h 38 p (nI w)) 40 w ||| gi (si h 38 p (nI w)) 39 p = _
    rw [gi_ob (by omega), gi_ob (by omega)]; rfl
  clear_value y1
  subst ey
  refine ⟨vp_in_nI (by omega) (by omega), ?_⟩
  have F : Fz WD VD h (si (si h 38 p (nI w)) 40 w (h.1 40 w ||| h.1 39 p)) := (Fz.si h _ (wdd (by omega))).trans (Fz.si _ _ (wdd (by omega)))
  have c38 : (si (si h 38 p (nI w)) 40 w (h.1 40 w ||| h.1 39 p)).1 38 = ups (h.1 38) p (nI w) := by rw [si_b (by omega), si_a]
  have c40 : (si (si h 38 p (nI w)) 40 w (h.1 40 w ||| h.1 39 p)).1 40 = ups (h.1 40) w (h.1 40 w ||| h.1 39 p) := by rw [si_a, si_b (by omega)]
  have co : ∀ b, b ≠ 38 → b ≠ 40 → (si (si h 38 p (nI w)) 40 w (h.1 40 w ||| h.1 39 p)).1 b = h.1 b := fun b x1 x2 => by rw [si_b x2, si_b x1]
  have lg : (si (si h 38 p (nI w)) 40 w (h.1 40 w ||| h.1 39 p)).2 = h.2 := rfl
  show kv (si (si h 38 p (nI w)) 40 w (h.1 40 w ||| h.1 39 p))
  generalize si (si h 38 p (nI w)) 40 w (h.1 40 w ||| h.1 39 p) = h1 at F c38 c40 co lg
  have M := D.1.m3
  have wo : ∀ m, m < nn (s 2) → wvOf (wpS s p w) m = if pN s m = p then nI w else wvOf s m := fun m hm => by
    have ep : pN (wpS s p w) m = pN s m := by unfold pN; rw [em]
    unfold wvOf
    rw [ep]
    by_cases d : pN s m = p
    · rw [if_pos d, d, os]
    · rw [if_neg d, o _ (by omega)]
  refine K h1 F ⟨LyR.of3 (D.1.v3.congr (o 0 (by omega)) P.v.1.2 (fun i _ _ => o i (by omega)) (co _ (by omega) (by omega)) (co _ (by omega) (by omega)) (co _ (by omega) (by omega)) (co _ (by omega) (by omega))) (D.1.n3.congr (fun i _ _ => o i (by omega)) (fun k _ _ => by rw [co 30 (by omega) (by omega)])) ⟨⟨?_, ?_, ?_, ?_⟩, fun p' hp' => ?_, fun p' hp' => ?_, fun w' hw' => ?_, fun m hm => ?_, fun m hm => ?_⟩, D.2.1.cg h2 (fun i hi => o i (by omega)) (fun m v _ _ _ => em m v) (fun b x1 x2 => co b (by omega) (by omega)), D.2.2.l lg (by rw [o 0 (by omega)]) (by rw [o 1 (by omega)]) (by rw [o 2 (by omega)])⟩
  · rw [co _ (by omega) (by omega), o 1 (by omega)]; exact M.1.1
  · rw [co _ (by omega) (by omega), o 2 (by omega)]; exact M.1.2.1
  · rw [co _ (by omega) (by omega), o 3 (by omega)]; exact M.1.2.2.1
  · rw [co _ (by omega) (by omega), o 4 (by omega)]; exact M.1.2.2.2
  · rw [o 1 (by omega)] at hp'
    show h1.1 38 p' = _
    rw [c38]
    by_cases d : p' = p
    · subst d; rw [ups_s, os]
    · rw [ups_n d, o _ (by omega)]; exact M.2.1 p' hp'
  · rw [o 1 (by omega)] at hp'
    rw [co _ (by omega) (by omega), o 2 (by omega), M.2.2.1 p' hp']
    exact mk_eq fun m hm => by rw [em]
  · rw [o 3 (by omega)] at hw'
    show h1.1 40 w' = _
    rw [c40, o 2 (by omega)]
    have pl : ∀ m, m < nn (s 2) → (mf s m 0 = nI p ↔ pN s m = p) := fun m hm => by
      have h9 := P.x.2.2.2.2.1 m hm
      rw [h9.1.1, nI_eq (by have := h9.1.2; omega) (by omega)]
      exact Iff.rfl
    by_cases d : w' = w
    · subst d
      rw [ups_s, show h.1 40 w' = _ from M.2.2.2.1 w' hw', show h.1 39 p = _ from M.2.2.1 p hp, mk_or (by omega)]
      refine mk_eq fun m hm => ?_
      unfold ofW
      rw [wo m hm]
      by_cases e : pN s m = p
      · rw [if_pos e, decide_eq_true ((pl m hm).mpr e), decide_eq_true rfl, Bool.or_true]
      · rw [if_neg e, decide_eq_false (fun y => e ((pl m hm).mp y)), Bool.or_false]
    · rw [ups_n d, show h.1 40 w' = _ from M.2.2.2.1 w' hw']
      refine mk_eq fun m hm => ?_
      unfold ofW
      rw [wo m hm]
      by_cases e : pN s m = p
      · rw [if_pos e]
        have : wvOf s m = -1 := by unfold wvOf; rw [e]; exact hf
        rw [this, decide_eq_false (fun y => (isN_nI (n := w') (Nat.le_refl _) (by omega)).nm1 y.symm), decide_eq_false (fun y => d ((nI_eq (by omega) (by omega)).mp y).symm)]
      · rw [if_neg e]
  · rw [o 2 (by omega)] at hm
    rw [co _ (by omega) (by omega), em]; exact M.2.2.2.2.1 m hm
  · rw [o 2 (by omega)] at hm
    rw [co _ (by omega) (by omega), o 2 (by omega), M.2.2.2.2.2 m hm]
    refine mk_eq fun o' ho => ?_
    unfold par
    rw [em, em, em]
/-! links -/
theorem c_join (ha : a < 12) (hb : b < 12) (hab : a ≠ b) (K : ∀ h', h' = si (si h 44 a (h.1 44 a ||| ((nI 1) <<< (nI b &&& 31)))) 44 b (h.1 44 b ||| ((nI 1) <<< (nI a &&& 31))) → kv h') : MetPM m_X5_join [.ref 30, .int (nI a), .int (nI b)] h (rV q kv) := by
  refine t_X5_join ⟨vp_in_nI (by omega) (by omega), vp_in_nI (by omega) (by omega), vp_in_nI (by omega) (by omega), ?_⟩
  rw [cl (by omega), cl (by omega), gi_ok (fun z => hab z.symm)]
  intro y1
  refine ⟨vp_in_nI (by omega) (by omega), ?_⟩
  intro h2
  exact K h2 rfl
theorem c_addLink (P : PR s) (hab : a ≠ b) (ha : a < nn (s 2)) (hb : b < nn (s 2)) (h4 : nn (s 4) < 20) (D : DR nm s h) (K : ∀ h', Fz WD VD h h' → DR nm (lnkS s a b) h' → kv h') : MetPM m_X5_addLink [.ref 30, .int (nI a), .int (nI b)] h (rV q kv) := by
  have h2 := P.x.2.1.2
  have h5 := P.x.1.2
  have e4 := P.x.2.2.2.1.sc (by omega)
  have o : ∀ i, i < 49 → i ≠ 4 → lnkS s a b i = s i := fun i x1 x2 => lnk_lo x1 x2
  have n4 : lnkS s a b 4 = nI (nn (s 4) + 1) := by unfold lnkS; rw [ups_s]; exact e4.1
  have o133 : ∀ i, 133 ≤ i → lnkS s a b i = s i := fun i hi => by
    unfold lnkS lyS
    rw [ups_n (by omega), ups_n (by omega), ups_n (by omega)]
  refine t_X5_addLink (c_join (by omega) (by omega) hab (fun h1 a1 => ?_))
  have e11 : gi h1 30 11 = nI (nn (s 4)) := by
    rw [a1, gi_ob (by omega), gi_ob (by omega)]
    exact D.1.li.trans P.x.2.2.2.1.1
  rw [e11, nI_add]
  show kv (si h1 30 11 (nI (nn (s 4) + 1)))
  have F : Fz WD VD h (si h1 30 11 (nI (nn (s 4) + 1))) := by
    rw [a1]
    exact ((Fz.si h _ (wdd (by omega))).trans (Fz.si _ _ (wdd (by omega)))).trans (Fz.si _ _ (wdd (by omega)))
  have c44 : (si h1 30 11 (nI (nn (s 4) + 1))).1 44 = ups (ups (h.1 44) a (h.1 44 a ||| ((nI 1) <<< (nI b &&& 31)))) b (h.1 44 b ||| ((nI 1) <<< (nI a &&& 31))) := by rw [si_b (by omega), a1, si_a, si_a]
  have c30 : (si h1 30 11 (nI (nn (s 4) + 1))).1 30 = ups (h.1 30) 11 (nI (nn (s 4) + 1)) := by rw [si_a, a1, si_b (by omega), si_b (by omega)]
  have co : ∀ b, b ≠ 30 → b ≠ 44 → (si h1 30 11 (nI (nn (s 4) + 1))).1 b = h.1 b := fun b x1 x2 => by rw [si_b x1, a1, si_b x2, si_b x2]
  have lg : (si h1 30 11 (nI (nn (s 4) + 1))).2 = h.2 := by rw [a1]; rfl
  generalize si h1 30 11 (nI (nn (s 4) + 1)) = h9 at F c44 c30 co lg
  have M := D.1.m3
  have wo : ∀ m x, m < nn (s 2) → ofW (lnkS s a b) m x = ofW s m x := fun m x hm => by
    have h9 := (P.x.2.2.2.2.1 m hm).2
    have ep : pN (lnkS s a b) m = pN s m := by unfold pN; rw [lnk_o (by omega) (by omega)]
    unfold ofW wvOf
    rw [ep, o _ (by omega) (by omega)]
  refine K h9 F ⟨LyR.of3 (D.1.v3.congr (o 0 (by omega) (by omega)) P.v.1.2 (fun i _ _ => o i (by omega) (by omega)) (co _ (by omega) (by omega)) (co _ (by omega) (by omega)) (co _ (by omega) (by omega)) (co _ (by omega) (by omega))) (D.1.n3.congr (fun i _ _ => o i (by omega) (by omega)) (fun k _ _ => by rw [c30, ups_n (by omega)])) ⟨⟨?_, ?_, ?_, ?_⟩, fun p' hp' => ?_, fun p' hp' => ?_, fun w' hw' => ?_, fun m hm => ?_, fun m hm => ?_⟩, D.2.1.cg h2 (fun i hi => ?_) (fun m v _ _ _ => lnk_o (by omega) (by omega)) (fun b x1 x2 => co b (by omega) (by omega)), D.2.2.l lg (by rw [o 0 (by omega) (by omega)]) (by rw [o 1 (by omega) (by omega)]) (by rw [o 2 (by omega) (by omega)])⟩
  · rw [co _ (by omega) (by omega), o 1 (by omega) (by omega)]; exact M.1.1
  · rw [co _ (by omega) (by omega), o 2 (by omega) (by omega)]; exact M.1.2.1
  · rw [c30, ups_n (by omega), o 3 (by omega) (by omega)]; exact M.1.2.2.1
  · rw [c30, ups_s, n4]
  · rw [o 1 (by omega) (by omega)] at hp'
    rw [co _ (by omega) (by omega), o (44 + p') (by omega) (by omega)]; exact M.2.1 p' hp'
  · rw [o 1 (by omega) (by omega)] at hp'
    rw [co _ (by omega) (by omega), o 2 (by omega) (by omega), M.2.2.1 p' hp']
    exact mk_eq fun m hm => by rw [lnk_o (by omega) (by omega)]
  · rw [o 3 (by omega) (by omega)] at hw'
    rw [co _ (by omega) (by omega), o 2 (by omega) (by omega), M.2.2.2.1 w' hw']
    exact mk_eq fun m hm => (wo m _ hm).symm
  · rw [o 2 (by omega) (by omega)] at hm
    rw [co _ (by omega) (by omega), lnk_o (by omega) (by omega)]; exact M.2.2.2.2.1 m hm
  · rw [o 2 (by omega) (by omega)] at hm
    show h9.1 44 m = _
    rw [c44, o 2 (by omega) (by omega)]
    by_cases d : m = b
    · subst d
      rw [ups_s, show h.1 44 m = _ from M.2.2.2.2.2 m hm, mk_set (by omega) ha]
      refine mk_eq fun j hj => ?_
      rw [lnk_par hab (by omega) (by omega) (by omega), decide_eq_false (p := m = a) (fun e => hab e.symm), decide_eq_true (p := m = m) rfl]
      by_cases e : j = a
      · subst e
        rw [decide_eq_false (p := m = j) (fun e => hab e.symm), decide_eq_true (p := j = j) rfl]; simp
      · rw [decide_eq_false e]; simp
    · rw [ups_n d]
      by_cases d2 : m = a
      · subst d2
        rw [ups_s, show h.1 44 m = _ from M.2.2.2.2.2 m hm, mk_set (by omega) hb]
        refine mk_eq fun j hj => ?_
        rw [lnk_par hab (by omega) (by omega) (by omega), decide_eq_false d, decide_eq_true (p := m = m) rfl]
        by_cases e : j = b
        · subst e
          rw [decide_eq_false (p := m = j) hab, decide_eq_true (p := j = j) rfl]; simp
        · rw [decide_eq_false e]; simp
      · rw [ups_n d2, show h.1 44 m = _ from M.2.2.2.2.2 m hm]
        refine mk_eq fun j hj => ?_
        rw [lnk_par hab (by omega) (by omega) (by omega), decide_eq_false d, decide_eq_false d2]
        simp
  · rcases (by omega : i < 49 ∧ i ≠ 4 ∨ 133 ≤ i) with y | y
    · exact o i y.1 y.2
    · exact o133 i y
end

