/-! ===== what is added to the class's draft ===== -/
section
variable {q : Nat → PH → Prop} {kk : Int32 → PH → Prop} {kl : Int64 → PH → Prop} {kv : PH → Prop} {h h' : PH} {s t : RW} {C E L : Nat} {a b n p w : Nat} {f g : FI} {nm : Nat → Int64}
theorem StR.cg (h2 : nn (s 2) ≤ 12) (e : ∀ i, i = 2 ∨ i = 5 ∨ (11 ≤ i ∧ i ≤ 19) ∨ 133 ≤ i → t i = s i) (em : ∀ m w, m < 12 → 1 ≤ w → w ≤ 5 → mf t m w = mf s m w) (c : ∀ b, a ≤ b → b ≤ a + 6 → g b = f b) (S : StR a s f) : StR a t g := by
  have d : ∀ i, i ≤ 6 → g (a + i) = f (a + i) := fun i hi => c _ (by omega) (by omega)
  have d0 : g a = f a := c a (by omega) (by omega)
  exact ⟨S.1.congr (e 2 (by omega)) h2 em (by rw [d0]) (by rw [d0]) (d 1 (by omega)) (d 2 (by omega)) (d 3 (by omega)) (d 4 (by omega)), S.2.1.congr (fun i hi => e i (by omega)) (fun k _ _ => by rw [d0]), S.2.2.congr (e 19 (by omega)) (fun i hi => e i (by omega)) (d 5 (by omega)) (d 6 (by omega))⟩
theorem wdd {b k : Nat} (y : (30 ≤ b ∧ b ≤ 44) ∨ (74 ≤ b ∧ b ≤ 78) ∨ (b = 79 ∧ k = 1)) : WD b k := y
theorem DN.same {t : RW} (e0 : nn (t 0) = nn (s 0)) (e1 : nn (t 1) = nn (s 1)) (e2 : nn (t 2) = nn (s 2)) (l : ∀ b j, b = 32 ∨ b = 37 ∨ b = 42 → gl h' b j = gl h b j) (D : DN nm s h) : DN nm t h' := by
  unfold DN
  rw [e0, e1, e2]
  simp only [l 32 _ (Or.inl rfl), l 37 _ (Or.inr (Or.inl rfl)), l 42 _ (Or.inr (Or.inr rfl))]
  exact D
/-! settings -/
theorem DR.set5 {x : Int32} (P : PR s) (D : DR nm s h) : DR nm (ups s 5 x) (si h 74 2 x) := by
  have u : ∀ i, i ≠ 5 → (ups s 5 x) i = s i := fun i hi => ups_n hi
  have c : ∀ b, b ≠ 74 → (si h 74 2 x).1 b = h.1 b := fun b hb => si_b hb
  have ca : ∀ k, k ≠ 2 → (si h 74 2 x).1 74 k = h.1 74 k := fun k hk => by rw [si_a, ups_n hk]
  have h2 := P.x.2.1.2
  have Y := D.1.heap (g := (si h 74 2 x).1) fun b h1 h2 => c b (by omega)
  refine ⟨LyR.of3 (Y.v3.congr (u 0 (by omega)) P.v.1.2 (fun i _ _ => u i (by omega)) rfl rfl rfl rfl) (Y.n3.congr (fun i _ _ => u i (by omega)) (fun _ _ _ => rfl)) (Y.m3.congr P.x (fun i _ _ => u i (by omega)) (fun i _ _ => u i (by omega)) ⟨rfl, rfl⟩ (fun _ _ => rfl)), ⟨?_, ⟨?_, ?_, ?_, ?_, ?_, ?_⟩, ?_⟩, D.2.2.same (by rw [u 0 (by omega)]) (by rw [u 1 (by omega)]) (by rw [u 2 (by omega)]) (fun _ _ _ => rfl)⟩
  · exact D.2.1.1.congr (u 2 (by omega)) h2 (fun m w _ _ _ => u _ (by omega)) (ca 7 (by omega)) (ca 8 (by omega)) (c _ (by omega)) (c _ (by omega)) (c _ (by omega)) (c _ (by omega))
  · rw [ca 12 (by omega)]; exact D.2.1.ib
  · rw [ca 1 (by omega), u 11 (by omega)]; exact D.2.1.ck
  · rw [si_a, ups_s, ups_s]
  · rw [ca 9 (by omega), u 12 (by omega)]; exact D.2.1.st
  · rw [hasP_of (u 12 (by omega)), ca 10 (by omega), ca 11 (by omega), ca 12 (by omega), ca 13 (by omega), u 13 (by omega), u 14 (by omega), u 17 (by omega), u 15 (by omega)]; exact D.2.1.pl
  · rw [ca 14 (by omega), soakE_of (u 12 (by omega)) (u 16 (by omega)) (u 18 (by omega))]; exact D.2.1.se
  · exact D.2.1.2.2.congr (u 19 (by omega)) (fun i hi => u i (by omega)) (c _ (by omega)) (c _ (by omega))
theorem DR.setN {x : Int32} (P : PR s) (hw : 6 ≤ w ∧ w ≤ 10) (D : DR nm s h) : DR nm (ups s w x) (si h 30 (w + 7) x) := by
  have u : ∀ i, i ≠ w → (ups s w x) i = s i := fun i hi => ups_n hi
  have c : ∀ b, b ≠ 30 → (si h 30 (w + 7) x).1 b = h.1 b := fun b hb => si_b hb
  have ca : ∀ k, k ≠ w + 7 → (si h 30 (w + 7) x).1 30 k = h.1 30 k := fun k hk => by rw [si_a, ups_n hk]
  have cs : (si h 30 (w + 7) x).1 30 (w + 7) = x := by rw [si_a, ups_s]
  refine ⟨LyR.of3 (D.1.v3.congr (u 0 (by omega)) P.v.1.2 (fun i _ _ => u i (by omega)) (c _ (by omega)) (c _ (by omega)) (c _ (by omega)) (c _ (by omega))) ?_ (D.1.m3.congr P.x (fun i _ _ => u i (by omega)) (fun i _ _ => u i (by omega)) ⟨ca 11 (by omega), ca 12 (by omega)⟩ (fun i hi => c _ (by omega))), D.2.1.cg P.x.2.1.2 (fun i hi => u i (by omega)) (fun m v _ _ _ => u _ (by omega)) (fun b h1 h2 => c b (by omega)), D.2.2.same (by rw [u 0 (by omega)]) (by rw [u 1 (by omega)]) (by rw [u 2 (by omega)]) (fun _ _ _ => rfl)⟩
  have N := D.1.n3
  have key : ∀ v, 6 ≤ v → v ≤ 10 → h.1 30 (v + 7) = s v → (si h 30 (w + 7) x).1 30 (v + 7) = (ups s w x) v := fun v v1 v2 e => by
    by_cases d : v = w
    · subst d; rw [cs, ups_s]
    · rw [ca (v + 7) (by omega), u v d]; exact e
  exact ⟨key 6 (by omega) (by omega) N.1, key 7 (by omega) (by omega) N.2.1, key 8 (by omega) (by omega) N.2.2.1, key 9 (by omega) (by omega) N.2.2.2.1, key 10 (by omega) (by omega) N.2.2.2.2⟩
/-! versions -/
theorem c_addVersion {x y : Int64} {lo hi : Int32} (P : PR s) (h8 : nn (s 0) < 8) (D : DR nm s h) (N : NmE x y) (K : ∀ h', Fz WD VD h h' → DR (upn nm (nn (s 0)) y) (verS s lo hi) h' → kv h') : MetPM m_X5_addVersion [.ref 30, .long x, .int lo, .int hi] h (rV q kv) := by
  have e1 : gi h 31 1 = nI (nn (s 0)) := D.1.nv.trans P.v.1.1
  have h0 := ver_0 (lo := lo) (hi := hi) P
  have o : ∀ i, i ≠ 0 → (i < 20 ∨ 36 ≤ i) → verS s lo hi i = s i := fun i x1 x2 => ver_o (by omega)
  refine t_X5_addVersion ?_
  rw [e1]
  refine br_f (nI_ge (by omega) (by omega)) (t_X6_add_31 ?_)
  rw [e1]
  refine br_f (nI_ge (by omega) (by omega)) ⟨vp_in_nI (by omega) (by omega), ?_⟩
  rw [cl (by omega)]
  intro h1
  have a1 : h1 = si (sl h 32 (nn (s 0)) x) 31 1 (nI (nn (s 0) + 1)) := by
    show si (sl h 32 (nn (s 0)) x) 31 1 (gi (sl h 32 (nn (s 0)) x) 31 1 + nI 1) = _
    rw [show gi (sl h 32 (nn (s 0)) x) 31 1 = nI (nn (s 0)) from e1, nI_add]
  clear_value h1
  subst a1
  refine ⟨vp_in_nI (by omega) (by omega), vp_in_nI (by omega) (by omega), vp_in_nI (by omega) (by omega), ?_⟩
  intro h2
  have F : Fz WD VD h h2 := ((((Fz.sl h x (Or.inl rfl)).trans (Fz.si _ _ (wdd (by omega)))).trans (Fz.si _ _ (wdd (by omega)))).trans (Fz.si _ _ (wdd (by omega)))).trans (Fz.si _ _ (wdd (by omega)))
  have c31 : h2.1 31 = ups (h.1 31) 1 (nI (nn (s 0) + 1)) := by
    show (si (si (si (si (sl h 32 (nn (s 0)) x) 31 1 _) 33 _ lo) 34 _ hi) 35 _ _).1 31 = _
    rw [si_b (by omega), si_b (by omega), si_b (by omega), si_a]; rfl
  have c33 : h2.1 33 = ups (h.1 33) (nn (s 0)) lo := by
    show (si (si (si (si (sl h 32 (nn (s 0)) x) 31 1 _) 33 _ lo) 34 _ hi) 35 _ _).1 33 = _
    rw [si_b (by omega), si_b (by omega), si_a, si_b (by omega)]; rfl
  have c34 : h2.1 34 = ups (h.1 34) (nn (s 0)) hi := by
    show (si (si (si (si (sl h 32 (nn (s 0)) x) 31 1 _) 33 _ lo) 34 _ hi) 35 _ _).1 34 = _
    rw [si_b (by omega), si_a, si_b (by omega), si_b (by omega)]; rfl
  have c35 : h2.1 35 = ups (h.1 35) (nn (s 0)) ((nI 1) <<< (nI (nn (s 0)) &&& 31)) := by
    show (si (si (si (si (sl h 32 (nn (s 0)) x) 31 1 _) 33 _ lo) 34 _ hi) 35 _ _).1 35 = _
    rw [si_a, si_b (by omega), si_b (by omega), si_b (by omega)]; rfl
  have co : ∀ b, b ≠ 31 → b ≠ 33 → b ≠ 34 → b ≠ 35 → h2.1 b = h.1 b := fun b x1 x2 x3 x4 => by
    show (si (si (si (si (sl h 32 (nn (s 0)) x) 31 1 _) 33 _ lo) 34 _ hi) 35 _ _).1 b = _
    rw [si_b x4, si_b x3, si_b x2, si_b x1]; rfl
  have lg : ∀ b j, gl h2 b j = gl (sl h 32 (nn (s 0)) x) b j := fun b j => rfl
  clear_value h2
  refine K h2 F ⟨LyR.of3 ⟨?_, fun v hv => ?_, fun v hv => ?_, fun v hv i hi => ?_⟩ (D.1.n3.congr (fun i _ _ => o i (by omega) (by omega)) (fun k _ _ => by rw [co 30 (by omega) (by omega) (by omega) (by omega)])) (D.1.m3.congr P.x (fun i _ _ => o i (by omega) (by omega)) (fun i _ _ => o i (by omega) (by omega)) (by rw [co 30 (by omega) (by omega) (by omega) (by omega)]; exact ⟨rfl, rfl⟩) (fun i hi => co _ (by omega) (by omega) (by omega) (by omega))), D.2.1.cg P.x.2.1.2 (fun i hi => o i (by omega) (by omega)) (fun m v _ _ _ => o _ (by omega) (by omega)) (fun b x1 x2 => co b (by omega) (by omega) (by omega) (by omega)), ⟨fun i hi => ?_, fun i hi => ?_, fun i hi => ?_⟩⟩
  · show h2.1 31 1 = _
    rw [c31, ups_s, h0.1]
  · rw [h0.2] at hv
    show h2.1 33 v = _
    rw [c33]
    unfold verS
    by_cases d : v = nn (s 0)
    · subst d; rw [ups_s, ups_n (by omega), ups_n (by omega), ups_s]
    · rw [ups_n d, ups_n (by omega), ups_n (by omega), ups_n (by omega)]; exact D.1.lo v (by omega)
  · rw [h0.2] at hv
    show h2.1 34 v = _
    rw [c34]
    unfold verS
    by_cases d : v = nn (s 0)
    · subst d; rw [ups_s, ups_n (by omega), ups_s]
    · rw [ups_n d, ups_n (by omega), ups_n (by omega), ups_n (by omega)]; exact D.1.hi v (by omega)
  · rw [h0.2] at hv
    show bt (h2.1 35 v) i = _
    rw [c35]
    unfold tlk
    rw [o _ (by omega) (by omega)]
    by_cases d : v = nn (s 0)
    · subst d
      rw [ups_s, bt_one (by omega) hi, P.zv.1 _ (by omega) (Nat.le_refl _), b_0, Bool.or_false]
      exact decide_eq_decide.mpr ⟨fun z => z.symm, fun z => z.symm⟩
    · rw [ups_n d]; exact D.1.ta v (by omega) i hi
  · rw [h0.2] at hi
    rw [lg]
    by_cases d : i = nn (s 0)
    · subst d; rw [gl_same, upn_s]; exact N
    · rw [gl_ok d, upn_n d]; exact D.2.2.1 i (by omega)
  · rw [o 1 (by omega) (by omega)] at hi
    rw [lg, gl_ob (by omega), upn_n (by omega)]
    exact D.2.2.2.1 i hi
  · rw [o 2 (by omega) (by omega)] at hi
    rw [lg, gl_ob (by omega), upn_n (by omega)]
    exact D.2.2.2.2 i hi
/-! talks -/
theorem c_addTalk (P : PR s) (hab : a ≠ b) (ha : a < nn (s 0)) (hb : b < nn (s 0)) (D : DR nm s h) (K : ∀ h', Fz WD VD h h' → DR nm (talS s a b) h' → kv h') : MetPM m_X5_addTalk [.ref 30, .int (nI a), .int (nI b)] h (rV q kv) := by
  have h8 := P.v.1.2
  have o : ∀ i, (i < 36 ∨ 44 ≤ i) → talS s a b i = s i := fun i h => tal_o (by omega)
  refine t_X5_addTalk ⟨vp_in_nI (by omega) (by omega), vp_in_nI (by omega) (by omega), vp_in_nI (by omega) (by omega), ?_⟩
  rw [cl (by omega), cl (by omega), gi_ok (fun z => hab z.symm)]
  intro y1
  refine ⟨vp_in_nI (by omega) (by omega), ?_⟩
  intro h2
  have F : Fz WD VD h h2 := (Fz.si h _ (wdd (by omega))).trans (Fz.si _ _ (wdd (by omega)))
  have c35 : h2.1 35 = ups (ups (h.1 35) a (h.1 35 a ||| ((nI 1) <<< (nI b &&& 31)))) b (h.1 35 b ||| ((nI 1) <<< (nI a &&& 31))) := by
    show (si (si h 35 a _) 35 b _).1 35 = _
    rw [si_a, si_a]; rfl
  have co : ∀ c, c ≠ 35 → h2.1 c = h.1 c := fun c x1 => by
    show (si (si h 35 a _) 35 b _).1 c = _
    rw [si_b x1, si_b x1]
  have lg : h2.2 = h.2 := rfl
  clear_value h2
  refine K h2 F ⟨LyR.of3 ⟨?_, fun v hv => ?_, fun v hv => ?_, fun v hv i hi => ?_⟩ (D.1.n3.congr (fun i _ _ => o i (by omega)) (fun k _ _ => by rw [co 30 (by omega)])) (D.1.m3.congr P.x (fun i _ _ => o i (by omega)) (fun i _ _ => o i (by omega)) (by rw [co 30 (by omega)]; exact ⟨rfl, rfl⟩) (fun i hi => co _ (by omega))), D.2.1.cg P.x.2.1.2 (fun i hi => o i (by omega)) (fun m v _ _ _ => o _ (by omega)) (fun b x1 x2 => co b (by omega)), D.2.2.same (by rw [o 0 (by omega)]) (by rw [o 1 (by omega)]) (by rw [o 2 (by omega)]) (fun b j _ => by
    show h2.2.1 b j = h.2.1 b j
    rw [lg])⟩
  · rw [co _ (by omega), o 0 (by omega)]; exact D.1.nv
  · rw [o 0 (by omega)] at hv
    rw [co _ (by omega), o _ (by omega)]; exact D.1.lo v hv
  · rw [o 0 (by omega)] at hv
    rw [co _ (by omega), o _ (by omega)]; exact D.1.hi v hv
  · rw [o 0 (by omega)] at hv
    have hT := fun v hv => D.1.ta v hv i hi
    show bt (h2.1 35 v) i = _
    unfold tlk at hT ⊢
    rw [c35, tal_b hab (by omega) (by omega) hi]
    by_cases x1 : v = b
    · subst x1
      rw [ups_s, b_or, bt_one (by omega) hi]
      rw [show bt (h.1 35 v) i = _ from hT v hv]
      rw [decide_eq_false (p := v = a) (fun z => hab z.symm), decide_eq_true (p := v = v) rfl]
      simp [Bool.or_assoc]
    · rw [ups_n x1]
      by_cases x2 : v = a
      · subst x2
        rw [ups_s, b_or, bt_one (by omega) hi]
        rw [show bt (h.1 35 v) i = _ from hT v hv]
        simp [x1, Bool.or_assoc]
      · rw [ups_n x2]
        rw [show bt (h.1 35 v) i = _ from hT v hv]
        simp [x1, x2]
/-! places -/
theorem c_addPlace {x y : Int64} (P : PR s) (h5 : nn (s 1) < 5) (D : DR nm s h) (N : NmE x y) (K : ∀ h', Fz WD VD h h' → DR (upn nm (8 + nn (s 1)) y) (plaS s) h' → kv h') : MetPM m_X5_addPlace [.ref 30, .long x] h (rV q kv) := by
  have e1 : gi h 36 1 = nI (nn (s 1)) := D.1.np.trans P.x.1.1
  have h1s := P.x.1.sc (by omega)
  have h2 := P.x.2.1.2
  have h8 := P.v.1.2
  have n1 : plaS s 1 = nI (nn (s 1) + 1) := by unfold plaS; rw [ups_s]; exact h1s.1
  have nn1 : nn (plaS s 1) = nn (s 1) + 1 := by rw [n1, nn_nI (by omega)]
  have o : ∀ i, i ≠ 1 → plaS s i = s i := fun i h => ups_n h
  refine t_X5_addPlace ?_
  rw [e1]
  refine br_f (nI_ge (by omega) (by omega)) (t_X6_add_36 ?_)
  rw [e1]
  refine br_f (nI_ge (by omega) (by omega)) ⟨vp_in_nI (by omega) (by omega), ?_⟩
  rw [cl (by omega)]
  intro h1
  have a1 : h1 = si (sl h 37 (nn (s 1)) x) 36 1 (nI (nn (s 1) + 1)) := by
    show si (sl h 37 (nn (s 1)) x) 36 1 (gi (sl h 37 (nn (s 1)) x) 36 1 + nI 1) = _
    rw [show gi (sl h 37 (nn (s 1)) x) 36 1 = nI (nn (s 1)) from e1, nI_add]
  clear_value h1
  subst a1
  refine ⟨vp_in_nI (by omega) (by omega), vp_in_nI (by omega) (by omega), ?_⟩
  show kv (si (si (si (sl h 37 (nn (s 1)) x) 36 1 (nI (nn (s 1) + 1))) 38 (nn (s 1)) (-(nI 1))) 39 (nn (s 1)) (nI 0))
  have F : Fz WD VD h (si (si (si (sl h 37 (nn (s 1)) x) 36 1 (nI (nn (s 1) + 1))) 38 (nn (s 1)) (-(nI 1))) 39 (nn (s 1)) (nI 0)) := (((Fz.sl h x (Or.inr (Or.inl rfl))).trans (Fz.si _ _ (wdd (by omega)))).trans (Fz.si _ _ (wdd (by omega)))).trans (Fz.si _ _ (wdd (by omega)))
  have c36 : (si (si (si (sl h 37 (nn (s 1)) x) 36 1 (nI (nn (s 1) + 1))) 38 (nn (s 1)) (-(nI 1))) 39 (nn (s 1)) (nI 0)).1 36 = ups (h.1 36) 1 (nI (nn (s 1) + 1)) := by rw [si_b (by omega), si_b (by omega), si_a]; rfl
  have c38 : (si (si (si (sl h 37 (nn (s 1)) x) 36 1 (nI (nn (s 1) + 1))) 38 (nn (s 1)) (-(nI 1))) 39 (nn (s 1)) (nI 0)).1 38 = ups (h.1 38) (nn (s 1)) (-(nI 1)) := by rw [si_b (by omega), si_a, si_b (by omega)]; rfl
  have c39 : (si (si (si (sl h 37 (nn (s 1)) x) 36 1 (nI (nn (s 1) + 1))) 38 (nn (s 1)) (-(nI 1))) 39 (nn (s 1)) (nI 0)).1 39 = ups (h.1 39) (nn (s 1)) (nI 0) := by rw [si_a, si_b (by omega), si_b (by omega)]; rfl
  have co : ∀ b, b ≠ 36 → b ≠ 38 → b ≠ 39 → (si (si (si (sl h 37 (nn (s 1)) x) 36 1 (nI (nn (s 1) + 1))) 38 (nn (s 1)) (-(nI 1))) 39 (nn (s 1)) (nI 0)).1 b = h.1 b := fun b x1 x2 x3 => by rw [si_b x3, si_b x2, si_b x1]; rfl
  have lg : ∀ b j, gl (si (si (si (sl h 37 (nn (s 1)) x) 36 1 (nI (nn (s 1) + 1))) 38 (nn (s 1)) (-(nI 1))) 39 (nn (s 1)) (nI 0)) b j = gl (sl h 37 (nn (s 1)) x) b j := fun b j => rfl
  generalize si (si (si (sl h 37 (nn (s 1)) x) 36 1 (nI (nn (s 1) + 1))) 38 (nn (s 1)) (-(nI 1))) 39 (nn (s 1)) (nI 0) = h2' at F c36 c38 c39 co lg
  have em : ∀ m w, mf (plaS s) m w = mf s m w := fun m w => o _ (by omega)
  have M := D.1.m3
  refine K h2' F ⟨LyR.of3 (D.1.v3.congr (o 0 (by omega)) h8 (fun i _ _ => o i (by omega)) (co _ (by omega) (by omega) (by omega)) (co _ (by omega) (by omega) (by omega)) (co _ (by omega) (by omega) (by omega)) (co _ (by omega) (by omega) (by omega))) (D.1.n3.congr (fun i _ _ => o i (by omega)) (fun k _ _ => by rw [co 30 (by omega) (by omega) (by omega)])) ⟨⟨?_, ?_, ?_, ?_⟩, fun p hp => ?_, fun p hp => ?_, fun w hw => ?_, fun m hm => ?_, fun m hm => ?_⟩, D.2.1.cg h2 (fun i hi => o i (by omega)) (fun m v _ _ _ => em m v) (fun b x1 x2 => co b (by omega) (by omega) (by omega)), ⟨fun i hi => ?_, fun i hi => ?_, fun i hi => ?_⟩⟩
  · show h2'.1 36 1 = _
    rw [c36, ups_s, n1]
  · rw [co _ (by omega) (by omega) (by omega), o 2 (by omega)]; exact M.1.2.1
  · rw [co _ (by omega) (by omega) (by omega), o 3 (by omega)]; exact M.1.2.2.1
  · rw [co _ (by omega) (by omega) (by omega), o 4 (by omega)]; exact M.1.2.2.2
  · rw [nn1] at hp
    show h2'.1 38 p = _
    rw [c38, o (44 + p) (by omega)]
    by_cases d : p = nn (s 1)
    · subst d; rw [ups_s, P.zx.1 _ (by omega) (Nat.le_refl _), m1_eq]
    · rw [ups_n d]; exact M.2.1 p (by omega)
  · rw [nn1] at hp
    show h2'.1 39 p = _
    rw [c39, o 2 (by omega)]
    by_cases d : p = nn (s 1)
    · subst d
      rw [ups_s]
      refine (mk_0 fun m hm => ?_).symm
      rw [em]
      have h9 := P.x.2.2.2.2.1 m hm
      refine decide_eq_false (fun z => ?_)
      rw [h9.1.1, nI_eq (by have := h9.1.2; omega) (by omega)] at z
      have := h9.2
      unfold pN at this
      omega
    · rw [ups_n d, show h.1 39 p = _ from M.2.2.1 p (by omega)]
      exact mk_eq fun m hm => by rw [em]
  · rw [o 3 (by omega)] at hw
    rw [co _ (by omega) (by omega) (by omega), o 2 (by omega), M.2.2.2.1 w hw]
    refine mk_eq fun m hm => ?_
    have h9 := P.x.2.2.2.2.1 m hm
    have ep : pN (plaS s) m = pN s m := by unfold pN; rw [em]
    unfold ofW wvOf
    rw [ep, o _ (by omega)]
  · rw [o 2 (by omega)] at hm
    rw [co _ (by omega) (by omega) (by omega), em]; exact M.2.2.2.2.1 m hm
  · rw [o 2 (by omega)] at hm
    rw [co _ (by omega) (by omega) (by omega), o 2 (by omega), M.2.2.2.2.2 m hm]
    refine mk_eq fun o' ho => ?_
    unfold par
    rw [em, em, em]
  · rw [o 0 (by omega)] at hi
    rw [lg, gl_ob (by omega), upn_n (by omega)]
    exact D.2.2.1 i hi
  · rw [nn1] at hi
    rw [lg]
    by_cases d : i = nn (s 1)
    · subst d; rw [gl_same, upn_s]; exact N
    · rw [gl_ok d, upn_n (by omega)]; exact D.2.2.2.1 i (by omega)
  · rw [o 2 (by omega)] at hi
    rw [lg, gl_ob (by omega), upn_n (by omega)]
    exact D.2.2.2.2 i hi
end

