/-! ===== a member is added to the class's draft ===== -/
section
variable {q : Nat → PH → Prop} {kk : Int32 → PH → Prop} {kl : Int64 → PH → Prop} {kv : PH → Prop} {h h' : PH} {s t : RW} {C E L : Nat} {a b n p w v : Nat} {f g : FI} {nm : Nat → Int64} {hb : Bool}
/-- the row of partners while a member m is joined to those ahead of i in place p -/
def jnR (s : RW) (f : Nat → Int32) (m p i : Nat) : Nat → Int32 := fun o => if o = m then mk m (fun j => decide (j < i) && decide (mf s j 0 = nI p)) else if (decide (o < i) && decide (mf s o 0 = nI p)) = true then f o ||| ((nI 1) <<< (nI m &&& 31)) else f o
def WJ (b k : Nat) : Prop := b = 44
theorem l_addM {h0 : PH} {x : Int64} {m p : Nat} (hm : m < 12) (hpo : ∀ o, o < m → h0.1 43 o = mf s o 0) (K : ∀ h', (∀ c, c ≠ 44 → h'.1 c = h0.1 c) → h'.2 = h0.2 → h'.1 44 = jnR s (h0.1 44) m p m → At m_X5_addMember (rV q kv) 44 0 [some (.ref 30), some (.long x), none, some (.int (nI p)), some (.int (nI m)), some (.int (nI m))] [] h') : ∀ k i h, i + k = m → (∀ c, c ≠ 44 → h.1 c = h0.1 c) → h.2 = h0.2 → h.1 44 = jnR s (h0.1 44) m p i → At m_X5_addMember (rV q kv) 44 0 [some (.ref 30), some (.long x), none, some (.int (nI p)), some (.int (nI m)), some (.int (nI i))] [] h := by
  intro k
  induction k with
  | zero =>
    intro i h hi c l e
    have : i = m := by omega
    subst this
    exact K h c l e
  | succ k ih =>
    intro i h hi c l e
    refine u_X5_addMember_44 (pk_le m i (fun y => absurd y (by omega)) (fun _ => ⟨vp_in_nI (by omega) (by omega), ?_⟩))
    rw [cl (by omega), show gi h 43 i = mf s i 0 by
      show h.1 43 i = _
      rw [c 43 (by omega)]; exact hpo i (by omega)]
    refine ⟨fun y => u_X5_addMember_70 ?_, fun y => c_join (by omega) (by omega) (by omega) (fun h1 a1 => u_X5_addMember_70 ?_)⟩
    · rw [nI_add]
      refine ih (i + 1) h (by omega) c l ?_
      rw [e]
      funext o
      unfold jnR
      by_cases d : o = m
      · rw [if_pos d, if_pos d]
        refine mk_eq fun j hj => ?_
        by_cases z : j = i
        · subst z; rw [decide_eq_false y, Bool.and_false, Bool.and_false]
        · have : (j < i) = (j < i + 1) := by apply propext; omega
          simp only [this]
      · rw [if_neg d, if_neg d]
        by_cases z : o = i
        · subst z; rw [decide_eq_false y, Bool.and_false, Bool.and_false]
        · have : (o < i) = (o < i + 1) := by apply propext; omega
          simp only [this]
    · rw [nI_add]
      refine ih (i + 1) h1 (by omega) (fun z hz => by rw [a1, si_b hz, si_b hz]; exact c z hz) (by rw [a1]; exact l) ?_
      rw [a1, si_a, si_a]
      have em : h.1 44 m = mk m (fun j => decide (j < i) && decide (mf s j 0 = nI p)) := by rw [e]; unfold jnR; rw [if_pos rfl]
      have ei : h.1 44 i = h0.1 44 i := by
        rw [e]; unfold jnR
        rw [if_neg (by omega), decide_eq_false (p := i < i) (by omega), Bool.false_and, if_neg (by decide)]
      funext o
      unfold jnR
      by_cases d : o = m
      · subst d
        rw [ups_n (by omega), ups_s, if_pos rfl, em, mk_set (by omega) (by omega)]
        refine mk_eq fun j hj => ?_
        by_cases z : j = i
        · subst z
          rw [decide_eq_true y, decide_eq_true (p := j = j) rfl, decide_eq_true (show j < j + 1 by omega)]; simp
        · have : (j < i) = (j < i + 1) := by apply propext; omega
          simp [this, z]
      · rw [if_neg d]
        by_cases z : o = i
        · subst z
          rw [ups_s, decide_eq_true y, decide_eq_true (show o < o + 1 by omega), Bool.and_self, if_pos rfl, ei]
        · rw [ups_n z, ups_n d, e]
          unfold jnR
          rw [if_neg d]
          have : (o < i) = (o < i + 1) := by apply propext; omega
          simp only [this]
theorem c_addMember {x y : Int64} (P : PR s) (hm : nn (s 2) < 12) (hp : p < nn (s 1)) (hv : v < nn (s 0)) (D : DR nm s h) (N : NmE x y) (K : ∀ h', Fz WD VD h h' → DR (upn nm (13 + nn (s 2)) y) (memS s p v hb) h' → kv h') : MetPM m_X8_addMember [.ref 74, .long x, .int (nI p), .int (nI v), .int (b2i hb)] h (rV q kv) := by
  have h5 := P.x.1.2
  have h3 := P.x.2.2.1.2
  have h8 := P.v.1.2
  have e2 := mem_2 (p := p) (v := v) (hb := hb) P
  have hn := mem_n (s := s) (p := p) (v := v) (hb := hb)
  have o : ∀ i, i < 49 → i ≠ 2 → memS s p v hb i = s i := fun i x1 x2 => mem_lo x1 x2
  have o133 : ∀ i, 133 ≤ i → memS s p v hb i = s i := fun i hi => by
    unfold memS lyS
    rw [ups_n (by omega), ups_n (by omega), ups_n (by omega), ups_n (by omega), ups_n (by omega), ups_n (by omega)]
  have e41 : gi h 41 1 = nI (nn (s 2)) := D.1.nm.trans P.x.2.1.1
  have M := D.1.m3
  refine t_X8_addMember ?_
  rw [e41, cl (by omega)]
  refine br_f (nI_ge (by omega) (by omega)) (t_X5_addMember ?_)
  rw [e41, cl (by omega)]
  refine br_t (nI_lt (by omega) (by omega)) (t_X6_add_41 ?_)
  rw [e41, cl (by omega)]
  refine br_f (nI_ge (by omega) (by omega)) ⟨vp_in_nI (by omega) (by omega), ?_⟩
  intro h1
  have a1 : h1 = si (sl h 42 (nn (s 2)) x) 41 1 (nI (nn (s 2) + 1)) := by
    show si (sl h 42 (nn (s 2)) x) 41 1 (gi (sl h 42 (nn (s 2)) x) 41 1 + nI 1) = _
    rw [show gi (sl h 42 (nn (s 2)) x) 41 1 = nI (nn (s 2)) from e41, nI_add]
  clear_value h1
  refine ⟨vp_in_nI (by omega) (by omega), vp_in_nI (by omega) (by omega), ?_⟩
  have b44 : (si (si h1 43 (nn (s 2)) (nI p)) 44 (nn (s 2)) (nI 0)).1 44 = ups (h.1 44) (nn (s 2)) (nI 0) := by rw [si_a, si_b (by omega), a1, si_b (by omega)]; rfl
  have b43 : (si (si h1 43 (nn (s 2)) (nI p)) 44 (nn (s 2)) (nI 0)).1 43 = ups (h.1 43) (nn (s 2)) (nI p) := by rw [si_b (by omega), si_a, a1, si_b (by omega)]; rfl
  have b41 : (si (si h1 43 (nn (s 2)) (nI p)) 44 (nn (s 2)) (nI 0)).1 41 = ups (h.1 41) 1 (nI (nn (s 2) + 1)) := by rw [si_b (by omega), si_b (by omega), a1, si_a]; rfl
  have bo : ∀ b, b ≠ 41 → b ≠ 43 → b ≠ 44 → (si (si h1 43 (nn (s 2)) (nI p)) 44 (nn (s 2)) (nI 0)).1 b = h.1 b := fun b x1 x2 x3 => by rw [si_b x3, si_b x2, a1, si_b x1]; rfl
  have F0 : Fz WD VD h (si (si h1 43 (nn (s 2)) (nI p)) 44 (nn (s 2)) (nI 0)) := by
    rw [a1]
    exact (((Fz.sl h x (Or.inr (Or.inr rfl))).trans (Fz.si _ _ (wdd (by omega)))).trans (Fz.si _ _ (wdd (by omega)))).trans (Fz.si _ _ (wdd (by omega)))
  have l0 : (si (si h1 43 (nn (s 2)) (nI p)) 44 (nn (s 2)) (nI 0)).2 = (sl h 42 (nn (s 2)) x).2 := by rw [a1]; rfl
  generalize si (si h1 43 (nn (s 2)) (nI p)) 44 (nn (s 2)) (nI 0) = h2 at b44 b43 b41 bo F0 l0
  refine l_addM (h0 := h2) (s := s) hm (fun o' ho => by rw [b43, ups_n (by omega)]; exact M.2.2.2.2.1 o' ho) (fun h4 c4 l4 e4 => ?_) _ 0 h2 (Nat.zero_add _) (fun _ _ => rfl) rfl ?_
  · -- the place's set, the wave's set
    have F4 : Fz WD VD h h4 := F0.trans ⟨fun b k y => by
      show h4.1 b k = h2.1 b k
      rw [c4 b (fun z => y (by rw [z]; unfold WD; omega))], fun b _ => by rw [l4], fun b _ => by rw [l4]⟩
    refine u_X5_addMember_44 (pk_le (nn (s 2)) (nn (s 2)) (fun _ => ⟨vp_in_nI (by omega) (by omega), vp_in_nI (by omega) (by omega), vp_in_nI (by omega) (by omega), ?_⟩) (fun y => absurd y (by omega)))
    rw [cl (by omega)]
    have e39 : gi h4 39 p = mk (nn (s 2)) (fun j => decide (mf s j 0 = nI p)) := by
      show h4.1 39 p = _
      rw [c4 39 (by omega), bo 39 (by omega) (by omega) (by omega)]; exact M.2.2.1 p hp
    have e38 : gi h4 38 p = s (44 + p) := by
      show h4.1 38 p = _
      rw [c4 38 (by omega), bo 38 (by omega) (by omega) (by omega)]; exact M.2.1 p hp
    have e3012 : gi h4 30 12 = nI (nn (s 3)) := by
      show h4.1 30 12 = _
      rw [c4 30 (by omega), bo 30 (by omega) (by omega) (by omega)]; exact D.1.wa.trans P.x.2.2.1.1
    intro y1
    have ey : y1 = s (44 + p) := by
      show gi (si h4 39 p _) 38 p = _
      rw [gi_ob (by omega)]; exact e38
    clear_value y1
    subst ey
    -- the end
    have fin : ∀ h5 : PH, (∀ c, c ≠ 39 → c ≠ 40 → h5.1 c = h4.1 c) → h5.2 = h4.2 → h5.1 39 = ups (h4.1 39) p (h4.1 39 p ||| ((nI 1) <<< (nI (nn (s 2)) &&& 31))) → (∀ w, w < nn (s 3) → h5.1 40 w = if s (44 + p) = nI w then h4.1 40 w ||| ((nI 1) <<< (nI (nn (s 2)) &&& 31)) else h4.1 40 w) → Fz WD VD h4 h5 → rV q (fun h1 => vp_in (nI (nn (s 2))) 12 ∧ vp_in (nI (nn (s 2))) 12 ∧ vp_in (nI (nn (s 2))) 12 ∧ (let h2 : PH := (si (si (si h1 75 (nn (s 2)) (nI v)) 76 (nn (s 2)) (nI v)) 77 (nn (s 2)) (-(nI 1))); (vp_in (nI (nn (s 2))) 12 ∧ ((b2i hb = 0 → (let h3 : PH := (si (si h2 78 (nn (s 2)) (nI 0)) 74 8 ((gi (si h2 78 (nn (s 2)) (nI 0)) 74 8) ||| (nI 0))); rV q kv (.inl none) h3)) ∧ (¬ b2i hb = 0 → (let y4 : Int32 := ((gi (si h2 78 (nn (s 2)) (nI 0)) 74 8) ||| ((nI 1) <<< ((nI (nn (s 2))) &&& 31))); rV q kv (.inl none) (si (si h2 78 (nn (s 2)) (nI 0)) 74 8 y4)))))) ) (.inl none) h5 := fun h5 k1 k2 k3 k4 F5 => by
      refine ⟨vp_in_nI (by omega) (by omega), vp_in_nI (by omega) (by omega), vp_in_nI (by omega) (by omega), ?_⟩
      intro h6
      have F6 : Fz WD VD h5 h6 := ((Fz.si h5 _ (wdd (by omega))).trans (Fz.si _ _ (wdd (by omega)))).trans (Fz.si _ _ (wdd (by omega)))
      have c75 : h6.1 75 = ups (h5.1 75) (nn (s 2)) (nI v) := by
        show (si (si (si h5 75 _ _) 76 _ _) 77 _ _).1 75 = _
        rw [si_b (by omega), si_b (by omega), si_a]
      have c76 : h6.1 76 = ups (h5.1 76) (nn (s 2)) (nI v) := by
        show (si (si (si h5 75 _ _) 76 _ _) 77 _ _).1 76 = _
        rw [si_b (by omega), si_a, si_b (by omega)]
      have c77 : h6.1 77 = ups (h5.1 77) (nn (s 2)) (-(nI 1)) := by
        show (si (si (si h5 75 _ _) 76 _ _) 77 _ _).1 77 = _
        rw [si_a, si_b (by omega), si_b (by omega)]
      have c6 : ∀ b, b ≠ 75 → b ≠ 76 → b ≠ 77 → h6.1 b = h5.1 b := fun b x1 x2 x3 => by
        show (si (si (si h5 75 _ _) 76 _ _) 77 _ _).1 b = _
        rw [si_b x3, si_b x2, si_b x1]
      have l6 : h6.2 = h5.2 := rfl
      clear_value h6
      have base : ∀ b, b ≠ 39 → b ≠ 40 → b ≠ 41 → b ≠ 43 → b ≠ 44 → b ≠ 75 → b ≠ 76 → b ≠ 77 → h6.1 b = h.1 b := fun b x1 x2 x3 x4 x5 x6 x7 x8 => by
        rw [c6 b x6 x7 x8, k1 b x1 x2, c4 b x5, bo b x3 x4 x5]
      have g748 : gi (si h6 78 (nn (s 2)) (nI 0)) 74 8 = mk (nn (s 2)) (fun o => decide (mf s o 5 = nI 1)) := by
        rw [gi_ob (by omega)]
        show h6.1 74 8 = _
        rw [base 74 (by omega) (by omega) (by omega) (by omega) (by omega) (by omega) (by omega) (by omega)]; exact D.2.1.he
      rw [g748]
      refine ⟨vp_in_nI (by omega) (by omega), ?_⟩
      have done : ∀ z : Int32, z = mk (nn (s 2) + 1) (fun o => decide (mf (memS s p v hb) o 5 = nI 1)) → kv (si (si h6 78 (nn (s 2)) (nI 0)) 74 8 z) := fun z hz => by
        have F7 : Fz WD VD h6 (si (si h6 78 (nn (s 2)) (nI 0)) 74 8 z) := (Fz.si h6 _ (wdd (by omega))).trans (Fz.si _ _ (wdd (by omega)))
        have c78 : (si (si h6 78 (nn (s 2)) (nI 0)) 74 8 z).1 78 = ups (h6.1 78) (nn (s 2)) (nI 0) := by rw [si_b (by omega), si_a]
        have c74 : (si (si h6 78 (nn (s 2)) (nI 0)) 74 8 z).1 74 = ups (h6.1 74) 8 z := by rw [si_a, si_b (by omega)]
        have c7 : ∀ b, b ≠ 74 → b ≠ 78 → (si (si h6 78 (nn (s 2)) (nI 0)) 74 8 z).1 b = h6.1 b := fun b x1 x2 => by rw [si_b x1, si_b x2]
        have l7 : (si (si h6 78 (nn (s 2)) (nI 0)) 74 8 z).2 = (sl h 42 (nn (s 2)) x).2 := by
          show h6.2 = _
          rw [l6, k2, l4, l0]
        have F : Fz WD VD h (si (si h6 78 (nn (s 2)) (nI 0)) 74 8 z) := ((F4.trans F5).trans F6).trans F7
        generalize si (si h6 78 (nn (s 2)) (nI 0)) 74 8 z = h7 at c78 c74 c7 l7 F
        have ha : ∀ b, b ≠ 39 → b ≠ 40 → b ≠ 41 → b ≠ 43 → b ≠ 44 → b ≠ 74 → b ≠ 75 → b ≠ 76 → b ≠ 77 → b ≠ 78 → h7.1 b = h.1 b := fun b x1 x2 x3 x4 x5 x6 x7 x8 x9 x10 => by
          rw [c7 b x6 x10, base b x1 x2 x3 x4 x5 x7 x8 x9]
        have d39 : h7.1 39 = ups (h4.1 39) p (h4.1 39 p ||| ((nI 1) <<< (nI (nn (s 2)) &&& 31))) := by rw [c7 39 (by omega) (by omega), c6 39 (by omega) (by omega) (by omega), k3]
        have d40 : ∀ w, w < nn (s 3) → h7.1 40 w = if s (44 + p) = nI w then h4.1 40 w ||| ((nI 1) <<< (nI (nn (s 2)) &&& 31)) else h4.1 40 w := fun w hw => by rw [c7 40 (by omega) (by omega), c6 40 (by omega) (by omega) (by omega), k4 w hw]
        have d41 : h7.1 41 = ups (h.1 41) 1 (nI (nn (s 2) + 1)) := by rw [c7 41 (by omega) (by omega), c6 41 (by omega) (by omega) (by omega), k1 41 (by omega) (by omega), c4 41 (by omega), b41]
        have d43 : h7.1 43 = ups (h.1 43) (nn (s 2)) (nI p) := by rw [c7 43 (by omega) (by omega), c6 43 (by omega) (by omega) (by omega), k1 43 (by omega) (by omega), c4 43 (by omega), b43]
        have d44 : h7.1 44 = jnR s (ups (h.1 44) (nn (s 2)) (nI 0)) (nn (s 2)) p (nn (s 2)) := by rw [c7 44 (by omega) (by omega), c6 44 (by omega) (by omega) (by omega), k1 44 (by omega) (by omega), e4, b44]
        have dlg : ∀ b j, gl h7 b j = gl (sl h 42 (nn (s 2)) x) b j := fun b j => by
          show h7.2.1 b j = _
          rw [l7]; rfl
        have wo : ∀ m, m < nn (s 2) → ∀ z, ofW (memS s p v hb) m z = ofW s m z := fun m hm' z => by
          have h9 := (P.x.2.2.2.2.1 m hm').2
          have ep : pN (memS s p v hb) m = pN s m := by unfold pN; rw [mem_o (by omega) (by omega)]
          unfold ofW wvOf
          rw [ep, o _ (by omega) (by omega)]
        have wn : ∀ z, ofW (memS s p v hb) (nn (s 2)) z = decide (s (44 + p) = z) := fun z => by
          have ep : pN (memS s p v hb) (nn (s 2)) = p := by unfold pN; rw [hn.1, nn_nI (by omega)]
          unfold ofW wvOf
          rw [ep, o _ (by omega) (by omega)]
        have isd : ∀ m, m < nn (s 2) + 1 → isD (memS s p v hb) m = false := fun m hm' => by
          by_cases d : m = nn (s 2)
          · rw [d]; exact isD_m1 hn.2.2.1
          · rw [isD_of (mem_o d (by omega))]; exact (P.m m (by omega)).up
        refine K h7 F ⟨LyR.of3 (D.1.v3.congr (o 0 (by omega) (by omega)) h8 (fun i _ _ => o i (by omega) (by omega)) (ha _ (by omega) (by omega) (by omega) (by omega) (by omega) (by omega) (by omega) (by omega) (by omega) (by omega)) (ha _ (by omega) (by omega) (by omega) (by omega) (by omega) (by omega) (by omega) (by omega) (by omega) (by omega)) (ha _ (by omega) (by omega) (by omega) (by omega) (by omega) (by omega) (by omega) (by omega) (by omega) (by omega)) (ha _ (by omega) (by omega) (by omega) (by omega) (by omega) (by omega) (by omega) (by omega) (by omega) (by omega))) (D.1.n3.congr (fun i _ _ => o i (by omega) (by omega)) (fun k _ _ => by rw [ha 30 (by omega) (by omega) (by omega) (by omega) (by omega) (by omega) (by omega) (by omega) (by omega) (by omega)])) ⟨⟨?_, ?_, ?_, ?_⟩, fun p' hp' => ?_, fun p' hp' => ?_, fun w' hw' => ?_, fun m hm' => ?_, fun m hm' => ?_⟩, ⟨⟨fun m hm' => ?_, fun m hm' => ?_, fun m hm' => ?_, fun m hm' => ?_, ?_, ?_⟩, ⟨?_, ?_, ?_, ?_, ?_, ?_⟩, ?_⟩, ⟨fun i hi => ?_, fun i hi => ?_, fun i hi => ?_⟩⟩
        · rw [ha _ (by omega) (by omega) (by omega) (by omega) (by omega) (by omega) (by omega) (by omega) (by omega) (by omega), o 1 (by omega) (by omega)]; exact M.1.1
        · show h7.1 41 1 = _
          rw [d41, ups_s, e2.1]
        · rw [ha _ (by omega) (by omega) (by omega) (by omega) (by omega) (by omega) (by omega) (by omega) (by omega) (by omega), o 3 (by omega) (by omega)]; exact M.1.2.2.1
        · rw [ha _ (by omega) (by omega) (by omega) (by omega) (by omega) (by omega) (by omega) (by omega) (by omega) (by omega), o 4 (by omega) (by omega)]; exact M.1.2.2.2
        · rw [o 1 (by omega) (by omega)] at hp'
          rw [ha _ (by omega) (by omega) (by omega) (by omega) (by omega) (by omega) (by omega) (by omega) (by omega) (by omega), o (44 + p') (by omega) (by omega)]; exact M.2.1 p' hp'
        · rw [o 1 (by omega) (by omega)] at hp'
          rw [e2.2]
          show h7.1 39 p' = _
          rw [d39]
          have old : h4.1 39 p' = mk (nn (s 2)) (fun m => decide (mf s m 0 = nI p')) := by
            rw [c4 39 (by omega), bo 39 (by omega) (by omega) (by omega)]; exact M.2.2.1 p' hp'
          have eq : mk (nn (s 2)) (fun m => decide (mf (memS s p v hb) m 0 = nI p')) = mk (nn (s 2)) (fun m => decide (mf s m 0 = nI p')) := mk_eq fun m hm' => by rw [mem_o (by omega) (by omega)]
          by_cases d : p' = p
          · subst d
            rw [ups_s, old, ← eq]
            exact mk_yes (p := fun m => decide (mf (memS s p' v hb) m 0 = nI p')) (decide_eq_true hn.1)
          · rw [ups_n d, old, ← eq]
            refine (mk_no (p := fun m => decide (mf (memS s p v hb) m 0 = nI p')) (decide_eq_false fun y => ?_)).symm
            rw [hn.1, nI_eq (by omega) (by omega)] at y
            exact d y.symm
        · rw [o 3 (by omega) (by omega)] at hw'
          rw [e2.2]
          show h7.1 40 w' = _
          rw [d40 w' hw']
          have old : h4.1 40 w' = mk (nn (s 2)) (fun m => ofW s m (nI w')) := by
            rw [c4 40 (by omega), bo 40 (by omega) (by omega) (by omega)]; exact M.2.2.2.1 w' hw'
          have eq : mk (nn (s 2)) (fun m => ofW (memS s p v hb) m (nI w')) = mk (nn (s 2)) (fun m => ofW s m (nI w')) := mk_eq fun m hm' => wo m hm' _
          rw [old, ← eq]
          by_cases d : s (44 + p) = nI w'
          · rw [if_pos d]
            exact mk_yes (p := fun m => ofW (memS s p v hb) m (nI w')) (by
              show ofW (memS s p v hb) (nn (s 2)) (nI w') = true
              rw [wn]; exact decide_eq_true d)
          · rw [if_neg d]
            exact (mk_no (p := fun m => ofW (memS s p v hb) m (nI w')) (by
              show ofW (memS s p v hb) (nn (s 2)) (nI w') = false
              rw [wn]; exact decide_eq_false d)).symm
        · rw [e2.2] at hm'
          show h7.1 43 m = _
          rw [d43]
          by_cases d : m = nn (s 2)
          · subst d; rw [ups_s, hn.1]
          · rw [ups_n d, mem_o d (by omega)]; exact M.2.2.2.2.1 m (by omega)
        · rw [e2.2] at hm' ⊢
          show h7.1 44 m = _
          rw [d44]
          unfold jnR
          by_cases d : m = nn (s 2)
          · subst d
            rw [if_pos rfl]
            have nq : par (memS s p v hb) (nn (s 2)) (nn (s 2)) = false := by
              rw [mem_par P hm (by omega) (by omega), if_neg (by omega), decide_eq_true rfl]; rfl
            rw [mk_no nq]
            refine mk_eq fun j hj => ?_
            rw [mem_par P hm (by omega) (by omega), if_neg (by omega), decide_eq_true hj, Bool.true_and, decide_eq_false (show ¬ nn (s 2) = j by omega), hn.1, mem_o (by omega) (by omega), Bool.not_false, Bool.true_and]
            exact decide_eq_decide.mpr ⟨fun z => z.symm, fun z => z.symm⟩
          · rw [if_neg d, ups_n d]
            have eq : mk (nn (s 2)) (par (memS s p v hb) m) = mk (nn (s 2)) (par s m) := mk_eq fun j hj => by rw [mem_par P hm (by omega) (by omega), if_pos ⟨by omega, hj⟩]
            have nq : par (memS s p v hb) m (nn (s 2)) = decide (mf s m 0 = nI p) := by
              rw [mem_par P hm (by omega) (by omega), if_neg (by omega), decide_eq_false (show ¬ m = nn (s 2) from d), hn.1, mem_o (by omega) (by omega), Bool.not_false, Bool.true_and]
            rw [show h.1 44 m = _ from M.2.2.2.2.2 m (by omega), ← eq, decide_eq_true (show m < nn (s 2) by omega), Bool.true_and]
            cases y : decide (mf s m 0 = nI p)
            · rw [if_neg (by decide), mk_no (nq.trans y)]
            · rw [if_pos rfl]; exact mk_yes (nq.trans y)
        · rw [e2.2] at hm'
          show h7.1 75 m = _
          rw [c7 75 (by omega) (by omega), c75, k1 75 (by omega) (by omega), c4 75 (by omega), bo 75 (by omega) (by omega) (by omega)]
          by_cases d : m = nn (s 2)
          · subst d; rw [ups_s, hn.2.1]
          · rw [ups_n d, mem_o d (by omega)]; exact D.2.1.ve m (by omega)
        · rw [e2.2] at hm'
          show h7.1 76 m = _
          have cm : com (memS s p v hb) m = mf (memS s p v hb) m 1 := by unfold com; rw [isd m hm']
          rw [cm, c7 76 (by omega) (by omega), c76, k1 76 (by omega) (by omega), c4 76 (by omega), bo 76 (by omega) (by omega) (by omega)]
          by_cases d : m = nn (s 2)
          · subst d; rw [ups_s, hn.2.1]
          · rw [ups_n d, mem_o d (by omega)]
            have cs : com s m = mf s m 1 := by unfold com; rw [(P.m m (by omega)).up]
            rw [← cs]; exact D.2.1.co m (by omega)
        · rw [e2.2] at hm'
          show h7.1 77 m = _
          rw [c7 77 (by omega) (by omega), c77, k1 77 (by omega) (by omega), c4 77 (by omega), bo 77 (by omega) (by omega) (by omega)]
          by_cases d : m = nn (s 2)
          · subst d; rw [ups_s, hn.2.2.2.1]
          · rw [ups_n d, mem_o d (by omega)]; exact D.2.1.un m (by omega)
        · rw [e2.2] at hm'
          show h7.1 78 m = _
          rw [c78, base 78 (by omega) (by omega) (by omega) (by omega) (by omega) (by omega) (by omega) (by omega)]
          by_cases d : m = nn (s 2)
          · subst d
            rw [ups_s, hn.2.2.2.2.2.1, (P.zx.2.1 _ hm (Nat.le_refl _)).1]; rfl
          · rw [ups_n d, mem_o d (by omega)]; exact D.2.1.me m (by omega)
        · rw [e2.2, c74, ups_n (by omega), base 74 (by omega) (by omega) (by omega) (by omega) (by omega) (by omega) (by omega) (by omega), show h.1 74 7 = _ from D.2.1.ds]
          rw [mk_0 (n := nn (s 2) + 1) isd]
          exact mk_0 fun m hm' => (P.m m hm').up
        · rw [e2.2, c74, ups_s]; exact hz
        · rw [c74, ups_n (by omega), base 74 (by omega) (by omega) (by omega) (by omega) (by omega) (by omega) (by omega) (by omega)]; exact D.2.1.ib
        · rw [c74, ups_n (by omega), base 74 (by omega) (by omega) (by omega) (by omega) (by omega) (by omega) (by omega) (by omega), o 11 (by omega) (by omega)]; exact D.2.1.ck
        · rw [c74, ups_n (by omega), base 74 (by omega) (by omega) (by omega) (by omega) (by omega) (by omega) (by omega) (by omega), o 5 (by omega) (by omega)]; exact D.2.1.fo
        · rw [c74, ups_n (by omega), base 74 (by omega) (by omega) (by omega) (by omega) (by omega) (by omega) (by omega) (by omega), o 12 (by omega) (by omega)]; exact D.2.1.st
        · intro y
          exfalso
          unfold hasP at y
          rw [o 12 (by omega) (by omega), P.c.2.2.1] at y
          exact absurd y (by decide)
        · rw [c74, ups_n (by omega), base 74 (by omega) (by omega) (by omega) (by omega) (by omega) (by omega) (by omega) (by omega), soakE_of (o 12 (by omega) (by omega)) (o 16 (by omega) (by omega)) (o 18 (by omega) (by omega))]; exact D.2.1.se
        · exact D.2.1.2.2.congr (o 19 (by omega) (by omega)) (fun i hi => o133 i hi) (ha 79 (by omega) (by omega) (by omega) (by omega) (by omega) (by omega) (by omega) (by omega) (by omega) (by omega)) (ha 80 (by omega) (by omega) (by omega) (by omega) (by omega) (by omega) (by omega) (by omega) (by omega) (by omega))
        · rw [o 0 (by omega) (by omega)] at hi
          rw [dlg, gl_ob (by omega), upn_n (by omega)]
          exact D.2.2.1 i hi
        · rw [o 1 (by omega) (by omega)] at hi
          rw [dlg, gl_ob (by omega), upn_n (by omega)]
          exact D.2.2.2.1 i hi
        · rw [e2.2] at hi
          rw [dlg]
          by_cases d : i = nn (s 2)
          · subst d; rw [gl_same, upn_s]; exact N
          · rw [gl_ok d, upn_n (by omega)]; exact D.2.2.2.2 i (by omega)
      have eq5 : mk (nn (s 2)) (fun o => decide (mf (memS s p v hb) o 5 = nI 1)) = mk (nn (s 2)) (fun o => decide (mf s o 5 = nI 1)) := mk_eq fun m hm' => by rw [mem_o (by omega) (by omega)]
      cases hb
      · refine ⟨fun _ => ?_, fun y => absurd rfl y⟩
        refine done _ ?_
        rw [show nI 0 = (0 : Int32) from rfl, or_0, ← eq5]
        exact (mk_no (p := fun o => decide (mf (memS s p v false) o 5 = nI 1)) (decide_eq_false (by rw [hn.2.2.2.2.1]; decide))).symm
      · refine ⟨fun y => absurd y (by decide), fun _ => ?_⟩
        refine done _ ?_
        rw [← eq5]
        exact mk_yes (p := fun o => decide (mf (memS s p v true) o 5 = nI 1)) (decide_eq_true (by rw [hn.2.2.2.2.1]; rfl))
    have c39 : ∀ c, c ≠ 39 → (si h4 39 p (gi h4 39 p ||| ((nI 1) <<< (nI (nn (s 2)) &&& 31)))).1 c = h4.1 c := fun c hc => si_b hc
    have F39 : Fz WD VD h4 (si h4 39 p (gi h4 39 p ||| ((nI 1) <<< (nI (nn (s 2)) &&& 31)))) := Fz.si h4 _ (wdd (by omega))
    rcases P.x.2.2.2.2.2.1 p hp with y | ⟨y, y2⟩
    · rw [y]
      refine br_t (by decide) (u_X5_addMember_125 (fin _ (fun c x1 x2 => c39 c x1) rfl (by rw [si_a]; rfl) (fun w hw => ?_) F39))
      rw [y, c39 40 (by omega), if_neg (fun z => (isN_nI (n := w) (Nat.le_refl _) (by omega)).nm1 z.symm)]
    · have y3 := y.1
      generalize nn (s (44 + p)) = wv at y y2 y3
      rw [y3]
      refine br_f (nI_pos (by omega)) ?_
      intro y2'
      have e22 : y2' = nI (nn (s 3)) := by
        show gi (si h4 39 p _) 30 12 = _
        rw [gi_ob (by omega)]; exact e3012
      clear_value y2'
      subst e22
      refine br_f (nI_ge (by omega) (by omega)) ⟨vp_in_nI (by omega) (by omega), ?_⟩
      rw [cl (by omega)]
      intro y4
      have e44 : y4 = h4.1 40 wv := by
        show gi (si h4 39 p _) 40 wv = _
        rw [gi_ob (by omega)]; rfl
      clear_value y4
      subst e44
      refine ⟨vp_in_nI (by omega) (by omega), ?_⟩
      intro h5
      refine u_X5_addMember_125 (fin h5 (fun c x1 x2 => ?_) rfl ?_ (fun w hw => ?_) (F39.trans (Fz.si _ _ (wdd (by omega)))))
      · show (si (si h4 39 p _) 40 wv _).1 c = _
        rw [si_b x2, si_b x1]
      · show (si (si h4 39 p _) 40 wv _).1 39 = _
        rw [si_b (by omega), si_a]; rfl
      · show (si (si h4 39 p _) 40 wv _).1 40 w = _
        rw [si_a, y3, si_b (by omega)]
        by_cases d : wv = w
        · subst d; rw [ups_s, if_pos rfl]
        · rw [ups_n (fun z => d z.symm), if_neg (fun z => d ((nI_eq (by omega) (by omega)).mp z))]
  · rw [b44]
    funext o'
    unfold jnR
    by_cases d : o' = nn (s 2)
    · subst d
      rw [if_pos rfl, ups_s]
      refine (mk_0 fun j hj => ?_).symm
      rw [decide_eq_false (Nat.not_lt_zero j), Bool.false_and]
    · rw [if_neg d, decide_eq_false (Nat.not_lt_zero o'), Bool.false_and, if_neg (by decide)]
end

