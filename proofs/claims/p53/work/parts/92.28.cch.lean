/-! ===== the class's minute ===== -/
section
variable {q : Nat → PH → Prop} {kk : Int32 → PH → Prop} {kv : PH → Prop} {h : PH} {s t : RW} {C E : Nat} {a L : Nat} {f g : FI}
def WS (a b k : Nat) : Bool := Nat.ble a b && Nat.ble b (a + 6)
def WE (a b k : Nat) : Bool := Nat.beq b (a + 5) || Nat.beq b (a + 6)
theorem WS_f {a b k : Nat} (e : b < a ∨ a + 6 < b) : WS a b k = false := by
  cases h1 : WS a b k
  · rfl
  · simp only [WS, Bool.and_eq_true] at h1
    have := Nat.le_of_ble_eq_true h1.1
    have := Nat.le_of_ble_eq_true h1.2
    omega
theorem WS_t {a b k : Nat} (e : a ≤ b) (e2 : b ≤ a + 6) : WS a b k = true := by
  simp only [WS, Bool.and_eq_true]
  exact ⟨Nat.ble_eq_true_of_le e, Nat.ble_eq_true_of_le e2⟩
theorem WE_f {a b k : Nat} (e : b ≠ a + 5) (e2 : b ≠ a + 6) : WE a b k = false := by
  cases h1 : WE a b k
  · rfl
  · simp only [WE, Bool.or_eq_true] at h1
    rcases h1 with h1 | h1
    · exact absurd (Nat.eq_of_beq_eq_true h1) e
    · exact absurd (Nat.eq_of_beq_eq_true h1) e2
theorem WE_WS {a b k : Nat} (e : WS a b k = false) : WE a b k = false := by
  cases h1 : WE a b k
  · rfl
  · simp only [WE, Bool.or_eq_true] at h1
    rcases h1 with h1 | h1
    · have := Nat.eq_of_beq_eq_true h1
      rw [WS_t (by omega) (by omega)] at e; cases e
    · have := Nat.eq_of_beq_eq_true h1
      rw [WS_t (by omega) (by omega)] at e; cases e
theorem LyR.heap (e : ∀ b, L ≤ b → b ≤ L + 14 → g b = f b) (Y : LyR L s f) : LyR L s g := by
  refine ⟨?_, ?_, ?_, ?_, ?_, ?_, ?_, ?_, ?_, ?_, ?_, ?_, ?_, ?_, ?_, ?_, ?_, ?_⟩
  · rw [e _ (by omega) (by omega)]; exact Y.nv
  · rw [e _ (by omega) (by omega)]; exact Y.np
  · rw [e _ (by omega) (by omega)]; exact Y.nm
  · rw [e _ (by omega) (by omega)]; exact Y.wa
  · rw [e _ (by omega) (by omega)]; exact Y.li
  · rw [e _ (by omega) (by omega)]; exact Y.sk
  · rw [e _ (by omega) (by omega)]; exact Y.dn
  · rw [e _ (by omega) (by omega)]; exact Y.tk
  · rw [e _ (by omega) (by omega)]; exact Y.so
  · rw [e _ (by omega) (by omega)]; exact Y.lm
  · rw [e _ (by omega) (by omega)]; exact Y.lo
  · rw [e _ (by omega) (by omega)]; exact Y.hi
  · rw [e _ (by omega) (by omega)]; exact Y.ta
  · rw [e _ (by omega) (by omega)]; exact Y.wp
  · rw [e _ (by omega) (by omega)]; exact Y.ps
  · rw [e _ (by omega) (by omega)]; exact Y.ws
  · rw [e _ (by omega) (by omega)]; exact Y.po
  · rw [e _ (by omega) (by omega)]; exact Y.pa
/-- what a state's change leaves of the layout -/
theorem LyR.fr {h h' : PH} (ha : a = 60 ∨ a = 67) (fr : Fr (WS a) h h') (Y : LyR 15 s h.1) : LyR 15 s h'.1 :=
  Y.heap fun b h1 h2 => fr.cell fun k => WS_f (by omega)
theorem soakE_of (e12 : t 12 = s 12) (e16 : t 16 = s 16) (e18 : t 18 = s 18) : soakE t = soakE s := by unfold soakE; rw [e12, e16, e18]
theorem StT.congr (e : ∀ i, i = 5 ∨ (11 ≤ i ∧ i ≤ 18) → t i = s i) (e2 : ∀ k, k ≠ 7 → k ≠ 8 → g a k = f a k) (S : StT a s f) : StT a t g := by
  refine ⟨?_, ?_, ?_, ?_, ?_, ?_⟩
  · rw [e2 12 (by omega) (by omega)]; exact S.ib
  · rw [e2 1 (by omega) (by omega), e 11 (by omega)]; exact S.ck
  · rw [e2 2 (by omega) (by omega), e 5 (by omega)]; exact S.fo
  · rw [e2 9 (by omega) (by omega), e 12 (by omega)]; exact S.st
  · rw [hasP_of (e 12 (by omega)), e2 10 (by omega) (by omega), e2 11 (by omega) (by omega), e2 12 (by omega) (by omega), e2 13 (by omega) (by omega), e 13 (by omega), e 14 (by omega), e 17 (by omega), e 15 (by omega)]; exact S.pl
  · rw [e2 14 (by omega) (by omega), soakE_of (e 12 (by omega)) (e 16 (by omega)) (e 18 (by omega))]; exact S.se
theorem kEv_of (e : t 19 = s 19) : kEv t = kEv s := by unfold kEv; rw [e]
theorem StE.congr (e : t 19 = s 19) (e2 : ∀ i, 133 ≤ i → t i = s i) (g5 : g (a + 5) = f (a + 5)) (g6 : g (a + 6) = f (a + 6)) (S : StE a s f) : StE a t g := by
  obtain ⟨h1, w, hw, h2, h3⟩ := S
  refine ⟨by rw [g5, kEv_of e]; exact h1, w, hw, by rw [g5]; exact h2, fun i hi j hj => ?_⟩
  rw [kEv_of e] at hi
  rw [g6, e, e2 _ (by unfold evM; omega)]
  exact h3 i hi j hj
/-- members: cells of a state that don't change -/
theorem StM.congr (e2 : t 2 = s 2) (hm : nn (s 2) ≤ 12) (e : ∀ m w, m < 12 → 1 ≤ w → w ≤ 5 → mf t m w = mf s m w) (g0 : g a 7 = f a 7) (g8 : g a 8 = f a 8) (g1 : g (a + 1) = f (a + 1)) (g2 : g (a + 2) = f (a + 2)) (g3 : g (a + 3) = f (a + 3)) (g4 : g (a + 4) = f (a + 4)) (S : StM a s f) : StM a t g := by
  refine ⟨?_, ?_, ?_, ?_, ?_, ?_⟩
  · rw [e2, g1]; intro m h1; rw [e m 1 (by omega) (by omega) (by omega)]; exact S.ve m h1
  · rw [e2, g2]; intro m h1; rw [com_of (e m 2 (by omega) (by omega) (by omega)) (e m 1 (by omega) (by omega) (by omega))]; exact S.co m h1
  · rw [e2, g3]; intro m h1; rw [e m 3 (by omega) (by omega) (by omega)]; exact S.un m h1
  · rw [e2, g4]; intro m h1; rw [e m 4 (by omega) (by omega) (by omega)]; exact S.me m h1
  · rw [e2, g0, S.ds]; exact mk_eq fun m h1 => (isD_of (e m 2 (by omega) (by omega) (by omega))).symm
  · rw [e2, g8, S.he]; exact mk_eq fun m h1 => by rw [e m 5 (by omega) (by omega) (by omega)]
theorem kEv_ev {k m n : Int32} (he : isN (s 19) E) (hE : E + 1 < 2 ^ 31) : nI (kEv (evS s k m n)) = (if nI 30 < nI (kEv s + 1) then nI 30 else nI (kEv s + 1)) := by
  have h1 := (evS_ev (k := k) (m := m) (n := n) he hE).2
  unfold kEv
  rw [h1]
  by_cases c : nn (s 19) < 30
  · rw [if_pos c]
    by_cases c2 : nn (s 19) + 1 < 30
    · rw [if_pos c2, if_neg (nI_nlt (by omega) (by omega))]
    · rw [if_neg c2, if_neg (nI_nlt (by omega) (by omega)), show nn (s 19) + 1 = 30 by omega]
  · rw [if_neg c, if_neg (by omega), if_pos (nI_lt (by omega) (by omega))]
theorem evS_in {k m n : Int32} : evS s k m n (133 + 4 * (nn (s 19) % 30)) = s 11 ∧ evS s k m n (133 + 4 * (nn (s 19) % 30) + 1) = k ∧ evS s k m n (133 + 4 * (nn (s 19) % 30) + 2) = m ∧ evS s k m n (133 + 4 * (nn (s 19) % 30) + 3) = n := by
  refine ⟨?_, ?_, ?_, ?_⟩
  · unfold evS; rw [if_pos rfl]
  · unfold evS; rw [if_neg (by omega), if_pos rfl]
  · unfold evS; rw [if_neg (by omega), if_neg (by omega), if_pos rfl]
  · unfold evS; rw [if_neg (by omega), if_neg (by omega), if_neg (by omega), if_pos rfl]
theorem evS_out {k m n : Int32} {i : Nat} (h1 : 133 ≤ i) (h2 : i < 133 + 4 * (nn (s 19) % 30) ∨ 133 + 4 * (nn (s 19) % 30) + 3 < i) : evS s k m n i = s i := by
  unfold evS
  rw [if_neg (by omega), if_neg (by omega), if_neg (by omega), if_neg (by omega), if_neg (by omega)]
theorem c_add {ck k m n : Int32} (ha : a = 60 ∨ a = 67) (S : StE a s h.1) (he : isN (s 19) E) (hE : E + 1 < 2 ^ 31) (hck : ck = s 11) (K : ∀ h', Fr (WE a) h h' → StE a (evS s k m n) h'.1 → kv h') : MetPM m_X3_add [.ref (a + 5), .int ck, .int k, .int m, .int n] h (rV q kv) := by
  obtain ⟨s1, w, hw, s2, s3⟩ := S
  have s1' : gi h (a + 5) 1 = nI (kEv s) := s1
  have s2' : gi h (a + 5) 2 = nI w := s2
  have hk : kEv s ≤ 30 := by unfold kEv; split <;> omega
  have hw9 : (w + 1) % 30 < 30 := Nat.mod_lt _ (by omega)
  have e1 : (gi h (a + 5) 2 + nI 1) - (gi h (a + 5) 2 + nI 1) / nI 30 * nI 30 = nI ((w + 1) % 30) := by rw [s2', nI_add, pk_rem (by omega) (by omega) (by omega)]
  refine t_X3_add (by omega) ⟨by decide, ?_⟩
  rw [e1, gi_same, pk_mul]
  intro y1
  have ey : y1 = nI ((w + 1) % 30 * 4) := rfl
  clear_value y1
  subst ey
  rw [nI_add, nI_add, nI_add, cl (by omega), cl (by omega), cl (by omega), cl (by omega)]
  refine ⟨vp_in_nI (by omega) (by omega), ?_⟩
  intro h2
  refine ⟨vp_in_nI (by omega) (by omega), vp_in_nI (by omega) (by omega), vp_in_nI (by omega) (by omega), ?_⟩
  intro h3
  have e3 : gi h3 (a + 5) 1 = nI (kEv s) := by
    show gi (si (si (si (si (si h (a + 5) 2 (nI ((w + 1) % 30))) (a + 5 + 1) _ _) (a + 5 + 1) _ _) (a + 5 + 1) _ _) (a + 5 + 1) _ _) (a + 5) 1 = _
    rw [gi_ob (by omega), gi_ob (by omega), gi_ob (by omega), gi_ob (by omega), gi_ok (by omega)]; exact s1'
  rw [e3, nI_add]
  have fr : Fr (WE a) h h3 := ((((Fr.wr h _ (by simp [WE])).and _ (by simp [WE])).and _ (by simp [WE])).and _ (by simp [WE])).and _ (by simp [WE])
  have c5 : h3.1 (a + 5) = ups (h.1 (a + 5)) 2 (nI ((w + 1) % 30)) := by
    show (si (si (si (si (si h (a + 5) 2 (nI ((w + 1) % 30))) (a + 5 + 1) _ _) (a + 5 + 1) _ _) (a + 5 + 1) _ _) (a + 5 + 1) _ _).1 (a + 5) = _
    rw [si_b (by omega), si_b (by omega), si_b (by omega), si_b (by omega), si_a]
  have c6 : h3.1 (a + 6) = ups (ups (ups (ups (h.1 (a + 6)) ((w + 1) % 30 * 4) ck) ((w + 1) % 30 * 4 + 1) k) ((w + 1) % 30 * 4 + 2) m) ((w + 1) % 30 * 4 + 3) n := by
    show (si (si (si (si (si h (a + 5) 2 (nI ((w + 1) % 30))) (a + 6) _ _) (a + 6) _ _) (a + 6) _ _) (a + 6) _ _).1 (a + 6) = _
    rw [si_a, si_a, si_a, si_a, si_b (by omega)]
  refine K _ (fr.and _ (by simp [WE])) ⟨?_, (w + 1) % 30, hw9, ?_, ?_⟩
  · show gi (si h3 (a + 5) 1 _) (a + 5) 1 = _
    rw [gi_same, kEv_ev he hE]
  · show gi (si h3 (a + 5) 1 _) (a + 5) 2 = _
    rw [gi_ok (by omega)]
    show h3.1 (a + 5) 2 = _
    rw [c5, ups_s]
  · intro i hi j hj
    rw [si_b (by omega), c6, (evS_ev he hE).2]
    have hi2 : i < 30 ∧ i < nn (s 19) + 1 := by
      have hk2 := (evS_ev (k := k) (m := m) (n := n) he hE).2
      unfold kEv at hi
      rw [hk2] at hi
      split at hi <;> omega
    rcases Nat.eq_zero_or_pos i with rfl | hi0
    · have u1 : evC ((w + 1) % 30) 0 = (w + 1) % 30 * 4 := by unfold evC; omega
      have u2 : evM (nn (s 19) + 1) 0 = 133 + 4 * (nn (s 19) % 30) := by unfold evM; rfl
      rw [u1, u2]
      have v := evS_in (s := s) (k := k) (m := m) (n := n)
      match j, hj with
      | 0, _ => simp only [Nat.add_zero]; rw [v.1, ups_n (by omega), ups_n (by omega), ups_n (by omega), ups_s]; exact hck
      | 1, _ => rw [v.2.1, ups_n (by omega), ups_n (by omega), ups_s]
      | 2, _ => rw [v.2.2.1, ups_n (by omega), ups_s]
      | 3, _ => rw [v.2.2.2, ups_s]
    · have u1 : evC ((w + 1) % 30) i = evC w (i - 1) := by unfold evC; omega
      have u2 : evM (nn (s 19) + 1) i = evM (nn (s 19)) (i - 1) := by unfold evM; omega
      have u3 : evC w (i - 1) + j < (w + 1) % 30 * 4 ∨ (w + 1) % 30 * 4 + 3 < evC w (i - 1) + j := by unfold evC; omega
      have u4 : evM (nn (s 19)) (i - 1) + j < 133 + 4 * (nn (s 19) % 30) ∨ 133 + 4 * (nn (s 19) % 30) + 3 < evM (nn (s 19)) (i - 1) + j := by unfold evM; omega
      rw [u1, u2, evS_out (by unfold evM; omega) u4, ups_n (by omega), ups_n (by omega), ups_n (by omega), ups_n (by omega)]
      refine s3 (i - 1) ?_ j hj
      unfold kEv
      split <;> omega
end

