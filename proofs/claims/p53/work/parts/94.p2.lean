/-! ===== the text of a cluster that grew, as the class reads it: statements ===== -/
section
variable {c : Nat → Nat} {n p q r a e i k b d m o v x : Nat} {s s' : RW} {nm nm' nm0 : Nat → Int64} {td td' : Nat → Bool} {st rest bs : List Nat}
/-- the text st, at q, is a statement that is read -/
def Stm (q : Nat) (st : List Nat) (s : RW) (nm : Nat → Int64) (td : Nat → Bool) (s' : RW) (nm' : Nat → Int64) (td' : Nat → Bool) : Prop :=
  ∀ (c : Nat → Nat) (n p : Nat), q + st.length ≤ n → (∀ j, j < st.length → c (q + j) = st.getD j 0) → tS c n p = q → tK c n p ≠ 0 ∧ ∃ p', p' ≤ n ∧ tS c n p' = tS c n (q + st.length) ∧ aStm c n s nm td p = .inr (s', nm', td', p')
/-- what the text bs tells -/
def Rdd (s0 : RW) (nm0 : Nat → Int64) (bs : List Nat) (s : RW) (nm : Nat → Int64) (td : Nat → Bool) (m : Nat) : Prop :=
  m ≤ bs.length ∧ ∀ (c : Nat → Nat) (n : Nat), bs.length ≤ n → (∀ i, i < bs.length → c i = bs.getD i 0) → ∃ p, p ≤ n ∧ tS c n p = tS c n bs.length ∧ ∀ k, aAll c n (m + k) s0 nm0 (fun _ => false) 0 = aAll c n k s nm td p
theorem Rdd.nil {s0 : RW} : Rdd s0 nm0 [] s0 nm0 (fun _ => false) 0 := ⟨Nat.le_refl _, fun c n _ _ => ⟨0, Nat.zero_le _, rfl, fun k => by rw [Nat.zero_add]⟩⟩
theorem gD_l {a b : List Nat} {i : Nat} (h : i < a.length) : (a ++ b).getD i 0 = a.getD i 0 := by
  rw [List.getD_eq_getElem?_getD, List.getD_eq_getElem?_getD, List.getElem?_append_left h]
theorem gD_r {a b : List Nat} {i : Nat} : (a ++ b).getD (a.length + i) 0 = b.getD i 0 := by
  rw [List.getD_eq_getElem?_getD, List.getD_eq_getElem?_getD, List.getElem?_append_right (by omega), show a.length + i - a.length = i by omega]
theorem Rdd.app {s0 : RW} (R : Rdd s0 nm0 bs s nm td m) (hs : 0 < st.length) (h33 : 33 ≤ st.getD 0 0) (H : Stm bs.length st s nm td s' nm' td') : Rdd s0 nm0 (bs ++ st) s' nm' td' (m + 1) := by
  refine ⟨by rw [List.length_append]; have := R.1; omega, fun c n hn hc => ?_⟩
  rw [List.length_append] at hn hc
  obtain ⟨p, hp, hS, hk⟩ := R.2 c n (by omega) (fun i hi => by rw [hc i (by omega), gD_l hi])
  have hc2 : ∀ j, j < st.length → c (bs.length + j) = st.getD j 0 := fun j hj => by rw [hc _ (by omega), gD_r]
  have h0 := hc2 0 hs
  rw [Nat.add_zero] at h0
  have hSb : tS c n bs.length = bs.length := tS_at (by omega) (Nat.le_refl _) (fun j h1 h2 => by omega) (spC_n (by omega))
  obtain ⟨h1, p', h2, h3, h4⟩ := H c n p hn hc2 (hS.trans hSb)
  refine ⟨p', h2, by rw [List.length_append]; exact h3, fun k => ?_⟩
  rw [show m + 1 + k = m + (k + 1) by omega, hk (k + 1)]
  rw [aAll, if_neg h1, h4]
theorem aStm_ok (hf : fst1 12 (kwB c n p) = i + 1) (he : eFst s td i = 0) (hE : tE c n p = r) : aStm c n s nm td p = aSgn c n (aRst c n s nm td i r) := by
  unfold aStm
  rw [hf]
  simp only
  rw [if_pos he, hE]
theorem aSgn_ok {p2 : Nat} (hk : tK c n p2 = 3 ∧ tE c n p2 = r) : aSgn c n (.inr (s, nm, td, p2)) = .inr (s, nm, td, r) := by
  unfold aSgn
  simp only
  rw [if_pos hk.1, hk.2]
def kwL (i : Nat) : List Nat := cTx.getD i []
theorem kwL_len : (kwL i).length = kln i := rfl
theorem p_kw {L : Nat} (hL : rest.length = L) (hi : i < 12) (hst : ∀ j, j < (kwL i ++ rest).length → c (q + j) = (kwL i ++ rest).getD j 0) (hS : tS c n p = q) (hr : 0 < L) (h32 : rest.getD 0 0 = 32) (hn : q + (kwL i ++ rest).length ≤ n) : tK c n p ≠ 0 ∧ tE c n p = q + kln i ∧ fst1 12 (kwB c n p) = i + 1 ∧ ∀ j, j < L → c (q + kln i + j) = rest.getD j 0 := by
  subst hL
  have hl : (kwL i ++ rest).length = kln i + rest.length := by rw [List.length_append, kwL_len]
  have h2 : ∀ j, j < rest.length → c (q + kln i + j) = rest.getD j 0 := fun j hj => by
    rw [Nat.add_assoc, hst _ (by omega), ← kwL_len, gD_r]
  have h1 : ∀ j, j < kln i → c (q + j) = klt i j := fun j hj => by
    rw [hst _ (by omega), gD_l (by rw [kwL_len]; exact hj)]; rfl
  have t := kw_tok hi hS h1 (by have := h2 0 hr; rw [Nat.add_zero] at this; exact this.trans h32) (by omega)
  exact ⟨by rw [t.1]; decide, t.2.1, t.2.2, h2⟩
theorem no59 : leC 59 = false := by decide
theorem no32 : leC 32 = false := by decide
theorem nd59 : diC 59 = false := by decide
theorem nd32 : diC 32 = false := by decide
theorem p_tal (hN : NmI nm s) (h8 : nn (s 0) ≤ 8) (ha : a < nn (s 0)) (hb : b < nn (s 0)) (hab : b ≠ a) (ht : tlk s a b = false) : Stm q (kwL 1 ++ [32, 118, 97 + a, 32, 118, 97 + b, 59]) s nm td (talS s a b) nm td := by
  intro c n p hn hst hS
  obtain ⟨t1, t2, t3, hr⟩ := p_kw (L := 7) (i := 1) rfl (by decide) hst hS (by decide) rfl hn
  have hl : (kwL 1 ++ [32, 118, 97 + a, 32, 118, 97 + b, 59]).length = kln 1 + 7 := by rw [List.length_append, kwL_len]; rfl
  rw [hl] at hn ⊢
  have f1 := aFnd_ok (c := c) (n := n) (r := q + kln 1) (nm := nm) (o := 0) (K := fun a => aFnd c n nm 0 (nn (s 0)) (tE c n (q + kln 1)) fun b => if b = a then .inl (3, tS c n (tE c n (q + kln 1))) else if tlk s a b = true then .inl (4, tS c n (tE c n (q + kln 1))) else .inr (talS s a b, nm, td, tE c n (tE c n (q + kln 1)))) (b := 118) (by decide) (by omega) hN.1 ha (hr 0 (by decide)) (hr 1 (by decide)) (hr 2 (by decide)) (by rw [show c (q + kln 1 + 3) = 32 from hr 3 (by decide)]; exact no32) (by omega)
  have f2 := aFnd_ok (c := c) (n := n) (r := q + kln 1 + 3) (nm := nm) (o := 0) (K := fun b => if b = a then .inl (3, tS c n (tE c n (q + kln 1))) else if tlk s a b = true then .inl (4, tS c n (tE c n (q + kln 1))) else .inr (talS s a b, nm, td, tE c n (tE c n (q + kln 1)))) (b := 118) (by decide) (by omega) hN.1 hb (hr 3 (by decide)) (hr 4 (by decide)) (hr 5 (by decide)) (by rw [show c (q + kln 1 + 3 + 3) = 59 from hr 6 (by decide)]; exact no59) (by omega)
  have e : aRst c n s nm td 1 (q + kln 1) = .inr (talS s a b, nm, td, q + kln 1 + 6) := by
    show aTal c n s nm td (q + kln 1) = _
    unfold aTal
    rw [f1.1]
    rw [f1.2] at f2 ⊢
    rw [f2.1]
    rw [if_neg hab, ht, if_neg (by decide), f2.2]
  refine ⟨t1, q + kln 1 + 7, by omega, rfl, ?_⟩
  rw [aStm_ok t3 rfl t2, e]
  exact aSgn_ok (semi_tok (hr 6 (by decide)) (by omega))
theorem p_pla (hN : NmI nm s) (h5 : nn (s 1) < 5) : Stm q (kwL 2 ++ [32, 112, 97 + nn (s 1), 59]) s nm td (plaS s) (upn nm (8 + nn (s 1)) (lN (nvN 112 (nn (s 1))))) td := by
  intro c n p hn hst hS
  obtain ⟨t1, t2, t3, hr⟩ := p_kw (L := 4) (i := 2) rfl (by decide) hst hS (by decide) rfl hn
  have hl : (kwL 2 ++ [32, 112, 97 + nn (s 1), 59]).length = kln 2 + 4 := by rw [List.length_append, kwL_len]; rfl
  rw [hl] at hn ⊢
  have f1 := aNew_ok (c := c) (n := n) (r := q + kln 2) (nm := nm) (o := 8) (m := nn (s 1)) (K := fun p1 => .inr (plaS s, upn nm (8 + nn (s 1)) (lN (tM c n (q + kln 2))), td, p1)) (b := 112) (by decide) (by omega) hN.2.1 (hr 0 (by decide)) (hr 1 (by decide)) (hr 2 (by decide)) (by rw [show c (q + kln 2 + 3) = 59 from hr 3 (by decide)]; exact no59) (by omega)
  have e : aRst c n s nm td 2 (q + kln 2) = .inr (plaS s, upn nm (8 + nn (s 1)) (lN (nvN 112 (nn (s 1)))), td, q + kln 2 + 3) := by
    show aPla c n s nm td (q + kln 2) = _
    unfold aPla
    rw [f1.1]
    rw [f1.2]
  refine ⟨t1, q + kln 2 + 4, by omega, rfl, ?_⟩
  rw [aStm_ok t3 (by unfold eFst; rw [if_neg (by decide), if_neg (by decide), if_pos rfl, if_pos h5]) t2, e]
  exact aSgn_ok (semi_tok (hr 3 (by decide)) (by omega))
theorem p_lnk (hN : NmI nm s) (h12 : nn (s 2) ≤ 12) (h20 : nn (s 4) < 20) (ha : a < nn (s 2)) (hb : b < nn (s 2)) (h1 : ¬ mf s a 0 = mf s b 0) (h2 : par s a b = false) (h3 : tlk s (vN s a) (vN s b) = true) : Stm q (kwL 4 ++ [32, 109, 97 + a, 32, 109, 97 + b, 59]) s nm td (lnkS s a b) nm td := by
  intro c n p hn hst hS
  obtain ⟨t1, t2, t3, hr⟩ := p_kw (L := 7) (i := 4) rfl (by decide) hst hS (by decide) rfl hn
  have hl : (kwL 4 ++ [32, 109, 97 + a, 32, 109, 97 + b, 59]).length = kln 4 + 7 := by rw [List.length_append, kwL_len]; rfl
  rw [hl] at hn ⊢
  have e : aRst c n s nm td 4 (q + kln 4) = .inr (lnkS s a b, nm, td, q + kln 4 + 6) := by
    show aLnk c n s nm td (q + kln 4) = _
    unfold aLnk
    rw [(aFnd_ok (c := c) (n := n) (r := q + kln 4) (b := 109) (by decide) (by omega) hN.2.2 ha (hr 0 (by decide)) (hr 1 (by decide)) (hr 2 (by decide)) (by rw [show c (q + kln 4 + 3) = 32 from hr 3 (by decide)]; exact no32) (by omega)).1]
    rw [(name_tok (c := c) (n := n) (r := q + kln 4) (b := 109) (i := a) (hr 0 (by decide)) (hr 1 (by decide)) (by decide) (hr 2 (by decide)) (by omega) (by rw [show c (q + kln 4 + 3) = 32 from hr 3 (by decide)]; exact no32) (by omega)).2.1]
    have f2 := fun K : Nat → Rs => aFnd_ok (c := c) (n := n) (r := q + kln 4 + 3) (nm := nm) (o := 13) (K := K) (b := 109) (by decide) (by omega) hN.2.2 hb (hr 3 (by decide)) (hr 4 (by decide)) (hr 5 (by decide)) (by rw [show c (q + kln 4 + 3 + 3) = 59 from hr 6 (by decide)]; exact no59) (by omega)
    rw [(f2 _).1]
    rw [if_neg h1, h2, if_neg (by decide), h3, if_pos rfl, (f2 (fun _ => .inl (0, 0))).2]
  refine ⟨t1, q + kln 4 + 7, by omega, rfl, ?_⟩
  rw [aStm_ok t3 (by unfold eFst; rw [if_neg (by decide), if_neg (by decide), if_neg (by decide), if_neg (by decide), if_pos rfl, if_pos h20]) t2, e]
  exact aSgn_ok (semi_tok (hr 6 (by decide)) (by omega))
theorem p_wav (hN : NmI nm s) (h5 : nn (s 1) ≤ 5) (h3 : nn (s 3) < 5) (ha : a < nn (s 1)) (hw : s (44 + a) = -1) : Stm q (kwL 5 ++ [32, 112, 97 + a, 59]) s nm td (wpS (wvS s) a (nn (s 3))) nm td := by
  intro c n p hn hst hS
  obtain ⟨t1, t2, t3, hr⟩ := p_kw (L := 4) (i := 5) rfl (by decide) hst hS (by decide) rfl hn
  have hl : (kwL 5 ++ [32, 112, 97 + a, 59]).length = kln 5 + 4 := by rw [List.length_append, kwL_len]; rfl
  rw [hl] at hn ⊢
  have e1 : wvS s 1 = s 1 := ups_n (by decide)
  have e44 : wvS s (44 + a) = s (44 + a) := ups_n (by omega)
  have hE := (name_tok (c := c) (n := n) (r := q + kln 5) (b := 112) (i := a) (hr 0 (by decide)) (hr 1 (by decide)) (by decide) (hr 2 (by decide)) (by omega) (by rw [show c (q + kln 5 + 3) = 59 from hr 3 (by decide)]; exact no59) (by omega)).2.1
  have sk := semi_tok (c := c) (n := n) (r := q + kln 5 + 3) (hr 3 (by decide)) (by omega)
  have e : aRst c n s nm td 5 (q + kln 5) = .inr (wpS (wvS s) a (nn (s 3)), nm, td, q + kln 5 + 3) := by
    show aPls c n nm td (nn (s 3)) (5 + 1) (wvS s) (q + kln 5) = _
    unfold aPls
    rw [e1, (aFnd_ok (c := c) (n := n) (r := q + kln 5) (b := 112) (by decide) (by omega) hN.2.1 ha (hr 0 (by decide)) (hr 1 (by decide)) (hr 2 (by decide)) (by rw [show c (q + kln 5 + 3) = 59 from hr 3 (by decide)]; exact no59) (by omega)).1]
    simp only
    rw [e44, if_pos hw, hE, sk.1, if_neg (by decide)]
  refine ⟨t1, q + kln 5 + 4, by omega, rfl, ?_⟩
  rw [aStm_ok t3 (by unfold eFst; rw [if_neg (by decide), if_neg (by decide), if_neg (by decide), if_neg (by decide), if_neg (by decide), if_pos rfl, if_pos h3]) t2, e]
  exact aSgn_ok sk
theorem aRst_set (hi6 : 6 ≤ i) : aRst c n s nm td i r = aSet c n s nm td (i - 1) r := by
  unfold aRst
  rw [if_neg (by omega), if_neg (by omega), if_neg (by omega), if_neg (by omega), if_neg (by omega), if_neg (by omega)]
theorem p_set1 (hi6 : 6 ≤ i) (hi : i < 12) (he : eFst s td i = 0) (hx : x < 10) (h1 : sLo (i - 1) ≤ x) (h2 : x ≤ sHi (i - 1)) : Stm q (kwL i ++ [32, 48 + x, 59]) s nm td (ups s (i - 1) (nI x)) nm (updB td (i - 1)) := by
  intro c n p hn hst hS
  obtain ⟨t1, t2, t3, hr⟩ := p_kw (L := 3) rfl hi hst hS (by decide) rfl hn
  have hl : (kwL i ++ [32, 48 + x, 59]).length = kln i + 3 := by rw [List.length_append, kwL_len]; rfl
  rw [hl] at hn ⊢
  have e : aRst c n s nm td i (q + kln i) = .inr (ups s (i - 1) (nI x), nm, updB td (i - 1), q + kln i + 2) := by
    rw [aRst_set hi6]
    unfold aSet
    rw [aNum1_ok (r := q + kln i) (d := x) (hr 0 (by decide)) (hr 1 (by decide)) hx (by rw [show c (q + kln i + 2) = 59 from hr 2 (by decide)]; exact nd59) (by omega) h1 h2]
  refine ⟨t1, q + kln i + 3, by omega, rfl, ?_⟩
  rw [aStm_ok t3 he t2, e]
  exact aSgn_ok (semi_tok (hr 2 (by decide)) (by omega))
theorem p_set2 (hi6 : 6 ≤ i) (hi : i < 12) (he : eFst s td i = 0) (hx : x < 100) (h1 : sLo (i - 1) ≤ x) (h2 : x ≤ sHi (i - 1)) : Stm q (kwL i ++ [32, 48 + x / 10, 48 + x % 10, 59]) s nm td (ups s (i - 1) (nI x)) nm (updB td (i - 1)) := by
  intro c n p hn hst hS
  obtain ⟨t1, t2, t3, hr⟩ := p_kw (L := 4) rfl hi hst hS (by decide) rfl hn
  have hl : (kwL i ++ [32, 48 + x / 10, 48 + x % 10, 59]).length = kln i + 4 := by rw [List.length_append, kwL_len]; rfl
  rw [hl] at hn ⊢
  have ex : x / 10 * 10 + x % 10 = x := by omega
  have e : aRst c n s nm td i (q + kln i) = .inr (ups s (i - 1) (nI x), nm, updB td (i - 1), q + kln i + 3) := by
    rw [aRst_set hi6]
    unfold aSet
    rw [aNum2_ok (r := q + kln i) (d := x / 10) (e := x % 10) (hr 0 (by decide)) (hr 1 (by decide)) (by omega) (hr 2 (by decide)) (by omega) (by rw [show c (q + kln i + 3) = 59 from hr 3 (by decide)]; exact nd59) (by omega) (by rw [ex]; exact h1) (by rw [ex]; exact h2), ex]
  refine ⟨t1, q + kln i + 4, by omega, rfl, ?_⟩
  rw [aStm_ok t3 he t2, e]
  exact aSgn_ok (semi_tok (hr 3 (by decide)) (by omega))
theorem p_set (hi6 : 6 ≤ i) (hi : i < 12) (he : eFst s td i = 0) (hx : x < 100) (h1 : sLo (i - 1) ≤ x) (h2 : x ≤ sHi (i - 1)) : Stm q (kwL i ++ ([32] ++ (dec x ++ [59]))) s nm td (ups s (i - 1) (nI x)) nm (updB td (i - 1)) := by
  by_cases q10 : x < 10
  · rw [show dec x = [48 + x] from if_pos q10]
    exact p_set1 hi6 hi he q10 h1 h2
  · rw [show dec x = [48 + x / 10, 48 + x % 10] from if_neg q10]
    exact p_set2 hi6 hi he hx h1 h2
end
