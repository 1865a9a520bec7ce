/-! ===== the model's small readers, for a script ===== -/
section
variable {q : Nat → PH → Prop} {kk kj : Int32 → PH → Prop} {kl : Int64 → PH → Prop} {kv kw k1 : PH → Prop} {h h' : PH} {s t : RW} {C E L : Nat} {a b n m p v w e pl : Nat} {f g : FI} {nm : Nat → Int64} {c : Nat → Nat} {td : Nat → Bool} {J : RW → (Nat → Int64) → (Nat → Bool) → Nat → PH → Prop}
def WSc (b k : Nat) : Prop := (b = 130 ∧ ((3 ≤ k ∧ k ≤ 9) ∨ (33 ≤ k ∧ k ≤ 35))) ∨ (141 ≤ b ∧ b ≤ 143)
def VSc (b : Nat) : Prop := b = 130
theorem FSt (x : Fz WT VT h h') : Fz WSc VSc h h' := x.mono (fun b k y => by unfold WT at y; unfold WSc; omega) (fun b y => y)
theorem FS9 (x : Fz W9 VT h h') : Fz WSc VSc h h' := x.mono (fun b k y => by unfold W9 at y; unfold WSc; omega) (fun b y => y)
theorem FSi {k : Nat} {x : Int32} (h1 : (3 ≤ k ∧ k ≤ 9) ∨ (33 ≤ k ∧ k ≤ 35)) : Fz WSc VSc h (si h 130 k x) := Fz.si h x (Or.inl ⟨rfl, h1⟩)
theorem FSa {k : Nat} {x : Int32} (h1 : 141 ≤ b ∧ b ≤ 143) : Fz WSc VSc h (si h b k x) := Fz.si h x (Or.inr h1)
/-- what a reader of the model gives back: the first part of its answer is what J makes of it -/
def Ks (J : RW → (Nat → Int64) → (Nat → Bool) → Nat → PH → Prop) (h : PH) (kv : PH → Prop) (r : Rs) : Prop :=
  (∀ e pl, r = .inl (e, pl) → ∀ h', Fz WSc VSc h h' → ME e pl h' → kv h') ∧
  (∀ s nm td p, r = .inr (s, nm, td, p) → ∀ h', Fz WSc VSc h h' → J s nm td p h' → kv h')
theorem Ks.fz {r : Rs} (x : Fz WSc VSc h h') (K : Ks J h kv r) : Ks J h' kv r := ⟨fun e pl er h2 y => K.1 e pl er h2 (x.trans y), fun s nm td p er h2 y => K.2 s nm td p er h2 (x.trans y)⟩
theorem Ks.er (K : Ks J h kv (.inl (e, pl))) (x : Fz WSc VSc h h') (y : ME e pl h') : kv h' := K.1 e pl rfl h' x y
theorem Ks.ok (K : Ks J h kv (.inr (s, nm, td, p))) (S : J s nm td p h) : kv h := K.2 s nm td p rfl h (Fz.refl _ _ _) S
theorem MX.nz (S : MX c n s nm td p h) (K : ∀ h', Fz WT VT h h' → MX c n s nm td (tE c n p) h' → kv h') : MetPM m_X12_goOn [.ref 130] h (rV q kv) := s_next S.pn S.B S.T (fun h1 x1 T1 => K h1 x1 (S.ad x1 T1 (tE_le S.pn).2))
theorem MX.wz {e : Nat} (P : CNT s) (S : MX c n s nm td p h) (h1 : 1 ≤ e) (h7 : e < 7) (hb : tK c n p = 6 → e = 1) (K : Ks J h kv (.inl (e, tS c n p))) (E0 : ∀ h', ME e (tS c n p) h' → kv h' → kw h') : MetPM m_X12_wrong [.ref 130, .int (nI e)] h (rV q kw) :=
  s_wrong S.T S.e8 (by rw [S.r]; exact P) h1 h7 hb (fun h2 x2 M => E0 h2 M (K.er (FS9 x2) M))
theorem z_num {lo hi : Nat} {F : Nat → Nat → Rs} (hlo : lo < 2000) (hhi : hi < 2000) (P : CNT s) (S : MX c n s nm td p h) (K : Ks J h kv (aNum c n lo hi p F)) (E0 : ∀ e pl x h', ME e pl h' → kv h' → kk x h')
    (E1 : ∀ x p' h', lo ≤ x → x ≤ hi → Fz WT VT h h' → MX c n s nm td p' h' → Ks J h' kv (F x p') → kk (nI x) h') : MetPM m_X12_number [.ref 130, .int (nI lo), .int (nI hi)] h (rI q kk) := by
  have sk := sK_1 (tK_lt (c := c) (n := n) (p := p))
  unfold aNum at K
  refine t_X12_number (s_good S.e8 ⟨fun y => absurd y (by decide), fun _ => ?_⟩)
  rw [show gi h 130 6 = _ from S.T.1, sk.2.1]
  refine ⟨fun d => ?_, fun d => ?_⟩
  · rw [if_pos d] at K
    have hv := tV_lt S.pn d
    refine u_X12_number_20 (s_good S.e8 ⟨fun y => absurd y (by decide), fun _ => ?_⟩)
    rw [S.T.2.2.2.2.1 d]
    refine s_isIn ?_
    rw [inN (by omega) (by omega), inN (by omega) (by omega)]
    by_cases d2 : lo ≤ tV c n p ∧ tV c n p ≤ hi
    · rw [if_pos d2] at K
      rw [decide_eq_true d2.1, decide_eq_true d2.2]
      exact ⟨fun _ => u_X12_number_49 (s_good S.e8 ⟨fun y => absurd y (by decide), fun _ => S.nz (fun h1 x1 S1 => u_X12_number_60 (E1 _ _ _ d2.1 d2.2 x1 S1 (K.fz (FSt x1))))⟩), fun y => absurd y (by decide)⟩
    · rw [if_neg d2] at K
      have z : (decide (lo ≤ tV c n p) && decide (tV c n p ≤ hi)) = false := by
        cases e1 : decide (lo ≤ tV c n p)
        · rfl
        · cases e2 : decide (tV c n p ≤ hi)
          · rfl
          · exact absurd ⟨of_decide_eq_true e1, of_decide_eq_true e2⟩ d2
      rw [z]
      exact ⟨fun y => absurd rfl y, fun _ => S.wz P (by omega) (by omega) (fun y => by omega) K (fun h1 M z => e_num49 M (E0 _ _ _ _ M z))⟩
  · rw [if_neg d] at K
    exact S.wz P (by omega) (by omega) (fun _ => rfl) K (fun h1 M z => e_num20 M (fun x => E0 _ _ x _ M z))
theorem z_seen {o : Nat} {F : Nat → Rs} (B : MN s o m) (P : CNT s) (N : ND nm s) (S : MX c n s nm td p h) (K : Ks J h kv (aFnd c n nm o m p F)) (E0 : ∀ e pl x h', ME e pl h' → kv h' → kk x h')
    (E1 : ∀ a, a < m → tK c n p = 1 → Ks J h kv (F a) → kk (nI a) h) : MetPM m_X12_seenName [.ref 130, .int (nI o), .int (nI m)] h (rI q kk) := by
  have sk := sK_1 (tK_lt (c := c) (n := n) (p := p))
  obtain ⟨b1, b2⟩ := B.ok P N
  unfold aFnd at K
  refine t_X12_seenName (s_good S.e8 ⟨fun y => absurd y (by decide), fun _ => ?_⟩)
  rw [show gi h 130 6 = _ from S.T.1, sk.1]
  refine ⟨fun d => ?_, fun d => ?_⟩
  · rw [if_pos d] at K
    refine u_X12_seenName_20 (s_named b1 rfl (fun i j x y => by rw [S.ns, S.ns]; exact b2 i j x y) ?_)
    rw [S.fs d]
    have hf : fndT c n nm o m p ≤ m := fnd_le
    refine s_good S.e8 ⟨fun y => absurd y (by decide), fun _ => ?_⟩
    rw [pre1_n1 (by omega)]
    refine ⟨fun y => ?_, fun y => ?_⟩
    · rw [if_neg y] at K
      obtain ⟨j, ej⟩ : ∃ j, fndT c n nm o m p = j + 1 := ⟨fndT c n nm o m p - 1, by omega⟩
      rw [ej, Nat.add_sub_cancel] at K
      rw [ej, pre1_s]
      exact u_X12_seenName_44 (E1 j (by omega) d K)
    · rw [if_pos y] at K
      exact S.wz P (by omega) (by omega) (fun y => by omega) K (fun h1 M z => u_X12_seenName_44 (E0 _ _ _ _ M z))
  · rw [if_neg d] at K
    exact S.wz P (by omega) (by omega) (fun _ => rfl) K (fun h1 M z => e_seen20 M b1 (fun x => E0 _ _ x _ M z))
theorem z_told {o : Nat} {F : Nat → Rs} (B : MN s o m) (P : CNT s) (N : ND nm s) (S : MX c n s nm td p h) (K : Ks J h kv (aFnd c n nm o m p F)) (E0 : ∀ e pl x h', ME e pl h' → kv h' → kk x h')
    (E1 : ∀ a h', a < m → Fz WT VT h h' → MX c n s nm td (tE c n p) h' → Ks J h' kv (F a) → kk (nI a) h') : MetPM m_X12_told [.ref 130, .int (nI o), .int (nI m)] h (rI q kk) :=
  t_X12_told (z_seen B P N S K (fun e pl x h1 M z => e_good M ⟨fun _ => E0 _ _ _ _ M z, fun y => absurd rfl y⟩) (fun a ha _ K1 => s_good S.e8 ⟨fun y => absurd y (by decide), fun _ => S.nz (fun h1 x1 S1 => E1 a h1 ha x1 S1 (K1.fz (FSt x1)))⟩))
/-- a sign that must stand here -/
theorem z_sign {x k : Nat} {F : Nat → Rs} (hx : (x = 59 ∧ k = 3) ∨ (x = 40 ∧ k = 4)) (P : CNT s) (S : MX c n s nm td p h) (K : Ks J h kv (if tK c n p = k then F (tE c n p) else .inl (1, tS c n p))) (E0 : ∀ e pl h', ME e pl h' → kv h' → kw h')
    (E1 : ∀ h', Fz WT VT h h' → MX c n s nm td (tE c n p) h' → Ks J h' kv (F (tE c n p)) → kw h') : MetPM m_X12_mustSign [.ref 130, .int (nI x)] h (rV q kw) := by
  refine t_X12_mustSign (s_good S.e8 ⟨fun y => absurd y (by decide), fun _ => s_isSign (x := x) (k := k) (by omega) S.T S.e8 (bp (fun y => ?_) (fun y => ?_))⟩)
  · have d := of_decide_eq_false y
    rw [if_neg d] at K
    exact S.wz P (by omega) (by omega) (fun _ => rfl) K (fun h1 M z => e_good M ⟨fun _ => E0 _ _ _ M z, fun y => absurd rfl y⟩)
  · have d := of_decide_eq_true y
    rw [if_pos d] at K
    exact s_good S.e8 ⟨fun y => absurd y (by decide), fun _ => S.nz (fun h1 x1 S1 => E1 h1 x1 S1 (K.fz (FSt x1)))⟩
end
