/-! ===== whether a new member may be where it is read ===== -/
section
variable {q : Nat → PH → Prop} {kk : Int32 → PH → Prop} {kl : Int64 → PH → Prop} {kv : PH → Prop} {h h' : PH} {s t : RW} {C E L : Nat} {a b n p v w : Nat} {f g : FI} {nm : Nat → Int64}
def jok (s : RW) (p v m : Nat) : Bool := !decide (nn (s 6) < apt v (vN s m)) && (!decide (mf s m 0 = nI p) || tlk s v (vN s m))
def joN (s : RW) (p v : Nat) : Bool := rds s v (s 5) && allN (nn (s 2)) (jok s p v)
theorem l_canJoin (R : Rk C E s) (Y : LyR 30 s h.1) (S : StR 74 s h.1) (hp : p < 5) (hv : v < nn (s 0)) (r : Bool) {x : Int32} (hx : ∀ i, i < 32 → bt x i = tlk s v i) (K : kk (b2i (r && allN (nn (s 2)) (jok s p v))) h) : ∀ k i, i + k = nn (s 2) → At m_X8_canJoin (rI q kk) 26 0 [some (.ref 74), some (.int (nI p)), some (.int (nI v)), some (.int x), some (.int (b2i (r && allN i (jok s p v)))), some (.int (nI i))] [] h := by
  have h2 := R.m.2
  have h8 := R.v.2
  have en : gi h 41 1 = nI (nn (s 2)) := Y.nm.trans R.m.1
  intro k
  induction k with
  | zero =>
    intro i hi
    refine u_X8_canJoin_26 ?_
    rw [en]
    refine pk_le (nn (s 2)) i (fun _ => ⟨isB_b2i _, ?_⟩) (fun z => absurd z (by omega))
    have : i = nn (s 2) := by omega
    rw [this]; exact K
  | succ k ih =>
    intro i hi
    refine u_X8_canJoin_26 ?_
    rw [en]
    refine pk_le (nn (s 2)) i (fun z => absurd z (by omega)) (fun _ => ⟨vp_in_nI (by omega) (by omega), ?_⟩)
    have hi2 : i < nn (s 2) := by omega
    have V := R.ve i hi2
    have e75 : gi h 75 (nI i).toNatClampNeg = nI (vN s i) := by
      rw [cl (by omega)]
      exact (S.ve i hi2).trans V.1.1
    have e43 : gi h 43 (nI i).toNatClampNeg = mf s i 0 := by
      rw [cl (by omega)]
      exact Y.po i hi2
    have h10 : apt v (vN s i) < 200 := by have := V.2; unfold apt; split <;> omega
    have h7 := R.sk.2
    have ih2 := ih (i + 1) (by omega)
    rw [allN_s] at ih2
    have no : jok s p v i = false → At m_X8_canJoin (rI q kk) 26 0 [some (.ref 74), some (.int (nI p)), some (.int (nI v)), some (.int x), some (.int (b2i (r && allN i (jok s p v)) &&& (nI 0))), some (.int (nI i + nI 1))] [] h := fun e => by
      rw [e, Bool.and_false, Bool.and_false] at ih2
      rw [nI_add, show b2i (r && allN i (jok s p v)) &&& nI 0 = b2i false by cases (r && allN i (jok s p v)) <;> decide]
      exact ih2
    have yes : jok s p v i = true → At m_X8_canJoin (rI q kk) 26 0 [some (.ref 74), some (.int (nI p)), some (.int (nI v)), some (.int x), some (.int (b2i (r && allN i (jok s p v)) &&& (nI 1))), some (.int (nI i + nI 1))] [] h := fun e => by
      rw [e, Bool.and_true] at ih2
      rw [nI_add, show b2i (r && allN i (jok s p v)) &&& nI 1 = b2i (r && allN i (jok s p v)) by cases (r && allN i (jok s p v)) <;> decide]
      exact ih2
    rw [e75, abs_apt (by have := V.2; omega) (by omega), show gi h 30 13 = nI (nn (s 6)) from Y.sk.trans R.sk.1]
    refine pk_lt (nn (s 6)) (apt v (vN s i)) (fun e2 => ?_) (fun e2 => ?_)
    · refine no ?_
      unfold jok
      rw [decide_eq_true e2]; rfl
    · refine ⟨vp_in_nI (by omega) (by omega), ?_⟩
      rw [e43]
      constructor
      · intro e3
        refine yes ?_
        unfold jok
        rw [decide_eq_false (show ¬ nn (s 6) < apt v (vN s i) by omega), decide_eq_false e3]; rfl
      · intro e3
        have ek : jok s p v i = tlk s v (vN s i) := by
          unfold jok
          rw [decide_eq_false (show ¬ nn (s 6) < apt v (vN s i) by omega), decide_eq_true e3]; rfl
        refine ⟨vp_in_nI (by omega) (by omega), ?_⟩
        refine c_isIn (by have := V.2; omega) ?_
        rw [hx _ (by have := V.2; omega)]
        exact bq (fun e4 => no (ek.trans e4)) (fun e4 => yes (ek.trans e4))
theorem c_canJoin (P : PR s) (D : DR nm s h) (hp : p < 5) (hv : v < nn (s 0)) (K : kk (b2i (joN s p v)) h) : MetPM m_X8_canJoin [.ref 74, .int (nI p), .int (nI v)] h (rI q kk) := by
  refine t_X8_canJoin (c_talkersOf (Or.inr rfl) P.rk D.1 hv (fun x hx => ?_))
  rw [show gi h 74 2 = s 5 from D.2.1.fo]
  refine c_isReader (Or.inr rfl) P.rk D.1 hv ?_
  have := l_canJoin (q := q) (kk := kk) P.rk D.1 D.2.1 hp hv (rds s v (s 5)) hx K (nn (s 2)) 0 (by omega)
  rw [show allN 0 (jok s p v) = true from rfl, Bool.and_true] at this
  exact this
end

