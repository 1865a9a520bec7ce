/-! ===== the model's readers of statements, 1 ===== -/
section
variable {q : Nat → PH → Prop} {kk kj : Int32 → PH → Prop} {kl : Int64 → PH → Prop} {kv kw k1 : PH → Prop} {h h' : PH} {s t : RW} {C E L : Nat} {a b n m p v w e pl i : Nat} {f g : FI} {nm : Nat → Int64} {c : Nat → Nat} {td : Nat → Bool} {y : Int64}
def aBdy (c : Nat → Nat) (n : Nat) (s : RW) (nm : Nat → Int64) (td : Nat → Bool) (i p : Nat) : Rs := if eFst s td i = 0 then aRst c n s nm td i (tE c n p) else .inl (eFst s td i, tS c n p)
theorem eF0 : eFst s td 0 = if nn (s 0) < 8 then 0 else 6 := rfl
theorem eF2 : eFst s td 2 = if nn (s 1) < 5 then 0 else 6 := rfl
theorem eF3 : eFst s td 3 = if nn (s 2) < 12 then 0 else 6 := rfl
theorem eF4 : eFst s td 4 = if nn (s 4) < 20 then 0 else 6 := rfl
theorem eF5 : eFst s td 5 = if nn (s 3) < 5 then 0 else 6 := rfl
theorem si_id (h : PH) (a k : Nat) : si h a k (gi h a k) = h := Prod.ext (funext fun b => funext fun j => by
  show gi (si h a k (gi h a k)) b j = gi h b j
  rw [gi_si]
  by_cases d : b = a
  · rw [if_pos d]
    by_cases d2 : j = k
    · rw [if_pos d2, d, d2]
    · rw [if_neg d2]
  · rw [if_neg d]) rfl
theorem Km.b0 (K : Km c n h kw (aBdy c n s nm td i p)) (e : eFst s td i = 0) : Km c n h kw (aRst c n s nm td i (tE c n p)) := by
  have : aBdy c n s nm td i p = aRst c n s nm td i (tE c n p) := if_pos e
  rw [← this]; exact K
theorem Km.b1 {x : Nat} (K : Km c n h kw (aBdy c n s nm td i p)) (e : eFst s td i = x) (hx : x ≠ 0) : Km c n h kw (.inl (x, tS c n p)) := by
  have : aBdy c n s nm td i p = .inl (eFst s td i, tS c n p) := if_neg (by omega)
  rw [← e, ← this]; exact K
theorem ND.same (N : ND nm s) (e0 : nn (t 0) = nn (s 0)) (e1 : nn (t 1) = nn (s 1)) (e2 : nn (t 2) = nn (s 2)) : ND nm t := by
  unfold ND
  rw [e0, e1, e2]; exact N
theorem ND.up0 (N : ND nm s) (P : PR s) (h8 : nn (s 0) < 8) (ne : ∀ i, i < nn (s 0) → nm (0 + i) ≠ y) (e0 : nn (t 0) = nn (s 0) + 1) (e1 : nn (t 1) = nn (s 1)) (e2 : nn (t 2) = nn (s 2)) : ND (upn nm (nn (s 0)) y) t := by
  unfold ND
  rw [e0, e1, e2]
  refine ⟨fun i j hi hj => ?_, fun i j hi hj => ?_, fun i j hi hj => ?_⟩
  · rw [upn_n (by omega : i ≠ nn (s 0))]
    by_cases d : j = nn (s 0)
    · rw [d, upn_s]
      have := ne i (by omega)
      rw [Nat.zero_add] at this
      exact this
    · rw [upn_n d]; exact N.1 i j hi (by omega)
  · rw [upn_n (by omega), upn_n (by omega)]; exact N.2.1 i j hi hj
  · rw [upn_n (by omega), upn_n (by omega)]; exact N.2.2 i j hi hj
theorem ND.up1 (N : ND nm s) (P : PR s) (h5 : nn (s 1) < 5) (ne : ∀ i, i < nn (s 1) → nm (8 + i) ≠ y) (e0 : nn (t 0) = nn (s 0)) (e1 : nn (t 1) = nn (s 1) + 1) (e2 : nn (t 2) = nn (s 2)) : ND (upn nm (8 + nn (s 1)) y) t := by
  have h8 := P.v.1.2
  unfold ND
  rw [e0, e1, e2]
  refine ⟨fun i j hi hj => ?_, fun i j hi hj => ?_, fun i j hi hj => ?_⟩
  · rw [upn_n (by omega), upn_n (by omega)]; exact N.1 i j hi hj
  · rw [upn_n (by omega : 8 + i ≠ 8 + nn (s 1))]
    by_cases d : j = nn (s 1)
    · rw [d, upn_s]; exact ne i (by omega)
    · rw [upn_n (by omega)]; exact N.2.1 i j hi (by omega)
  · rw [upn_n (by omega), upn_n (by omega)]; exact N.2.2 i j hi hj
theorem ND.up2 (N : ND nm s) (P : PR s) (ne : ∀ i, i < nn (s 2) → nm (13 + i) ≠ y) (e0 : nn (t 0) = nn (s 0)) (e1 : nn (t 1) = nn (s 1)) (e2 : nn (t 2) = nn (s 2) + 1) : ND (upn nm (13 + nn (s 2)) y) t := by
  have h8 := P.v.1.2
  have h5 := P.x.1.2
  unfold ND
  rw [e0, e1, e2]
  refine ⟨fun i j hi hj => ?_, fun i j hi hj => ?_, fun i j hi hj => ?_⟩
  · rw [upn_n (by omega), upn_n (by omega)]; exact N.1 i j hi hj
  · rw [upn_n (by omega), upn_n (by omega)]; exact N.2.1 i j hi hj
  · rw [upn_n (by omega : 13 + i ≠ 13 + nn (s 2))]
    by_cases d : j = nn (s 2)
    · rw [d, upn_s]; exact ne i (by omega)
    · rw [upn_n (by omega)]; exact N.2.2 i j hi (by omega)
theorem m_ver (S : MS c n s nm td p h) (hk : tK c n p = 1) (K : Km c n h kw (aBdy c n s nm td 0 p)) : MetPM m_X12_readsVersion [.ref 130] h (rV q kw) := by
  obtain ⟨P, N, S0⟩ := S
  have l8 := P.v.1.2
  refine t_X12_readsVersion ⟨rv (by omega), ?_⟩
  rw [rd S0.r 0 (by omega), P.v.1.1]
  refine m_new (mx := 8) (Or.inl ⟨rfl, rfl⟩) (by omega) l8 P.cnt N S0 (fun e pl h1 M z => e_number M (fun x => e_number M (fun y => e_good M ⟨fun y => absurd rfl y, fun _ => z⟩))) (fun d => K.b1 (x := 6) (eF0.trans (if_neg (by omega))) (by decide)) hk (F := fun p1 => aNum c n 1 9 p1 fun lo p2 => aNum c n lo 9 p2 fun hi p3 => .inr (verS s (nI lo) (nI hi), upn nm (nn (s 0)) (lN (tM c n (tE c n p))), td, p3)) (fun d => K.b0 (eF0.trans (if_pos (by omega)))) (fun h1 d ne S1 K1 => ?_)
  rw [Nat.zero_add] at S1
  refine m_num (by omega) (by omega) P.cnt S1 K1 (fun e pl x h2 M z => e_number M (fun y => e_good M ⟨fun y => absurd rfl y, fun _ => z⟩)) (fun lo p2 h2 l1 l2 S2 K2 => ?_)
  refine m_num (by omega) (by omega) P.cnt S2 K2 (fun e pl x h2 M z => e_good M ⟨fun y => absurd rfl y, fun _ => z⟩) (fun hi p3 h3 l3 l4 S3 K3 => s_good S3.e8 ⟨fun _ => ?_, fun y => absurd y (by decide)⟩)
  rw [rd S3.r 0 (by omega), show s 0 = nI (nn (s 0)) from P.v.1.1, nI_add, cl (by omega)]
  refine ⟨rv (by omega), vp_in_nI (by omega) (by omega), rv (by omega), ?_⟩
  intro y8
  have e8 : y8 = nI (nn (s 0)) := by
    show gi (si h3 132 (20 + nn (s 0)) (nI lo)) 132 (nI 0).toNatClampNeg = _
    rw [cl (by omega), gi_ok (by omega), show gi h3 132 0 = s 0 from congrFun S3.r 0]
    exact P.v.1.1
  clear_value y8
  subst e8
  rw [nI_add, cl (by omega)]
  refine ⟨vp_in_nI (by omega) (by omega), ?_⟩
  intro h9
  refine ⟨rv (by omega), rv (by omega), ?_⟩
  have F : Fr WR h3 h9 := (Fr.wr h3 _ (WR_t (by omega))).and _ (WR_t (by omega))
  have r9 : h9.1 132 = ups (ups s (20 + nn (s 0)) (nI lo)) (28 + nn (s 0)) (nI hi) := by
    show (si (si h3 132 (20 + nn (s 0)) (nI lo)) 132 (28 + nn (s 0)) (nI hi)).1 132 = _
    rw [si_a, si_a, S3.r]
  clear_value h9
  have e0 : gi h9 132 (nI 0).toNatClampNeg = s 0 := by
    rw [rd r9 0 (by omega), ups_n (by omega), ups_n (by omega)]
  rw [e0, cl (by omega)]
  have F2 := F.and (s 0 + nI 1) (WR_t (show 0 < 253 by omega))
  have S4 : MX c n (verS s (nI lo) (nI hi)) _ td p3 _ := S3.row F2 (by rw [si_a, r9]; rfl)
  have v0 := ver_0 (lo := nI lo) (hi := nI hi) P
  exact (K3.fz (FPr F2)).ok ⟨P.ver (by omega), N.up0 P (by omega) ne v0.2 (by rw [ver_o (by omega)]) (by rw [ver_o (by omega)]), S4⟩
theorem m_pla (S : MS c n s nm td p h) (hk : tK c n p = 1) (K : Km c n h kw (aBdy c n s nm td 2 p)) : MetPM m_X12_readsPlace [.ref 130] h (rV q kw) := by
  obtain ⟨P, N, S0⟩ := S
  have l5 := P.x.1.2
  refine t_X12_readsPlace ⟨rv (by omega), ?_⟩
  rw [rd S0.r 1 (by omega), P.x.1.1]
  refine m_new (mx := 5) (Or.inr (Or.inl ⟨rfl, rfl⟩)) (by omega) l5 P.cnt N S0 (fun e pl h1 M z => ⟨rv (by omega), e_good M (t_X12_truth ⟨fun _ => ⟨rv (by omega), ?_⟩, fun y => absurd rfl y⟩)⟩) (fun d => K.b1 (x := 6) (eF2.trans (if_neg (by omega))) (by decide)) hk (F := fun p1 => .inr (plaS s, upn nm (8 + nn (s 1)) (lN (tM c n (tE c n p))), td, p1)) (fun d => K.b0 (eF2.trans (if_pos (by omega)))) (fun h1 d ne S1 K1 => ⟨rv (by omega), s_good S1.e8 (t_X12_truth ⟨fun y => absurd y (by decide), fun _ => ⟨rv (by omega), ?_⟩⟩)⟩)
  · have : si h1 132 (nI 1).toNatClampNeg (gi h1 132 (nI 1).toNatClampNeg + nI 0) = h1 := by
      rw [show gi h1 132 (nI 1).toNatClampNeg + nI 0 = gi h1 132 (nI 1).toNatClampNeg from Int32.add_zero _]
      exact si_id _ _ _
    show kw (si h1 132 (nI 1).toNatClampNeg (gi h1 132 (nI 1).toNatClampNeg + nI 0))
    rw [this]; exact z
  · rw [rd S1.r 1 (by omega), cl (by omega)]
    have F2 : Fr WR h1 (si h1 132 1 (s 1 + nI 1)) := Fr.wr h1 _ (WR_t (by omega))
    have S4 : MX c n (plaS s) _ td _ _ := S1.row F2 (by rw [si_a, S1.r]; rfl)
    have p1 : nn (plaS s 1) = nn (s 1) + 1 := by
      unfold plaS
      rw [ups_s]; exact (P.x.1.sc (by omega)).2
    exact (K1.fz (FPr F2)).ok ⟨P.pla (by omega), N.up1 P (by omega) ne (by unfold plaS; rw [ups_n (by omega)]) p1 (by unfold plaS; rw [ups_n (by omega)]), S4⟩
theorem m_tal (S : MS c n s nm td p h) (K : Km c n h kw (aBdy c n s nm td 1 p)) : MetPM m_X12_readsTalks [.ref 130] h (rV q kw) := by
  obtain ⟨P, N, S0⟩ := S
  have l8 := P.v.1.2
  have B : MN s 0 (nn (s 0)) := Or.inl ⟨rfl, rfl⟩
  have K0 : Km c n h kw (aTal c n s nm td (tE c n p)) := K.b0 rfl
  have e59 : ∀ {e pl x y h' q}, ME e pl h' → kw h' → At m_X12_readsTalks (rV q kw) 59 0 [some (.ref 130), some (.int x), some (.int y)] [] h' := fun {e pl x y h' q} M z => u_X12_readsTalks_59 (e_good M ⟨fun y => absurd rfl y, fun _ => z⟩)
  have e38 : ∀ {e pl x y h' q}, ME e pl h' → kw h' → At m_X12_readsTalks (rV q kw) 38 0 [some (.ref 130), some (.int x), some (.int y)] [] h' := fun {e pl x y h' q} M z => u_X12_readsTalks_38 (e_good M ⟨fun _ => e59 M z, fun y => absurd rfl y⟩)
  refine t_X12_readsTalks (S0.nx (fun h1 x1 S1 => t_X12_toldVersion ⟨rv (by omega), ?_⟩))
  rw [rd S1.r 0 (by omega), P.v.1.1]
  refine m_told B P.cnt N S1 (K0.fz x1) (fun e pl x h2 M z => ⟨rv (by omega), ?_⟩) (fun a h2 ha S2 K2 => ⟨rv (by omega), ?_⟩)
  · rw [show gi h2 132 (nI 0).toNatClampNeg = nI (nn (h2.1 132 0)) from M.2.2.2.2.1.1]
    exact e_seen M (by have := M.2.2.2.2.1.2; omega) (fun y => e_good M ⟨fun _ => e38 M z, fun y => absurd rfl y⟩)
  · rw [rd S2.r 0 (by omega), P.v.1.1]
    refine m_seen B P.cnt N S2 K2 (fun e pl x h3 M z => e_good M ⟨fun _ => e38 M z, fun y => absurd rfl y⟩) (fun b hb tk K3 => s_good S2.e8 ⟨fun y => absurd y (by decide), fun _ => ?_⟩)
    rw [nI_eq (by omega) (by omega)]
    refine ⟨fun d => ?_, fun d => ?_⟩
    · rw [if_neg (fun y => d y.symm)] at K3
      refine u_X12_readsTalks_38 (s_good S2.e8 ⟨fun y => absurd y (by decide), fun _ => s_talk S2.r (by omega) (by omega) (bq (fun y => ?_) (fun y => ?_))⟩)
      · rw [if_neg (by rw [y]; decide)] at K3
        refine u_X12_readsTalks_59 (s_good S2.e8 ⟨fun _ => S2.nx (fun h3 x3 S3 => ?_), fun y => absurd y (by decide)⟩)
        rw [nI_add, cl (by omega), nI_add, cl (by omega)]
        refine ⟨vp_in_nI (by omega) (by omega), vp_in_nI (by omega) (by omega), ?_⟩
        intro h4
        refine ⟨vp_in_nI (by omega) (by omega), vp_in_nI (by omega) (by omega), ?_⟩
        have F : Fr WR h3 h4 := Fr.wr h3 _ (WR_t (by omega))
        have r4 : h4.1 132 = ups s (36 + a) (s (36 + a) ||| ((nI 1) <<< (nI b &&& 31))) := by
          show (si h3 132 (36 + a) _).1 132 = _
          rw [si_a, S3.r, show gi h3 132 (36 + a) = s (36 + a) from congrFun S3.r _]
        clear_value h4
        rw [show gi h4 132 (36 + b) = s (36 + b) from (congrFun r4 _).trans (ups_n (by omega))]
        have F2 := F.and (s (36 + b) ||| ((nI 1) <<< (nI a &&& 31))) (WR_t (show 36 + b < 253 by omega))
        have S4 : MX c n (talS s a b) nm td _ _ := S3.row F2 (by rw [si_a, r4]; rfl)
        exact ((K3.fz x3).fz (FPr F2)).ok ⟨P.tal d ha hb, N.same (by rw [tal_o (by omega)]) (by rw [tal_o (by omega)]) (by rw [tal_o (by omega)]), S4⟩
      · rw [if_pos y] at K3
        exact S2.wr P.cnt (by omega) (by omega) (fun y => by omega) K3 (fun h1 M z => e59 M z)
    · rw [if_pos d.symm] at K3
      exact S2.wr P.cnt (by omega) (by omega) (fun y => by omega) K3 (fun h1 M z => e38 M z)
end
