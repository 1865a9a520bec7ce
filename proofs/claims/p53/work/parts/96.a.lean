/-! ===== the law feeds the class the World's text ===== -/
section
variable {h h' h0 h1 h2 hS : PH} {w k v j t a d n i m c q : Nat} {Q : Res → PH → Prop} {x y z : Int32} {bs : List Nat} {p : Nat → Nat}
/-- the number that the first i bytes make -/
def pw (p : Nat → Nat) : Nat → Nat
  | 0 => 0
  | i + 1 => pw p i * 256 + p i
theorem pw_lt (hp : ∀ j, p j < 128) : pw p 0 < 2 ^ 23 ∧ pw p 1 < 2 ^ 23 ∧ pw p 2 < 2 ^ 23 ∧ pw p 3 < 2 ^ 23 ∧ pw p 4 < 2 ^ 31 := by
  have h0 := hp 0
  have h1 := hp 1
  have h2 := hp 2
  have h3 := hp 3
  have e1 : pw p 1 = p 0 := by show 0 * 256 + p 0 = p 0; omega
  have e2 : pw p 2 = pw p 1 * 256 + p 1 := rfl
  have e3 : pw p 3 = pw p 2 * 256 + p 2 := rfl
  have e4 : pw p 4 = pw p 3 * 256 + p 3 := rfl
  refine ⟨by show 0 < _; decide, ?_, ?_, ?_, ?_⟩ <;> omega
theorem nI_or (a b : Nat) : nI a ||| nI b = nI (a ||| b) := by
  apply Int32.toBitVec_inj.mp
  show BitVec.ofNat 32 a ||| BitVec.ofNat 32 b = BitVec.ofNat 32 (a ||| b)
  apply BitVec.eq_of_getLsbD_eq
  intro i hi
  rw [BitVec.getLsbD_or, BitVec.getLsbD_ofNat, BitVec.getLsbD_ofNat, BitVec.getLsbD_ofNat, Nat.testBit_or, decide_eq_true hi, Bool.true_and, Bool.true_and, Bool.true_and]
theorem shl_or {b : Nat} (hm : m < 2 ^ 23) (hb : b < 256) : (nI m <<< ((nI 8) &&& 31)) ||| nI b = nI (m * 256 + b) := by
  rw [pk_shlN ((nI 8) &&& 31) 8 (by decide +kernel) (by omega), nI_or]
  congr 1
  have := Nat.two_pow_add_eq_or_of_lt (i := 8) (b := b) (by omega) m
  rw [Nat.mul_comm m (2 ^ 8)]
  rw [← this]
theorem byt_n (hn : n < 2 ^ 31) (hk : k < 4) : byt (nI n) k = n / 2 ^ (24 - 8 * k) % 256 := by
  unfold byt
  rw [pk_shrN hn (nI (24 - 8 * k) &&& 31) (24 - 8 * k) ((by decide +kernel : ∀ k, k < 4 → ((nI (24 - 8 * k) &&& 31).toBitVec.smod 32).toNat = 24 - 8 * k) k hk), pk_tn (Nat.lt_of_le_of_lt (Nat.div_le_self _ _) (by omega))]
theorem byt_pw (hp : ∀ j, p j < 128) (hk : k < 4) : byt (nI (pw p 4)) k = p k := by
  rw [byt_n (pw_lt hp).2.2.2.2 hk]
  have h0 := hp 0
  have h1 := hp 1
  have h2 := hp 2
  have h3 := hp 3
  have e1 : pw p 1 = p 0 := by show 0 * 256 + p 0 = p 0; omega
  have e2 : pw p 2 = pw p 1 * 256 + p 1 := rfl
  have e3 : pw p 3 = pw p 2 * 256 + p 2 := rfl
  have e4 : pw p 4 = pw p 3 * 256 + p 3 := rfl
  match k, hk with
  | 0, _ => show pw p 4 / 16777216 % 256 = p 0; omega
  | 1, _ => show pw p 4 / 65536 % 256 = p 1; omega
  | 2, _ => show pw p 4 / 256 % 256 = p 2; omega
  | 3, _ => show pw p 4 / 1 % 256 = p 3; omega
theorem pw_eq {p' : Nat → Nat} : ∀ n, (∀ j, j < n → p j = p' j) → pw p n = pw p' n := by
  intro n
  induction n with
  | zero => intro _; rfl
  | succ n ih => intro e; show pw p n * 256 + p n = pw p' n * 256 + p' n; rw [ih (fun j hj => e j (by omega)), e n (by omega)]
/-- the text with blanks behind it -/
def bl (bs : List Nat) (j : Nat) : Nat := if j < bs.length then bs.getD j 0 else 32
theorem bl_lt (hT : Txt bs) (j : Nat) : bl bs j < 128 := by
  unfold bl
  split
  · rename_i hj
    rw [List.getD_eq_getElem?_getD, List.getElem?_eq_getElem hj]
    exact hT.1 _ (List.getElem_mem hj)
  · decide
/-- the class has been fed, nothing else has happened to it -/
def FL (hS h : PH) : Prop := FmQ [] hS h ∧ Md hS h ∧ (∀ b k, b < 1000 → ¬ (b = 1 ∧ k = 1) → b ≠ 2 → gi h b k = gi hS b k) ∧ ∀ b, b < 1000 → h.2.1 b = hS.2.1 b ∧ h.2.2.1 b = hS.2.2.1 b
theorem FL.refl : FL h h := ⟨FmQ.refl h, Md.refl h, fun _ _ _ _ _ => rfl, fun _ _ => ⟨rfl, rfl⟩⟩
theorem FL.trans (f : FL h h1) (g : FL h1 h2) : FL h h2 := ⟨f.1.trans g.1 (fun n hn _ => absurd hn List.not_mem_nil), f.2.1.trans g.2.1, fun b k hb h1 h2 => (g.2.2.1 b k hb h1 h2).trans (f.2.2.1 b k hb h1 h2), fun b hb => ⟨(g.2.2.2 b hb).1.trans (f.2.2.2 b hb).1, (g.2.2.2 b hb).2.trans (f.2.2.2 b hb).2⟩⟩
theorem FL.lw (f : FmQ [] h h') (l : Lw h h') : FL h h' := ⟨f, l.md, fun b k hb _ _ => congrFun (l b (by omega)).1 k, fun b hb => ⟨(l b (by omega)).2.1, (l b (by omega)).2.2.1⟩⟩
theorem FL.hi (l : Hi h h') (f : Fr W12 h h') : FL h h' := ⟨FmQ.hi l, l.md, fun b k _ h1 h2 => f.1 b k (by
  cases e : W12 b k
  · rfl
  · rcases W12_t e with z | z
    · exact absurd z h1
    · exact absurd z h2), fun b _ => ⟨by rw [f.2], by rw [f.2]⟩⟩
/-- the words of a chunk after i bytes -/
def wds (bs : List Nat) (k0 i j : Nat) : Nat := pw (fun a => bl bs (k0 + (4 * j + a))) (min 4 (i - 4 * j))
theorem wds_s (hi : i < 20) (hj : j < 5) : wds bs k (i + 1) j = if j = i / 4 then wds bs k i j * 256 + bl bs (k + i) else wds bs k i j := by
  unfold wds
  split
  · rename_i e
    have e1 : min 4 (i + 1 - 4 * j) = min 4 (i - 4 * j) + 1 := by omega
    have e2 : 4 * j + min 4 (i - 4 * j) = i := by omega
    rw [e1]
    show pw _ (min 4 (i - 4 * j)) * 256 + bl bs (k + (4 * j + min 4 (i - 4 * j))) = _
    rw [e2]
  · rename_i e
    have e1 : min 4 (i + 1 - 4 * j) = min 4 (i - 4 * j) := by omega
    rw [e1]
theorem wds_lt (hT : Txt bs) (hi : i < 20) : wds bs k i (i / 4) < 2 ^ 23 := by
  unfold wds
  have e : min 4 (i - 4 * (i / 4)) < 4 := by omega
  have P := pw_lt (p := fun a => bl bs (k + (4 * (i / 4) + a))) (fun j => bl_lt hT _)
  generalize min 4 (i - 4 * (i / 4)) = r at e ⊢
  match r, e with
  | 0, _ => exact P.1
  | 1, _ => exact P.2.1
  | 2, _ => exact P.2.2.1
  | 3, _ => exact P.2.2.2.1
theorem f_20 {k0 : Nat} (X : StrQ h0 t w bs) (h09 : k0 < 1000) (hq2 : 2000 ≤ q) (hqz : qkd h0 q = 0)
    (K : ∀ h, FmQ [] h0 h → Lw h0 h → qkd h q = 16 → qln h q = 5 → (∀ j, j < 5 → gi h q j = nI (wds bs k0 20 j)) → ((c + 1) ≤ 60 ∧ MetPM m_X11_feed [.ref 0, .int (gi h q 0), .int (gi h q 1), .int (gi h q 2), .int (gi h q 3), .int (gi h q 4)] h (rI (fun _ _ => False) (fun x12 h11 => Hi h h11 → Bt mq_L_feeds Q 4 (c + 1) [some (.ref 0), some (.ref t), some (.int x12), some (.int (nI (k0 + 20))), none, none] [] h11)))) :
    ∀ r i h, i + r = 20 → FmQ [] h0 h → Lw h0 h → qkd h q = 16 → qln h q = 5 → (∀ j, j < 5 → gi h q j = nI (wds bs k0 i j)) → Bt mq_L_feeds Q 20 c [some (.ref 0), some (.ref t), none, some (.int (nI k0)), some (.ref q), some (.int (nI i))] [] h := by
  intro r
  induction r with
  | zero =>
    intro i h hi f l kq lq e
    have : i = 20 := by omega
    subst this
    have vq : ∀ i, i < 5 → vp_in (nI i) (qln h q) := fun i hi => by rw [lq]; exact vp_in_nI hi (by decide)
    refine sq_L_feeds_20 ?_
    rw [nI_add k0 20, show (nI 0).toNatClampNeg = 0 from nI_clamp (by decide), show (nI 1).toNatClampNeg = 1 from nI_clamp (by decide), show (nI 2).toNatClampNeg = 2 from nI_clamp (by decide), show (nI 3).toNatClampNeg = 3 from nI_clamp (by decide), show (nI 4).toNatClampNeg = 4 from nI_clamp (by decide)]
    exact ⟨fun _ => ⟨Or.inl kq, vq 0 (by decide), Or.inl kq, vq 1 (by decide), Or.inl kq, vq 2 (by decide), Or.inl kq, vq 3 (by decide), Or.inl kq, vq 4 (by decide), rfl, K h f l kq lq e⟩, fun z => absurd (nI_le (by decide) (by decide)) z⟩
  | succ r ih =>
    intro i h hi f l kq lq e
    have hi20 : i < 20 := by omega
    have X1 := X.fm f List.not_mem_nil List.not_mem_nil
    have v4 : vp_in (nI (i / 4)) (qln h q) := by rw [lq]; exact vp_in_nI (by omega) (by decide)
    refine sq_L_feeds_20 ?_
    rw [pk_div (a := i) (d := 4) (by omega) (by decide) (by decide), nI_add k0 i, show (nI (i / 4)).toNatClampNeg = i / 4 from nI_clamp (by omega), e (i / 4) (by omega), nI_add i 1]
    have nx : ∀ b, b = bl bs (k0 + i) → Bt mq_L_feeds Q 20 c [some (.ref 0), some (.ref t), none, some (.int (nI k0)), some (.ref q), some (.int (nI (i + 1)))] [] (si h q (i / 4) (nI (wds bs k0 i (i / 4)) <<< ((nI 8) &&& 31) ||| nI b)) := fun b eb => by
      rw [shl_or (wds_lt X.tx hi20) (by have := bl_lt X.tx (k0 + i); omega)]
      refine ih (i + 1) _ (by omega) (fm_sn hqz f FmQ.si) (l.trans ((Oth.si h q _ _).lw hq2)) kq lq (fun j hj => ?_)
      rw [wds_s hi20 hj, eb]
      by_cases z : j = i / 4
      · rw [if_pos z, z]; exact qsi_s
      · rw [if_neg z]; exact (qsi_k z).trans (e j hj)
    refine ⟨fun z => absurd z (nI_ge (by omega) (by decide)), fun _ => ⟨by decide, by decide, Or.inl kq, v4, X1.rc, c_slen X1 (fun _ => ⟨fun z => ⟨kq, v4, ?_⟩, fun z => ⟨X1.rc, ?_⟩⟩)⟩⟩
    · have hz : bs.length ≤ k0 + i := (nI_leI (by have := X.tx.2; omega) (by omega)).mp z
      intro h15
      exact nx 32 (by unfold bl; rw [if_neg (by omega)])
    · have hz : k0 + i < bs.length := by
        rcases Nat.lt_or_ge (k0 + i) bs.length with g | g
        · exact g
        · exact absurd (nI_le g (by omega)) z
      refine c_schr X1 hz (fun _ => ⟨kq, v4, ?_⟩)
      intro h18
      exact nx _ (by unfold bl; rw [if_pos hz])
theorem c_feeds (X : StrQ hS t w bs) (hn : bs.length ≤ 580) (e0 : gi hS 1 1 = nI 0)
    (K : ∀ h, FL hS h → gi h 1 1 = nI bs.length → (∀ j, j < bs.length → gi h 2 j = sb_b (bs.getD j 0)) → Q (.inl (some (.int (nI 1)))) h) : MetQ mq_L_feeds [.ref 0, .ref t] hS Q := by
  refine tq_L_feeds ?_
  have fin : ∀ m h, 20 * m < 620 → bs.length ≤ 20 * m → 20 * m < bs.length + 20 → FL hS h → gi h 1 1 = nI (20 * m) → (∀ j, j < 20 * m → gi h 2 j = sb_b (bl bs j)) → Bt mq_L_feeds Q 4 (2 * m) [some (.ref 0), some (.ref t), some (.int (nI (20 * m))), some (.int (nI (20 * m))), none, none] [] h := by
    intro m h hm hl hs F e A
    have X1 := X.fm F.1 List.not_mem_nil List.not_mem_nil
    refine sq_L_feeds_4 ⟨X1.rc, c_slen X1 (fun _ => ⟨fun _ => ⟨X1.rc, c_isEmp X1 (fun eb _ => ⟨fun _ => ⟨Or.inr rfl, ?_⟩, fun z => absurd z (by decide)⟩) (fun eb _ => ⟨fun z => absurd rfl z, fun _ => ⟨X1.rc, c_slen X1 (fun _ => ⟨fun z => absurd ((nI_ltI (by omega) (by omega)).mp z) (by omega), fun _ => ⟨X1.rc, c_slen X1 (fun _ => ⟨rfl, ?_, ?_⟩)⟩⟩)⟩⟩)⟩, fun z => absurd (nI_le (a := bs.length) (b := 20 * m) hl (by omega)) z⟩)⟩
    · subst eb
      have : m = 0 := by simp only [List.length_nil] at hs; omega
      subst this
      exact K h F e (fun j hj => absurd hj (Nat.not_lt_zero j))
    · omega
    · have R := inR_j (j := bs.length) (n := 20 * m + 1) (by omega) (by omega)
      rw [show (((20 * m + 1 : Nat) : Int) - 1) = ((20 * m : Nat) : Int) by omega] at R
      refine c_truncate e (by omega) (fun z => by rw [R] at z; cases z) (fun _ hi => ?_)
      have F2 : FL h (si h 1 1 (nI bs.length)) := FL.hi hi ⟨fun b k y => by
        by_cases c : b = 1
        · subst c
          refine qsi_k (fun c2 => ?_)
          subst c2
          cases y
        · exact qsi_a c, rfl⟩
      have X2 := X1.fm F2.1 List.not_mem_nil List.not_mem_nil
      refine ⟨X2.rc, c_slen X2 (fun _ => ⟨fun z => absurd rfl z, fun _ => ⟨Or.inr rfl, K _ (F.trans F2) qsi_s (fun j hj => ?_)⟩⟩)⟩
      have := A j (by omega)
      unfold bl at this
      rw [if_pos hj] at this
      rw [qsi_a (by decide)]; exact this
  have main : ∀ r m h, 20 * (m + r) < 620 → bs.length ≤ 20 * (m + r) → 20 * m < bs.length + 20 → FL hS h → gi h 1 1 = nI (20 * m) → (∀ j, j < 20 * m → gi h 2 j = sb_b (bl bs j)) → Bt mq_L_feeds Q 4 (2 * m) [some (.ref 0), some (.ref t), some (.int (nI (20 * m))), some (.int (nI (20 * m))), none, none] [] h := by
    intro r
    induction r with
    | zero =>
      intro m h hm hl hs F e A
      exact fin m h hm hl hs F e A
    | succ r ih =>
      intro m h hm hl hs F e A
      have X1 := X.fm F.1 List.not_mem_nil List.not_mem_nil
      rcases Nat.lt_or_ge (20 * m) bs.length with hlt | hge
      · refine sq_L_feeds_4 ⟨X1.rc, c_slen X1 (fun _ => ⟨fun z => absurd z (nI_ge hlt (by omega)), fun _ => ⟨⟨by decide, by decide⟩, ?_, fun q q2 qz => ?_⟩⟩)⟩
        · show 2 * m + 1 ≤ 60; omega
        rw [show (nI 5).toNatClampNeg = 5 from nI_clamp (by decide)]
        have f1 : FmQ [] h (nw h q 16 5) := FmQ.nw qz
        have l1 : Lw h (nw h q 16 5) := (Oth.nw h q 16 5).lw q2
        refine f_20 (h0 := h) X1 (by omega) q2 qz (fun h2 f2 l2 kq lq eq => ⟨by omega, ?_⟩) 20 0 _ (Nat.zero_add _) f1 l1 (qkd_nw (by omega)) qln_nw (fun j hj => ?_)
        · have e11 : gi h2 1 1 = nI (20 * m) := (congrFun (l2 1 (by decide)).1 1).trans e
          have A2 : ∀ j, j < 20 * m → gi h2 2 j = sb_b (bl bs j) := fun j hj => (congrFun (l2 2 (by decide)).1 j).trans (A j hj)
          rw [eq 0 (by decide), eq 1 (by decide), eq 2 (by decide), eq 3 (by decide), eq 4 (by decide)]
          refine c_feed (n := 20 * m) e11 (by omega) (fun z => absurd (by omega) z) (fun _ h3 f3 hi3 => ?_)
          obtain ⟨g1, g2, g3', g4⟩ := f3
          have e20 : 20 * m + 20 = 20 * (m + 1) := by omega
          have FF := (F.trans (FL.lw f2 l2)).trans (FL.hi hi3 g1)
          rw [e20] at g2 ⊢
          refine ih (m + 1) h3 (by omega) (by omega) (by omega) FF g2 (fun j hj => ?_)
          by_cases hj2 : j < 20 * m
          · rw [g3' j hj2]; exact A2 j hj2
          · obtain ⟨a, ea⟩ : ∃ a, j = 20 * m + a := ⟨j - 20 * m, by omega⟩
            subst ea
            rw [g4 a (by omega)]
            congr 1
            have bp : ∀ j k, k < 4 → byt (nI (wds bs (20 * m) 20 j)) k = bl bs (20 * m + (4 * j + k)) ∨ 5 ≤ j := fun j k hk => by
              rcases Nat.lt_or_ge j 5 with g | g
              · left
                unfold wds
                rw [show min 4 (20 - 4 * j) = 4 by omega]
                exact byt_pw (p := fun a => bl bs (20 * m + (4 * j + a))) (fun j => bl_lt X.tx _) hk
              · exact Or.inr g
            have bq : ∀ j k, j < 5 → k < 4 → byt (nI (wds bs (20 * m) 20 j)) k = bl bs (20 * m + (4 * j + k)) := fun j k hj hk => (bp j k hk).resolve_right (by omega)
            unfold pick
            split
            · rw [bq 0 _ (by decide) (by omega), show 4 * 0 + a = a by omega]
            · split
              · rw [bq 1 _ (by decide) (by omega), show 4 * 1 + (a - 4) = a by omega]
              · split
                · rw [bq 2 _ (by decide) (by omega), show 4 * 2 + (a - 8) = a by omega]
                · split
                  · rw [bq 3 _ (by decide) (by omega), show 4 * 3 + (a - 12) = a by omega]
                  · rw [bq 4 _ (by decide) (by omega), show 4 * 4 + (a - 16) = a by omega]
        · rw [show wds bs (20 * m) 0 j = 0 by unfold wds; rw [show min 4 (0 - 4 * j) = 0 by omega]; rfl]
          exact qnw_i
      · exact fin m h (by omega) hge hs F e A
  have := main 30 0 hS (by omega) (by omega) (by omega) FL.refl e0 (fun j hj => absurd hj (by omega))
  exact this
end
