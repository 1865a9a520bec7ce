/-! ===== the law's World: the measures that count ===== -/
section
variable {h h' : PH} {w k v : Nat} {W : WN} {s : RW} {C E : Nat} {Q : Res → PH → Prop} {x y z : Int32}
theorem wv_c (R : Rk C E s) (hk : k < nn (s 2)) : (wvOf s k < 0 → plnd s k = false) ∧ (¬ wvOf s k < 0 → plnd s k = true) := by
  have h1 := R.pl k hk
  have h2 : wvOf s k = -1 ∨ (isN (wvOf s k) 4 ∧ nn (wvOf s k) < nn (s 3)) := R.wv (pN s k) h1.2
  unfold plnd
  rcases h2 with q | q
  · rw [q]
    exact ⟨fun _ => rfl, fun z => absurd (by decide) z⟩
  · refine ⟨fun z => ?_, fun _ => ?_⟩
    · rw [q.1.1] at z
      exact absurd z (nI_pos (by have := q.1.2; omega))
    · rw [decide_eq_false q.1.nm1]; rfl
theorem c_wMeas (X : WO h w W s) (R : Rk C E s) (K : ∀ h' q, FmQ [] h h' → Lw h h' → qkd h' q = 16 → qln h' q = 2 → (hasP s = true → gi h' q 0 = nI (mCnt s) ∧ gi h' q 1 = mSum s) → Q (.inl (some (.ref q))) h') : MetQ mq_X13_measures [.ref w] h Q := by
  have hl := X.m.2.1
  have hle := X.al.le
  have n0 : (nI 0).toNatClampNeg = 0 := nI_clamp (by decide)
  have n1 : (nI 1).toNatClampNeg = 1 := nI_clamp (by decide)
  have n2 : (nI 2).toNatClampNeg = 2 := nI_clamp (by decide)
  refine tq_X13_measures ⟨⟨by decide, by rw [n2]; decide⟩, by rw [n2]; decide, fun q hq0 hq => ?_⟩
  rw [n2]
  have sn : ∀ {g g' : PH}, FmQ [] h g → FmQ [q] g g' → FmQ [] h g' := fun a b => a.trans b (fun n hn hz => absurd (List.mem_singleton.mp hn) (ne_of_kd hz hq))
  have key : ∀ n cur (h1 : PH), cur + n = W.ms.length → FmQ [] h h1 → Lw h h1 → qkd h1 q = 16 → qln h1 q = 2 → (hasP s = true → gi h1 q 0 = nI (cnt cur (mesd s)) ∧ gi h1 q 1 = sumI cur (mesd s) (fun m => mf s m 4)) → Bt mq_X13_measures Q 6 (0 + (1 + 2 / 12)) [some (.ref w), some (.ref q), some (.int (nI cur))] [] h1 := by
    intro n
    induction n with
    | zero =>
      intro cur h1 hc f hlw kq lq hv
      have X1 := X.f0 f hlw.md
      refine sq_X13_measures_6 ⟨X1.kw, g3 X1.r.2.2.2.2.2.1 ⟨X1.al.rc, c_lsize X1.al (fun _ => ⟨fun _ => ?_, fun z => ?_⟩)⟩⟩
      · have e : cur = nn (s 2) := by omega
        rw [e] at hv
        exact K h1 q f hlw kq lq hv
      · exact absurd (nI_le (a := W.ms.length) (b := cur) (by omega) (by omega)) z
    | succ n ih =>
      intro cur h1 hc f hlw kq lq hv
      have X1 := X.f0 f hlw.md
      have hcur : cur < W.ms.length := by omega
      have hk : cur < nn (s 2) := by omega
      have skip : (hasP s = true → mesd s cur = false) → Bt mq_X13_measures Q 6 (0 + (1 + 2 / 12)) [some (.ref w), some (.ref q), some (.int (nI cur + nI 1))] [] h1 := by
        intro z
        rw [nI_add]
        refine ih (cur + 1) h1 (by omega) f hlw kq lq (fun hp => ?_)
        obtain ⟨v1, v2⟩ := hv hp
        refine ⟨?_, ?_⟩
        · rw [v1, cnt, z hp]; rfl
        · rw [v2, sumI, z hp]
      refine sq_X13_measures_6 ⟨X1.kw, g3 X1.r.2.2.2.2.2.1 ⟨X1.al.rc, c_lsize X1.al (fun _ => ⟨fun z => absurd z (nI_ge hcur (by omega)), fun _ => ⟨X1.rc, c_wHasP X1 R (fun _ => ⟨fun z => skip (fun hp => ?_), fun z => ⟨X1.rc, c_wWave X1 R.1 hcur (fun _ => ⟨fun z2 => skip (fun _ => ?_), fun z2 => ⟨X1.rc, ?_⟩⟩)⟩⟩)⟩⟩)⟩⟩
      · rw [b2i_0.mp z] at hp; cases hp
      · unfold mesd; rw [(wv_c R hk).1 z2, Bool.false_and]
      · have hp : hasP s = true := by
          cases e : hasP s
          · exact absurd (b2i_0.mpr e) z
          · rfl
        obtain ⟨v1, v2⟩ := hv hp
        have hpl := (wv_c R hk).2 z2
        refine c_wReady X1 R hp hcur (fun _ => ⟨fun z3 => ?_, fun z3 => skip (fun _ => ?_)⟩)
        · have hr : mesd s cur = true := by
            unfold mesd
            rw [hpl, Bool.true_and]
            cases e : rdy s cur
            · exact absurd (b2i_0.mpr e) z3
            · rfl
          rw [n0, n1]
          have vi : ∀ i, i < 2 → vp_in (nI i) (qln h1 q) := fun i hi => by rw [lq]; exact vp_in_nI hi (by decide)
          refine ⟨Or.inl kq, vi 0 (by decide), kq, vi 0 (by decide), Or.inl kq, vi 1 (by decide), ?_⟩
          intro y20
          have f2 : FmQ [] h (si h1 q 0 (gi h1 q 0 + nI 1)) := sn f FmQ.si
          have l2 : Lw h (si h1 q 0 (gi h1 q 0 + nI 1)) := hlw.trans ((Oth.si h1 q 0 _).lw hq0)
          have X2 := X.f0 f2 l2.md
          refine ⟨X2.kw, g3 X2.r.2.2.2.2.2.1 ⟨X2.al.rc, c_get X2.al hcur (fun _ => ⟨X2.km hcur, X2.km hcur, kq, vi 1 (by decide), ?_⟩)⟩⟩
          rw [X2.f hcur (show 4 < 6 by decide), nI_add]
          refine ih (cur + 1) _ (by omega) (sn f2 FmQ.si) (l2.trans ((Oth.si _ q 1 _).lw hq0)) kq lq (fun _ => ⟨?_, ?_⟩)
          · rw [qsi_k (by decide), qsi_s, v1, nI_add, cnt, hr]
          · rw [qsi_s, sumI, hr]
            show gi (si h1 q 0 (gi h1 q 0 + nI 1)) q 1 + mf s cur 4 = _
            rw [qsi_k (by decide), v2]
        · unfold mesd; rw [b2i_0.mp z3, Bool.and_false]
  refine key W.ms.length 0 _ (by omega) (FmQ.nw hq) ((Oth.nw h q 16 2).lw hq0) (qkd_nw (by omega)) qln_nw (fun _ => ⟨?_, ?_⟩)
  · rw [qnw_i]; rfl
  · rw [qnw_i]; rfl
end
