/-! ===== the law's texts: made, read ===== -/
theorem chr8 : ∀ b, b < 128 → (((nI b) &&& (nI 255)).toUInt32 % 65536).toInt32 = nI b ∧ narrow .char (.int (nI b)) = .int (nI b) := by decide +kernel
section
variable {h h1 h' : PH} {S T : List Nat} {t v v' s w b q n m K N i l g : Nat} {bs cs : List Nat} {Q : Res → PH → Prop} {x y : Int32}
/-- the first n bytes of b, in an array of their own -/
def CpR (h h' : PH) (b q n : Nat) : Prop := 2000 ≤ q ∧ qkd h q = 0 ∧ qkd h' q = 17 ∧ qln h' q = n ∧ ∀ i, i < n → gi h' q i = gi h b i
theorem c_cpR (hb : qkd h b = 17) (hn : n ≤ qln h b) (hK : qln h b ≤ 1202) (hf : ∀ i, i < qln h b → fits .byte (.int (gi h b i)) = true) (k : ∀ q h', CpR h h' b q n → FmQ [] h h' → Lw h h' → Q (.inl (some (.ref q))) h') : MetQ mq_J7_copyOfRange_39247 [.ref b, .int (nI 0), .int (nI n)] h Q := by
  have e0 : (nI 0).toNatClampNeg = 0 := nI_clamp (by decide)
  have eN : (nI n).toNatClampNeg = n := nI_clamp (by omega)
  have hbz : ¬ qkd h b = 0 := by rw [hb]; decide
  refine tq_J7_copyOfRange_39247 ⟨fun z => absurd rfl z, fun _ => ⟨ark (by omega), fun heq => ?_, fun hne => ?_⟩⟩
  · have hl : n = qln h b := by
      have := congrArg Int32.toNatClampNeg heq
      rw [eN, nI_clamp (by omega)] at this
      exact this
    refine ⟨hb, hf, by omega, fun q hq0 hq => ?_⟩
    have kq : qkd (cln' h q b) q = 17 := by
      rw [qkd_hi (by omega)]
      show (if q = q then (fun j => if j = 0 then 17 else qln h b) else h.2.2.2 q) 0 = 17
      rw [if_pos rfl]; rfl
    refine ⟨kq, k q _ ⟨hq0, hq, kq, ?_, fun i _ => ?_⟩ (FmQ.cln hq) ((Oth.cln (h := h) (q := q) (a := b)).lw hq0)⟩
    · show (if q = q then (fun j => if j = 0 then 17 else qln h b) else h.2.2.2 q) 1 = n
      rw [if_pos rfl]; exact hl.symm
    · show (if q = q then h.1 b else h.1 q) i = _
      rw [if_pos rfl]; rfl
  · refine ⟨Nat.le_refl _, tq_J7_copyOfRangeByte_39247 (tq_J7_checkLength_df160 ⟨fun _ => fun _ => ?_, fun z => absurd (nI_pos' (by omega)) z⟩)⟩
    have es : nI n - nI 0 = nI n := qI_sub (Nat.zero_le _)
    rw [es, eN]
    refine ⟨⟨nI_pos (by omega), by omega⟩, by omega, fun q hq0 hq => ?_⟩
    have hbq : b ≠ q := ne_of_kd hbz hq
    have k1 : qkd (nw h q 17 n) b = 17 := (qnw_ka hbq).trans hb
    have l1 : qln (nw h q 17 n) b = qln h b := qnw_la hbq
    have k2 : qkd (nw h q 17 n) q = 17 := qkd_nw (by omega)
    have l2 : qln (nw h q 17 n) q = n := qln_nw
    have ey : (if nI n < nI (qln (nw h q 17 n) b) - nI 0 then nI n else nI (qln (nw h q 17 n) b) - nI 0) = nI n := by
      rw [l1, qI_sub (Nat.zero_le _), Nat.sub_zero]
      split
      · rfl
      · rename_i z
        have e8 : n = qln h b := by
          rcases Nat.lt_or_eq_of_le hn with w | w
          · exact absurd (nI_lt w (by omega)) z
          · exact w
        rw [← e8]
    refine ⟨ark (by omega), ?_⟩
    rw [ey]
    show _ ∧ _
    rw [eN, e0, l1, l2]
    refine ⟨⟨Or.inl k1, k2⟩, ⟨nI_pos (by decide), nI_pos (by decide), nI_pos (by omega), by omega, by omega⟩, fun i hi => ?_, ?_⟩
    · rw [Nat.zero_add, qnw_ia hbq]; exact hf i (by omega)
    · intro h14 _
      refine k q h14 ⟨hq0, hq, k2, l2, fun i hi => ?_⟩ (((FmQ.nw (S := []) hq).trans (FmQ.cpi (b := q)) (fun n hn hz => absurd (List.mem_singleton.mp hn) (ne_of_kd hz hq)))) (((Oth.nw h q 17 n).lw hq0).trans ((Oth.cpi _ b 0 q 0 n).lw hq0))
      show gi (cpi (nw h q 17 n) b 0 q 0 n) q i = _
      rw [cpi_get, if_pos ⟨Nat.zero_le _, by omega⟩, Nat.zero_add, Nat.sub_zero]
      exact qnw_ia hbq
theorem c_toS (B : SbQ h t v bs) (k : ∀ s w h', StrQ h' s w bs → FmQ [] h h' → Lw h h' → qkd h s = 0 → qkd h w = 0 → 2000 ≤ s → 2000 ≤ w → Q (.inl (some (.ref s))) h') : MetQ mq_J4_toString_0e30d [.ref t] h Q := by
  refine tq_J4_toString_0e30d ⟨by decide, fun s hs0 hs => ⟨Nat.le_refl _, tq_J0_init_81219 ⟨Nat.le_refl _, ?_⟩⟩⟩
  have f0 : FmQ [] h (nw h s 3 0) := FmQ.nw hs
  have B0 : SbQ (nw h s 3 0) t v bs := B.fm f0 (by simp) (by simp)
  have ks : qkd (nw h s 3 0) s = 3 := qkd_nw (by omega)
  have hts : t ≠ s := ne_of_kd B.tz hs
  have hvs : v ≠ s := ne_of_kd B.vz hs
  refine tq_J0_init_db425 ⟨B0.rc, tq_J5_getValue_6d5f1 ⟨B0.kt, g3 B0.va (fun _ => ⟨B0.rc, tq_J4_length_8abf5 ⟨B0.rc, tq_J5_length_8abf5 ⟨B0.kt, ?_⟩⟩⟩)⟩⟩
  intro _ _
  refine ⟨B0.rc, c_sbL1 B0 (fun _ => ⟨fun z => absurd z (by decide), fun _ => ⟨ks, Or.inl rfl, Nat.le_refl _, ?_⟩⟩)⟩
  rw [B0.ct]
  have f1 : FmQ [s] (nw h s 3 0) (si (nw h s 3 0) s 1 (nI 0)) := FmQ.si
  have B1 : SbQ (si (nw h s 3 0) s 1 (nI 0)) t v bs := B0.fm f1 (by simp [hts]) (by simp [hvs])
  refine c_cpR B1.kv B1.le B1.mx B1.ft (fun w h9 hcp f hlw _ => ?_)
  obtain ⟨a1, a2, a3, a4, a5⟩ := hcp
  have ks1 : qkd (si (nw h s 3 0) s 1 (nI 0)) s = 3 := ks
  have hsz : ¬ qkd (si (nw h s 3 0) s 1 (nI 0)) s = 0 := by rw [ks1]; decide
  have hsw : s ≠ w := ne_of_kd hsz a2
  refine ⟨(f.kd hsz).trans ks1, fun _ _ => ?_⟩
  have hw0 : qkd h w = 0 := by
    have : qkd (nw h s 3 0) w = 0 := a2
    rwa [qnw_ka (Ne.symm hsw)] at this
  refine k s w _ ⟨Or.inl ((f.kd hsz).trans ks1), (f.i hsz (by simp)).trans qsi_s, qsr_s, Or.inl a3, a4, fun i hi => ?_, B.tx, by have := B.sz; omega⟩ ?_ ((((Oth.nw h s 3 0).lw hs0).trans ((Oth.si _ s 1 _).lw hs0)).trans (hlw.trans ((Oth.sr _ s 0 _).lw hs0))) hs hw0 hs0 a1
  · exact (a5 i hi).trans (B1.by i hi)
  · exact (((f0.trans f1 (fun n hn hz => absurd (List.mem_singleton.mp hn) (ne_of_kd hz hs))).trans f (fun n hn _ => hn)).trans (FmQ.sr (a := s)) (fun n hn hz => absurd (List.mem_singleton.mp hn) (ne_of_kd hz hs)))
theorem c_schr (X : StrQ h s w cs) (hi : i < cs.length) (k : Q (.inl (some (.int (nI (cs.getD i 0))))) h) : MetQ mq_J0_charAt_5068e [.ref s, .int (nI i)] h Q := by
  have hx := X.tx.2
  have eI : (nI i).toNatClampNeg = i := nI_clamp (by omega)
  have hb : cs.getD i 0 < 128 := by
    rw [List.getD_eq_getElem?_getD, List.getElem?_eq_getElem hi]
    exact X.tx.1 _ (List.getElem_mem _)
  obtain ⟨c1, c2⟩ := chr8 _ hb
  refine tq_J0_charAt_5068e ⟨X.rc, c_isL1 X (fun _ => ⟨fun z => absurd z (by decide), fun _ => ⟨X.kd, g3 X.va (tq_J1_charAt_3b067 ⟨ark (by have := X.kv; omega), ?_⟩)⟩⟩)⟩
  rw [X.ln]
  refine c_ck0 (nI_pos (by omega)) (nI_lt hi (by omega)) (fun _ => ⟨X.kv, ?_, ?_⟩)
  · rw [X.ln]; exact vp_in_nI hi (by omega)
  · rw [eI, X.by i hi, c1]
    exact ⟨c2, fun _ => ⟨c2, k⟩⟩
theorem c_sbNew (kt : qkd h t = 4) (h0 : gi h t 3 = 0) (h2 : 2000 ≤ t) (k : ∀ v h', SbQ h' t v [] → FmQ [t] h h' → Lw h h' → qkd h v = 0 → 2000 ≤ v → Q (.inl none) h') : MetQ mq_J4_init_da8c8 [.ref t] h Q := by
  have e16 : (nI 16).toNatClampNeg = 16 := nI_clamp (by decide)
  refine tq_J4_init_da8c8 ⟨Nat.le_refl _, tq_J5_init_d00df (c10 ⟨⟨by decide, by decide⟩, by decide, fun q hq0 hq => ?_⟩)⟩
  rw [e16]
  have hz : ¬ qkd h t = 0 := by rw [kt]; decide
  have htq : t ≠ q := ne_of_kd hz hq
  have kt1 : qkd (nw h q 17 16) t = 4 := (qnw_ka htq).trans kt
  refine ⟨kt1, kt1, Or.inl rfl, fun _ => ?_⟩
  have B : SbQ (si (sr (nw h q 17 16) t 0 (some q)) t 1 (nI 0)) t q [] := by
    refine ⟨kt1, qsr_s, qsi_s, ?_, qkd_nw (by omega), Nat.zero_le _, ?_, ?_, ?_, ?_, Nat.zero_le _⟩
    · rw [qsi_k (by decide)]
      exact (qnw_ia (kd := 17) (n := 16) htq).trans h0
    · show qln (nw h q 17 16) q ≤ 1202
      rw [qln_nw]; decide
    · intro i hi
      exact absurd hi (Nat.not_lt_zero _)
    · intro i _
      rw [qsi_a (Ne.symm htq)]
      show fits .byte (.int (gi (nw h q 17 16) q i)) = true
      rw [qnw_i]
      exact fitB 0 (by decide)
    · intro b hb
      exact absurd hb List.not_mem_nil
  exact k q _ B (((FmQ.nw (S := [t]) hq).trans (FmQ.sr (a := t)) (fun n hn _ => hn)).trans (FmQ.si (a := t)) (fun n hn _ => hn)) ((((Oth.nw h q 17 16).lw hq0).trans ((Oth.sr _ t 0 _).lw h2)).trans ((Oth.si _ t 1 _).lw h2)) hq hq0
theorem c_alNew (kl : qkd h l = 5) (h0 : gi h l 2 = 0) (h2 : 2000 ≤ l) (k : ∀ h', AlQ h' l 1402 [] g → FmQ [l] h h' → Lw h h' → Q (.inl none) h') : MetQ mq_Jx4a65c_init_da8c8 [.ref l] h Q := by
  refine tq_Jx4a65c_init_da8c8 (tq_Jxc12de_init_da8c8 (tq_Jxa1e45_init_da8c8 (fun _ => ⟨kl, fun _ => ⟨kl, ?_⟩⟩)))
  have A : AlQ (sr (si h l 0 (nI 0)) l 1 (some 1402)) l 1402 [] g := ⟨kl, qsr_s, (qsi_k (by decide)).trans h0, Nat.zero_le _, fun e he => absurd he List.not_mem_nil, Or.inl ⟨rfl, rfl⟩⟩
  exact k _ A ((FmQ.si (a := l)).trans (FmQ.sr (a := l)) (fun n hn _ => hn)) (((Oth.si h l 0 _).lw h2).trans ((Oth.sr _ l 1 _).lw h2))
end
