/-! ===== the law's builders of text ===== -/
theorem fitB : ∀ b, b < 128 → fits .byte (.int (nI b)) = true := by decide +kernel
theorem nb8 : ∀ b, b < 128 → (nI b).toInt8.toInt32 = nI b := by decide +kernel
theorem qI_toInt {a : Nat} (h : a < 2 ^ 31) : (nI a).toInt = (a : Int) := by
  show (Int32.ofNat a).toInt = _
  exact Int32.toInt_ofNat_of_lt h
theorem qI_bm {x : Int} (h1 : -2147483648 ≤ x) (h2 : x < 2147483648) : x.bmod (2 ^ 32) = x := by
  rw [show (2 ^ 32 : Nat) = 4294967296 from rfl]
  simp only [Int.bmod]
  omega
theorem qI_le0 {m l : Nat} (hm : m < 2 ^ 30) (hl : l < 2 ^ 30) (h : m ≤ l) : nI m - nI l ≤ 0 := by
  rw [Int32.le_iff_toInt_le, Int32.toInt_sub, qI_toInt (by omega), qI_toInt (by omega), qI_bm (by omega) (by omega)]
  show _ ≤ (0 : Int)
  omega
/-- the builder t, its bytes v: the text bs -/
def SbQ (h : PH) (t v : Nat) (bs : List Nat) : Prop :=
  qkd h t = 4 ∧ gr h t 0 = some v ∧ gi h t 1 = 0 ∧ gi h t 3 = nI bs.length ∧ qkd h v = 17 ∧ bs.length ≤ qln h v ∧ qln h v ≤ 1202 ∧
  (∀ i, i < bs.length → gi h v i = nI (bs.getD i 0)) ∧ (∀ i, i < qln h v → fits .byte (.int (gi h v i)) = true) ∧ (∀ b ∈ bs, b < 128) ∧ bs.length ≤ 600
section
variable {h h1 h' : PH} {S T : List Nat} {t v v' s w b q n m K N : Nat} {bs cs : List Nat} {Q : Res → PH → Prop} {x y : Int32}
theorem SbQ.kt (B : SbQ h t v bs) : qkd h t = 4 := B.1
theorem SbQ.va (B : SbQ h t v bs) : gr h t 0 = some v := B.2.1
theorem SbQ.co (B : SbQ h t v bs) : gi h t 1 = 0 := B.2.2.1
theorem SbQ.ct (B : SbQ h t v bs) : gi h t 3 = nI bs.length := B.2.2.2.1
theorem SbQ.kv (B : SbQ h t v bs) : qkd h v = 17 := B.2.2.2.2.1
theorem SbQ.le (B : SbQ h t v bs) : bs.length ≤ qln h v := B.2.2.2.2.2.1
theorem SbQ.mx (B : SbQ h t v bs) : qln h v ≤ 1202 := B.2.2.2.2.2.2.1
theorem SbQ.by (B : SbQ h t v bs) : ∀ i, i < bs.length → gi h v i = nI (bs.getD i 0) := B.2.2.2.2.2.2.2.1
theorem SbQ.ft (B : SbQ h t v bs) : ∀ i, i < qln h v → fits .byte (.int (gi h v i)) = true := B.2.2.2.2.2.2.2.2.1
theorem SbQ.tx (B : SbQ h t v bs) : ∀ b ∈ bs, b < 128 := B.2.2.2.2.2.2.2.2.2.1
theorem SbQ.sz (B : SbQ h t v bs) : bs.length ≤ 600 := B.2.2.2.2.2.2.2.2.2.2
theorem SbQ.tz (B : SbQ h t v bs) : ¬ qkd h t = 0 := by rw [B.kt]; decide
theorem SbQ.vz (B : SbQ h t v bs) : ¬ qkd h v = 0 := by rw [B.kv]; decide
theorem SbQ.tv (B : SbQ h t v bs) : t ≠ v := fun e => by have := B.kt; rw [e, B.kv] at this; cases this
theorem SbQ.rc (B : SbQ h t v bs) : rcvQ h t 4 := Or.inl B.kt
theorem SbQ.fm (B : SbQ h t v bs) (f : FmQ S h h') (ht : t ∉ S) (hv : v ∉ S) : SbQ h' t v bs :=
  ⟨(f.kd B.tz).trans B.kt, (f.r B.tz ht).trans B.va, (f.i B.tz ht).trans B.co, (f.i B.tz ht).trans B.ct, (f.kd B.vz).trans B.kv, by rw [f.ln B.vz]; exact B.le, by rw [f.ln B.vz]; exact B.mx, fun i hi => (f.i B.vz hv).trans (B.by i hi), fun i hi => by rw [f.i B.vz hv]; exact B.ft i (by rw [← f.ln B.vz]; exact hi), B.tx, B.sz⟩
theorem c_sbL1 (B : SbQ h t v bs) (k : Q (.inl (some (.int (nI 1)))) h) : MetQ mq_J5_isLatin1_aae02 [.ref t] h Q :=
  tq_J5_isLatin1_aae02 (c10 ⟨B.kt, fun z => absurd B.co z, fun _ => ⟨Or.inr rfl, k⟩⟩)
/-- a longer array of bytes -/
def CpB (h h' : PH) (b q K N : Nat) : Prop := 2000 ≤ q ∧ qkd h q = 0 ∧ qkd h' q = 17 ∧ qln h' q = N ∧ ∀ i, gi h' q i = if i < K then gi h b i else 0
theorem c_cpB (hb : qkd h b = 17) (hK : qln h b = K) (hKN : K < N) (hN : N ≤ 1202) (hf : ∀ i, i < K → fits .byte (.int (gi h b i)) = true) (k : ∀ q h', CpB h h' b q K N → FmQ [] h h' → Lw h h' → Q (.inl (some (.ref q))) h') : MetQ mq_J7_copyOf_9075b [.ref b, .int (nI N)] h Q := by
  have e0 : (nI 0).toNatClampNeg = 0 := nI_clamp (by decide)
  have eN : (nI N).toNatClampNeg = N := nI_clamp (by omega)
  have eK : (nI K).toNatClampNeg = K := nI_clamp (by omega)
  have hbz : ¬ qkd h b = 0 := by rw [hb]; decide
  refine tq_J7_copyOf_9075b ⟨ark (by omega), fun hne => ⟨⟨nI_pos (by omega), by rw [eN]; omega⟩, by rw [eN]; omega, fun q hq0 hq => ?_⟩, fun heq => ?_⟩
  · rw [eN]
    have hbq : b ≠ q := ne_of_kd hbz hq
    have k1 : qkd (nw h q 17 N) b = 17 := (qnw_ka hbq).trans hb
    have l1 : qln (nw h q 17 N) b = K := (qnw_la hbq).trans hK
    have k2 : qkd (nw h q 17 N) q = 17 := qkd_nw (by omega)
    have l2 : qln (nw h q 17 N) q = N := qln_nw
    have ey : (if nI N < nI (qln (nw h q 17 N) b) then nI N else nI (qln (nw h q 17 N) b)) = nI K := by
      rw [l1, if_neg (fun z => absurd ((nI_ltI (by omega) (by omega)).mp z) (by omega))]
    refine ⟨ark (by omega), ?_⟩
    rw [ey]
    show _ ∧ _
    rw [eK, e0, l1, l2]
    refine ⟨⟨Or.inl k1, k2⟩, ⟨nI_pos (by decide), nI_pos (by decide), nI_pos (by omega), by omega, by omega⟩, fun i hi => ?_, ?_⟩
    · rw [Nat.zero_add, qnw_ia hbq]; exact hf i hi
    · refine k q _ ⟨hq0, hq, k2, l2, fun i => ?_⟩ (((FmQ.nw (S := []) hq).trans (FmQ.cpi (b := q)) (fun n hn hz => absurd (List.mem_singleton.mp hn) (ne_of_kd hz hq)))) (((Oth.nw h q 17 N).lw hq0).trans ((Oth.cpi _ b 0 q 0 K).lw hq0))
      show (if q = q then va_cpy ((nw h q 17 N).1 b) ((nw h q 17 N).1 q) 0 0 K else (nw h q 17 N).1 q) i = _
      rw [if_pos rfl]
      unfold va_cpy
      rw [Nat.zero_add, Nat.zero_add, Nat.sub_zero]
      by_cases hi : i < K
      · rw [if_pos ⟨Nat.zero_le _, hi⟩, if_pos hi]
        exact qnw_ia hbq
      · rw [if_neg (fun z => hi z.2), if_neg hi]
        exact qnw_i
  · exfalso
    have := congrArg Int32.toNatClampNeg heq
    rw [eN, hK, eK] at this
    omega
/-- room for m bytes -/
theorem c_room (B : SbQ h t v bs) (hm : m ≤ 600) (h2 : 2000 ≤ t) (k : ∀ h' v', SbQ h' t v' bs → m ≤ qln h' v' → FmQ [t] h h' → Lw h h' → (v' = v ∨ (qkd h v' = 0 ∧ 2000 ≤ v')) → Q (.inl none) h') : MetQ mq_J5_ensureCapacityInternal_d00df [.ref t, .int (nI m)] h Q := by
  have hmx := B.mx
  have hle := B.le
  refine tq_J5_ensureCapacityInternal_d00df ⟨B.kt, g3 B.va ⟨ark (by have := B.kv; omega), B.kt, ?_⟩⟩
  rw [B.co, shr0]
  by_cases q : m ≤ qln h v
  · exact br_t (qI_le0 (by omega) (by omega) q) (k h v B q (FmQ.refl h) (Lw.refl h) (Or.inl rfl))
  · have em : nI m - nI (qln h v) = nI (m - qln h v) := qI_sub (by omega)
    refine br_f ?_ ⟨B.kt, g3 B.va ⟨B.rc, ?_⟩⟩
    · rw [em]
      exact fun z => absurd z (nI_ge (a := 0) (by omega) (by omega))
    · refine tq_J5_newCapacity_0f7a4 ⟨B.kt, g3 B.va ⟨ark (by have := B.kv; omega), B.kt, B.kt, ?_⟩⟩
      rw [B.co, shl0, shl0, em, nI_add]
      have hm1 : m - qln h v < 3000 := by omega
      have hmx2 : max (m - qln h v) (qln h v + 2) = qln h v + 2 ∨ max (m - qln h v) (qln h v + 2) = m - qln h v := by omega
      refine c_newLen (K := qln h v) (n := m - qln h v) (N := qln h v + 2) (by omega) (by omega) (by omega) (Or.inr (by omega)) (fun _ => ⟨fun _ => ⟨B.kt, ?_⟩, fun z => ?_⟩)
      · rw [B.co, shr0]
        intro _
        refine ⟨B.kt, Nat.le_refl _, ?_⟩
        rw [B.co, shl0]
        refine c_cpB (K := qln h v) (N := qln h v + max (m - qln h v) (qln h v + 2)) B.kv rfl (by omega) (by omega) B.ft (fun q9 h9 hcp f hlw _ => ?_)
        obtain ⟨a1, a2, a3, a4, a5⟩ := hcp
        have htq : t ≠ q9 := ne_of_kd B.tz a2
        refine ⟨(f.kd B.tz).trans B.kt, k _ q9 ⟨(f.kd B.tz).trans B.kt, qsr_s, (f.i B.tz (by simp)).trans B.co, (f.i B.tz (by simp)).trans B.ct, a3, ?_, ?_, fun i hi => ?_, fun i hi => ?_, B.tx, B.sz⟩ ?_ (f.mono (fun n hn _ => absurd hn (by simp)) |>.trans (FmQ.sr (a := t)) (fun n hn _ => hn)) (hlw.trans ((Oth.sr _ t 0 _).lw h2)) (Or.inr ⟨a2, a1⟩)⟩
        · show bs.length ≤ qln h9 q9
          rw [a4]; omega
        · show qln h9 q9 ≤ 1202
          rw [a4]; omega
        · show gi h9 q9 i = _
          rw [a5, if_pos (by omega)]; exact B.by i hi
        · show fits .byte (.int (gi h9 q9 i)) = true
          rw [a5]
          split
          · rename_i hlt; exact B.ft i hlt
          · exact fitB 0 (by decide)
        · show m ≤ qln h9 q9
          rw [a4]; omega
      · exfalso
        have h3 : (nI (qln h v + max (m - qln h v) (qln h v + 2))).toNatClampNeg = (nI 2147483647).toNatClampNeg := congrArg Int32.toNatClampNeg z
        rw [nI_clamp (by omega), nI_clamp (by decide)] at h3
        omega
end
