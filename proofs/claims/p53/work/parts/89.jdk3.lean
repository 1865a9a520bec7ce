/-! ===== the law's lists: one element more ===== -/
section
variable {h h1 h' : PH} {S T : List Nat} {l v v' t e g i n K N b : Nat} {es : List Nat} {Q : Res → PH → Prop} {x y : Int32}
theorem c_newLen (ho : K < 3000) (hm : n < 3000) (hp : N < 3000) (h1 : 0 < n ∨ 0 < N) (k : Q (.inl (some (.int (nI (K + max n N))))) h) : MetQ mq_J8_newLength_cabcc [.int (nI K), .int (nI n), .int (nI N)] h Q := by
  have e : (nI K + (if nI n < nI N then nI N else nI n)) = nI (K + max n N) := by
    by_cases q : n < N
    · rw [if_pos (nI_lt q (by omega)), nI_add, Nat.max_eq_right (by omega)]
    · rw [if_neg (fun z => q ((nI_ltI (by omega) (by omega)).mp z)), nI_add, Nat.max_eq_left (by omega)]
  have hmx : max n N < 3000 := Nat.max_lt.mpr ⟨hm, hp⟩
  have hmx0 : 0 < max n N := by
    rcases h1 with h1 | h1
    · exact Nat.lt_of_lt_of_le h1 (Nat.le_max_left _ _)
    · exact Nat.lt_of_lt_of_le h1 (Nat.le_max_right _ _)
  refine tq_J8_newLength_cabcc ?_
  rw [e]
  exact br_f (nI_ge (by omega) (by omega)) (br_f (fun z => absurd ((nI_ltI (by decide) (by omega)).mp z) (by omega)) k)
/-- a longer array of references -/
def CpO (h h' : PH) (b q K N : Nat) : Prop := 2000 ≤ q ∧ qkd h q = 0 ∧ qkd h' q = 23 ∧ qln h' q = N ∧ ∀ i, gr h' q i = if i < K then gr h b i else none
theorem c_cpO (hb : qkd h b = 23) (hK : qln h b = K) (hKN : K ≤ N) (hN : N ≤ 1800) (hg : g = 1 ∨ g = 16) (he : ∀ i y, i < K → gr h b i = some y → qkd h y = g) (k : ∀ q h', CpO h h' b q K N → FmQ [] h h' → Lw h h' → Q (.inl (some (.ref q))) h') : MetQ mq_J7_copyOf_6403c [.ref b, .int (nI N), .ref 1410] h Q := by
  have e0 : (nI 0).toNatClampNeg = 0 := nI_clamp (by decide)
  have eN : (nI N).toNatClampNeg = N := nI_clamp (by omega)
  have eK : (nI K).toNatClampNeg = K := nI_clamp (by omega)
  have hbz : ¬ qkd h b = 0 := by rw [hb]; decide
  refine tq_J7_copyOf_6403c ⟨Or.inl rfl, fun z => absurd rfl z, fun _ => ⟨⟨nI_pos (by omega), by rw [eN]; omega⟩, by rw [eN]; omega, fun q hq0 hq => ?_⟩⟩
  rw [eN]
  have hbq : b ≠ q := ne_of_kd hbz hq
  have k1 : qkd (nw h q 23 N) b = 23 := (qnw_ka hbq).trans hb
  have l1 : qln (nw h q 23 N) b = K := (qnw_la hbq).trans hK
  have k2 : qkd (nw h q 23 N) q = 23 := qkd_nw (by omega)
  have l2 : qln (nw h q 23 N) q = N := qln_nw
  have ey : (if nI N < nI (qln (nw h q 23 N) b) then nI N else nI (qln (nw h q 23 N) b)) = nI K := by
    rw [l1, if_neg (fun z => absurd ((nI_ltI (by omega) (by omega)).mp z) (by omega))]
  refine ⟨ark (by omega), ?_⟩
  rw [ey]
  show _ ∧ _
  rw [eK, e0, l1, l2]
  refine ⟨⟨k1, k2⟩, ⟨nI_pos (by decide), nI_pos (by decide), nI_pos (by omega), by omega, by omega⟩, ⟨g, hg, fun i hi y hy => ?_⟩, ?_⟩
  · rw [Nat.zero_add, qnw_ra hbq] at hy
    have hy2 := he i y hi hy
    have hyz : ¬ qkd h y = 0 := by rcases hg with rfl | rfl <;> omega
    rw [qnw_ka (ne_of_kd hyz hq)]
    exact hy2
  · refine k q _ ⟨hq0, hq, k2, l2, fun i => ?_⟩ (((FmQ.nw (S := []) hq).trans (FmQ.cpr (b := q)) (fun n hn hz => absurd (List.mem_singleton.mp hn) (ne_of_kd hz hq)))) (((Oth.nw h q 23 N).lw hq0).trans ((Oth.cpr _ b 0 q 0 K).lw hq0))
    show (if q = q then va_cpy ((nw h q 23 N).2.2.1 b) ((nw h q 23 N).2.2.1 q) 0 0 K else (nw h q 23 N).2.2.1 q) i = _
    rw [if_pos rfl]
    unfold va_cpy
    rw [Nat.zero_add, Nat.zero_add, Nat.sub_zero]
    by_cases hi : i < K
    · rw [if_pos ⟨Nat.zero_le _, hi⟩, if_pos hi]
      exact qnw_ra hbq
    · rw [if_neg (fun z => hi z.2), if_neg hi]
      exact qnw_r
/-- an array with a place more than the list's elements, in the list -/
theorem c_grow (A : AlQ h l v es g) (hc : Kc h) (hg : g = 1 ∨ g = 16) (hlen : es.length < 1200) (hful : es = [] ∨ qln h v = es.length) (h2 : 2000 ≤ l)
    (k : ∀ q h', gr h' l 1 = some q → gi h' l 2 = gi h l 2 → gi h' l 0 = gi h l 0 → qkd h q = 0 → 2000 ≤ q → qkd h' q = 23 → es.length < qln h' q → qln h' q ≤ 1800 → (∀ i, i < es.length → gr h' q i = some (es.getD i 0)) → (∀ i, es.length ≤ i → gr h' q i = none) → FmQ [l] h h' → Lw h h' → Q (.inl (some (.ref q))) h')
    (hv0 : es = [] → v = 1402) : MetQ mq_Jx4a65c_grow_92f84 [.ref l, .int (gi h l 2 + nI 1)] h Q := by
  obtain ⟨⟨d1, d2⟩, -⟩ := hc
  by_cases hes : es = []
  · have hv := hv0 hes
    subst hv
    subst hes
    have e10 : (if nI 10 < nI 0 + nI 1 then nI 0 + nI 1 else nI 10) = nI 10 := by decide
    have c10 : (nI 10).toNatClampNeg = 10 := nI_clamp (by decide)
    refine tq_Jx4a65c_grow_92f84 ⟨A.kl, g3 A.va ⟨ark (by omega), ?_⟩⟩
    rw [d2]
    have hsz : gi h l 2 = nI 0 := A.sz
    rw [hsz, e10, c10]
    refine ⟨fun z => absurd z (by decide), fun _ => ⟨A.kl, g3 A.va ⟨Or.inl rfl, fun _ => ⟨⟨by decide, by decide⟩, by decide, fun q hq0 hq => ?_⟩, fun z => absurd rfl z⟩⟩⟩
    have hlq : l ≠ q := ne_of_kd A.kz hq
    refine ⟨⟨rfl, rfl⟩, (qnw_ka hlq).trans A.kl, ?_⟩
    refine k q _ qsr_s ?_ ?_ hq hq0 ?_ ?_ ?_ (fun i hi => by cases hi) (fun i _ => ?_) (((FmQ.nw (S := [l]) hq).trans (FmQ.sr (a := l)) (fun n hn _ => hn))) (((Oth.nw h q 23 10).lw hq0).trans ((Oth.sr _ l 1 (some q)).lw h2))
    · exact qnw_ia (kd := 23) (n := 10) hlq
    · exact qnw_ia (kd := 23) (n := 10) hlq
    · exact qkd_nw (by omega)
    · show 0 < qln (nw h q 23 10) q
      rw [qln_nw]; decide
    · show qln (nw h q 23 10) q ≤ 1800
      rw [qln_nw]; decide
    · rw [qsr_a (Ne.symm hlq)]
      exact qnw_r
  · have hful : qln h v = es.length := by
      rcases hful with z | z
      · exact absurd z hes
      · exact z
    have hpos : 0 < es.length := List.length_pos_iff.mpr hes
    obtain ⟨z1, z2, z3, z4, z5⟩ := A.ar hes
    have hvz : ¬ qkd h v = 0 := by rw [z1]; decide
    have em : gi h l 2 + nI 1 - nI (qln h v) = nI 1 := by
      rw [A.sz, hful, nI_add]
      have := qI_sub (a := es.length + 1) (b := es.length) (by omega)
      rw [this]
      exact congrArg nI (by omega)
    have esh : (nI (qln h v)) >>> ((nI 1) &&& 31) = nI (es.length / 2) := by
      rw [hful]
      exact qI_shr1 _ (by omega)
    refine tq_Jx4a65c_grow_92f84 ⟨A.kl, g3 A.va ⟨ark (by omega), br_t ?_ ?_⟩⟩
    · rw [hful]; exact nI_lt hpos (by omega)
    · rw [em, esh, hful]
      refine c_newLen (by omega) (by decide) (by omega) (Or.inl (by decide)) (fun _ => ⟨A.kl, g3 A.va ⟨Nat.le_refl _, ?_⟩⟩)
      have hmx : max 1 (es.length / 2) ≤ 600 := Nat.max_le.mpr ⟨by decide, by omega⟩
      have hmx1 : 1 ≤ max 1 (es.length / 2) := Nat.le_max_left _ _
      refine tq_J7_copyOf_1904c ⟨z1, Nat.le_refl _, c_cpO (K := es.length) (N := es.length + max 1 (es.length / 2)) z1 hful (by omega) (by omega) hg ?_ ?_⟩
      · intro i y hi hy
        rw [z4 i hi] at hy
        cases hy
        refine A.el _ ?_
        rw [List.getD_eq_getElem?_getD, List.getElem?_eq_getElem hi]
        exact List.getElem_mem hi
      · intro q h' hcp f hlw _ _
        obtain ⟨q0, q1, q2, q3, q4⟩ := hcp
        have hlq : l ≠ q := ne_of_kd A.kz q1
        have kl : qkd h' l = 5 := (f.kd A.kz).trans A.kl
        refine ⟨⟨rfl, rfl⟩, kl, ?_⟩
        refine k q _ qsr_s ?_ ?_ q1 q0 q2 ?_ ?_ (fun i hi => ?_) (fun i hi => ?_) (FmQ.trans (S := [l]) (f.mono (fun n hn _ => absurd hn (by simp))) (FmQ.sr (a := l)) (fun n hn _ => hn)) (hlw.trans ((Oth.sr _ l 1 (some q)).lw h2))
        · exact f.i A.kz (by simp)
        · exact f.i A.kz (by simp)
        · show es.length < qln h' q
          rw [q3]; omega
        · show qln h' q ≤ 1800
          rw [q3]; omega
        · rw [qsr_a (Ne.symm hlq), q4, if_pos hi]; exact z4 i hi
        · rw [qsr_a (Ne.symm hlq), q4, if_neg (by omega)]
theorem AlQ.snoc (kl : qkd h' l = 5) (va : gr h' l 1 = some v') (sz : gi h' l 2 = nI (es.length + 1)) (hlen : es.length < 1200) (hel : ∀ x ∈ es, qkd h' x = g) (he : qkd h' e = g) (kv : qkd h' v' = 23) (hl : es.length < qln h' v') (hm : qln h' v' ≤ 1800) (hlo : ∀ i, i < es.length → gr h' v' i = some (es.getD i 0)) (hn : gr h' v' es.length = some e) (hhi : ∀ i, es.length + 1 ≤ i → gr h' v' i = none) : AlQ h' l v' (es ++ [e]) g := by
  have el : (es ++ [e]).length = es.length + 1 := by simp
  refine ⟨kl, va, by rw [el]; exact sz, by rw [el]; omega, fun x hx => ?_, Or.inr ⟨kv, ⟨by rw [el]; omega, by omega⟩, hm, fun i hi => ?_, fun i hi => hhi i (by rw [el] at hi; exact hi)⟩⟩
  · rcases List.mem_append.mp hx with hx | hx
    · exact hel x hx
    · rw [List.mem_singleton.mp hx]; exact he
  · rw [el] at hi
    rw [List.getD_eq_getElem?_getD]
    by_cases q : i < es.length
    · rw [List.getElem?_append_left q, ← List.getD_eq_getElem?_getD]
      exact hlo i q
    · have : i = es.length := by omega
      subst this
      rw [List.getElem?_append_right (Nat.le_refl _), Nat.sub_self]
      exact hn
theorem c_ladd3 (A : AlQ h l v es g) (hc : Kc h) (hg : g = 1 ∨ g = 16) (he : qkd h e = g) (hlen : es.length < 1200) (h2 : 2000 ≤ l) (h2v : v = 1402 ∨ 2000 ≤ v)
    (k : ∀ h' v', AlQ h' l v' (es ++ [e]) g → FmQ [l, v] h h' → Lw h h' → (v' = v ∨ qkd h v' = 0) → 2000 ≤ v' → Q (.inl none) h') : MetQ mq_Jx4a65c_add_72be8 [.ref l, .ref e, .ref v, .int (gi h l 2)] h Q := by
  obtain ⟨⟨d1, d2⟩, -⟩ := id hc
  have hez : ¬ qkd h e = 0 := by rcases hg with rfl | rfl <;> omega
  have hgz : g ≠ 0 := by rcases hg with rfl | rfl <;> decide
  have hge : qkd h e = 1 ∨ qkd h e = 16 := by rw [he]; exact hg
  have eN : (nI es.length).toNatClampNeg = es.length := nI_clamp (by omega)
  have hA := A.2.2.2.2.2
  have kv : ((16 ≤ qkd h v ∧ qkd h v ≤ 24) ∨ qkd h v = 48 ∨ qkd h v = 49 ∨ qkd h v = 55) := by
    rcases hA with ⟨rfl, -⟩ | ⟨z, -⟩ <;> omega
  have hlv : l ≠ v := fun q => by
    have := A.kl
    rw [q] at this
    rcases hA with ⟨rfl, -⟩ | ⟨z, -⟩ <;> omega
  refine tq_Jx4a65c_add_72be8 ⟨kv, fun hne => ?_, fun heq => ?_⟩
  · rw [A.sz] at hne ⊢
    rcases hA with ⟨rfl, z⟩ | ⟨z1, z2, z3, z4, z5⟩
    · exfalso; apply hne; rw [d2, z]; rfl
    · have hlt : es.length < qln h v := by
        rcases Nat.lt_or_ge es.length (qln h v) with q | q
        · exact q
        · exfalso; apply hne; exact congrArg nI (by omega)
      rw [eN]
      refine ⟨z1, hge, vp_in_nI hlt (by omega), A.kl, ?_⟩
      have h2v : 2000 ≤ v := by
        rcases h2v with q | q
        · exfalso; rw [q, d1] at z1; cases z1
        · exact q
      refine k _ v (AlQ.snoc A.kl ?_ ?_ hlen (fun x hx => A.el x hx) he z1 hlt z3 (fun i hi => ?_) ?_ (fun i hi => ?_)) (((FmQ.sr (a := v)).mono (fun n hn _ => List.mem_cons_of_mem _ hn)).trans (FmQ.si (a := l)) (fun n hn _ => by rw [List.mem_singleton.mp hn]; exact List.mem_cons_self)) (((Oth.sr h v es.length (some e)).lw h2v).trans ((Oth.si _ l 2 _).lw h2)) (Or.inl rfl) h2v
      · exact (qsr_a hlv).trans A.va
      · rw [qsi_s, nI_add]
      · exact (qsr_k (by omega)).trans (z4 i hi)
      · exact qsr_s
      · exact (qsr_k (by omega)).trans (z5 i (by omega))
  · have hful : es = [] ∨ qln h v = es.length := by
      rcases hA with ⟨-, z⟩ | ⟨z1, z2, z3, z4, z5⟩
      · exact Or.inl z
      · right
        rw [A.sz] at heq
        have := congrArg Int32.toNatClampNeg heq
        rw [eN, nI_clamp (by omega)] at this
        exact this.symm
    have hv0 : es = [] → v = 1402 := by
      intro z
      rcases hA with ⟨q, -⟩ | ⟨z1, z2, z3, z4, z5⟩
      · exact q
      · exfalso
        rw [A.sz] at heq
        have := congrArg Int32.toNatClampNeg heq
        rw [eN, nI_clamp (by omega), z] at this
        have : 0 = qln h v := this
        omega
    refine ⟨A.rc, Nat.le_refl _, tq_Jx4a65c_grow_d5877 ⟨A.kl, A.rc, Nat.le_refl _, c_grow A hc hg hlen hful h2 (fun q h1 a1 a2 a3 a4 a5 a6 a7 a8 a9 a10 f hlw _ _ => ?_) hv0⟩⟩
    have hlq : l ≠ q := ne_of_kd A.kz a4
    have e2 : gi h l 2 = nI es.length := A.sz
    rw [e2]
    have ke : qkd h1 e = g := (f.kd hez).trans he
    rw [eN]
    refine ⟨a6, by rw [ke]; exact hg, vp_in_nI a7 (by omega), (f.kd A.kz).trans A.kl, ?_⟩
    refine k _ q (AlQ.snoc ((f.kd A.kz).trans A.kl) ?_ ?_ hlen (fun x hx => ?_) ke a6 a7 a8 (fun i hi => ?_) ?_ (fun i hi => ?_)) (((f.mono (fun n hn _ => by rw [List.mem_singleton.mp hn]; exact List.mem_cons_self)).trans (FmQ.sr (a := q)) (fun n hn hz => absurd (List.mem_singleton.mp hn) (ne_of_kd hz a4))).trans (FmQ.si (a := l)) (fun n hn _ => by rw [List.mem_singleton.mp hn]; exact List.mem_cons_self)) ((hlw.trans ((Oth.sr _ q es.length (some e)).lw a5)).trans ((Oth.si _ l 2 _).lw h2)) (Or.inr a4) a5
    · exact (qsr_a hlq).trans a1
    · rw [qsi_s, nI_add]
    · have hxz : ¬ qkd h x = 0 := by rw [A.el x hx]; exact hgz
      exact (f.kd hxz).trans (A.el x hx)
    · exact (qsr_k (by omega)).trans (a9 i hi)
    · exact qsr_s
    · exact (qsr_k (by omega)).trans (a10 i (by omega))
theorem c_ladd (A : AlQ h l v es g) (hc : Kc h) (hg : g = 1 ∨ g = 16) (he : qkd h e = g) (hlen : es.length < 1200) (h2 : 2000 ≤ l) (h2v : v = 1402 ∨ 2000 ≤ v)
    (k : ∀ h' v', AlQ h' l v' (es ++ [e]) g → FmQ [l, v] h h' → Lw h h' → (v' = v ∨ qkd h v' = 0) → 2000 ≤ v' → Q (.inl (some (.int (nI 1)))) h') : MetQ mq_Jx4a65c_add_9ea2d [.ref l, .ref e] h Q := by
  have hlw1 : Lw h (si h l 0 (gi h l 0 + nI 1)) := (Oth.si h l 0 _).lw h2
  have hlv : l ≠ v := fun q => by
    have := A.kl
    rw [q] at this
    obtain ⟨⟨d1, -⟩, -⟩ := hc
    rcases A.2.2.2.2.2 with ⟨rfl, -⟩ | ⟨z, -⟩ <;> omega
  have A1 : AlQ (si h l 0 (gi h l 0 + nI 1)) l v es g := ⟨A.kl, A.va, (qsi_k (by decide)).trans A.sz, A.le, A.el, A.2.2.2.2.2⟩
  exact tq_Jx4a65c_add_9ea2d ⟨A.kl, A.kl, A.kl, g3 A.va ⟨A.kl, A.rc, Nat.le_refl _, c_ladd3 A1 (hc.md hlw1.md) hg he hlen h2 h2v (fun h' v' A2 f hlw hv' hv2 _ => ⟨Or.inr rfl, k h' v' A2 (((FmQ.si (a := l)).mono (fun n hn _ => by rw [List.mem_singleton.mp hn]; exact List.mem_cons_self)).trans f (fun n hn _ => hn)) (hlw1.trans hlw) hv' hv2⟩)⟩⟩
end
