/-! ===== the law's lists ===== -/
/-- what the start's constants hold -/
def Kc (h : PH) : Prop := (qkd h 1402 = 55 ∧ qln h 1402 = 0) ∧ (qkd h 1400 = 49 ∧ qln h 1400 = 100 ∧ ∀ i, i < 100 → gi h 1400 i = nI (48 + i % 10)) ∧ (qkd h 1401 = 49 ∧ qln h 1401 = 100 ∧ ∀ i, i < 100 → gi h 1401 i = nI (48 + i / 10)) ∧ (∀ i, i < 20 → StrQ h (1200 + i) (1300 + i) (sQb.getD i []))
section
variable {h h1 h' : PH} {S T : List Nat} {l v v' t e g i cur : Nat} {es : List Nat} {Q : Res → PH → Prop} {x y : Int32}
theorem Md.gi (m : Md h h') {n j : Nat} (h1 : 1000 ≤ n) (h2 : n < 2000) : gi h' n j = gi h n j := congrFun (m n h1 h2).1 j
theorem Md.gr (m : Md h h') {n j : Nat} (h1 : 1000 ≤ n) (h2 : n < 2000) : gr h' n j = gr h n j := congrFun (m n h1 h2).2.2.1 j
theorem Md.ln (m : Md h h') {n : Nat} (h1 : 1000 ≤ n) (h2 : n < 2000) : qln h' n = qln h n := congrFun (m n h1 h2).2.2.2 1
theorem Kc.md (k : Kc h) (m : Md h h') : Kc h' := by
  obtain ⟨⟨a1, a2⟩, ⟨b1, b2, b3⟩, ⟨c1, c2, c3⟩, d⟩ := k
  refine ⟨⟨by rw [m.kd (by decide)]; exact a1, by rw [m.ln (by decide) (by decide)]; exact a2⟩, ⟨by rw [m.kd (by decide)]; exact b1, by rw [m.ln (by decide) (by decide)]; exact b2, fun i hi => by rw [m.gi (by decide) (by decide)]; exact b3 i hi⟩, ⟨by rw [m.kd (by decide)]; exact c1, by rw [m.ln (by decide) (by decide)]; exact c2, fun i hi => by rw [m.gi (by decide) (by decide)]; exact c3 i hi⟩, fun i hi => ?_⟩
  obtain ⟨e1, e2, e3, e4, e5, e6, e7⟩ := d i hi
  exact ⟨by rw [m.kd (by omega)]; exact e1, by rw [m.gi (by omega) (by omega)]; exact e2, by rw [m.gr (by omega) (by omega)]; exact e3, by rw [m.kd (by omega)]; exact e4, by rw [m.ln (by omega) (by omega)]; exact e5, fun j hj => by rw [m.gi (by omega) (by omega)]; exact e6 j hj, e7⟩
/-- the list l, its places v: the elements es, of kind g -/
def AlQ (h : PH) (l v : Nat) (es : List Nat) (g : Nat) : Prop :=
  qkd h l = 5 ∧ gr h l 1 = some v ∧ gi h l 2 = nI es.length ∧ es.length ≤ 1200 ∧ (∀ e ∈ es, qkd h e = g) ∧
  ((v = 1402 ∧ es = []) ∨ (qkd h v = 23 ∧ (es.length ≤ qln h v ∧ 1 ≤ qln h v) ∧ qln h v ≤ 1800 ∧ (∀ i, i < es.length → gr h v i = some (es.getD i 0)) ∧ ∀ i, es.length ≤ i → gr h v i = none))
theorem AlQ.kl (A : AlQ h l v es g) : qkd h l = 5 := A.1
theorem AlQ.va (A : AlQ h l v es g) : gr h l 1 = some v := A.2.1
theorem AlQ.sz (A : AlQ h l v es g) : gi h l 2 = nI es.length := A.2.2.1
theorem AlQ.le (A : AlQ h l v es g) : es.length ≤ 1200 := A.2.2.2.1
theorem AlQ.el (A : AlQ h l v es g) : ∀ e ∈ es, qkd h e = g := A.2.2.2.2.1
theorem AlQ.ar (A : AlQ h l v es g) (hn : es ≠ []) : qkd h v = 23 ∧ (es.length ≤ qln h v ∧ 1 ≤ qln h v) ∧ qln h v ≤ 1800 ∧ (∀ i, i < es.length → gr h v i = some (es.getD i 0)) ∧ ∀ i, es.length ≤ i → gr h v i = none := by
  rcases A.2.2.2.2.2 with ⟨-, z⟩ | z
  · exact absurd z hn
  · exact z
theorem AlQ.rc (A : AlQ h l v es g) : rcvQ h l 5 := Or.inl A.kl
theorem AlQ.kz (A : AlQ h l v es g) : ¬ qkd h l = 0 := by rw [A.kl]; decide
theorem AlQ.fm (A : AlQ h l v es g) (hg : g ≠ 0) (f : FmQ S h h') (m : Md h h') (hl : l ∉ S) (hv : v ∉ S) : AlQ h' l v es g := by
  refine ⟨by rw [f.kd A.kz]; exact A.kl, by rw [f.r A.kz hl]; exact A.va, by rw [f.i A.kz hl]; exact A.sz, A.le, fun e he => by rw [f.kd (by rw [A.el e he]; exact hg)]; exact A.el e he, ?_⟩
  rcases A.2.2.2.2.2 with z | ⟨z1, z2, z3, z4, z5⟩
  · exact Or.inl z
  · have hz : ¬ qkd h v = 0 := by rw [z1]; decide
    exact Or.inr ⟨by rw [f.kd hz]; exact z1, by rw [f.ln hz]; exact z2, by rw [f.ln hz]; exact z3, fun i hi => by rw [f.r hz hv]; exact z4 i hi, fun i hi => by rw [f.r hz hv]; exact z5 i hi⟩
theorem c_lsize (A : AlQ h l v es g) (k : Q (.inl (some (.int (nI es.length)))) h) : MetQ mq_Jx4a65c_size_8abf5 [.ref l] h Q :=
  tq_Jx4a65c_size_8abf5 ⟨A.kl, by rw [A.sz]; exact k⟩
theorem c_ck3n (h1 : ¬ x < 0) (h2 : x < y) (k : Q (.inl (some (.int x))) h) : MetQ mq_J3_checkIndex_8e157 [.int x, .int y, .null] h Q :=
  tq_J3_checkIndex_8e157_n (br_f h1 (br_t h2 k))
theorem c_ck3r (h1 : ¬ x < 0) (h2 : x < y) (k : Q (.inl (some (.int x))) h) : MetQ mq_J3_checkIndex_8e157 [.int x, .int y, .ref 1090] h Q :=
  tq_J3_checkIndex_8e157_r (br_f h1 (br_t h2 k))
theorem c_ck0 (h1 : ¬ x < 0) (h2 : x < y) (k : Q (.inl none) h) : MetQ mq_J0_checkIndex_df160 [.int x, .int y] h Q :=
  tq_J0_checkIndex_df160 ⟨c_ck3n h1 h2 (fun _ => k), c_ck3r h1 h2 (fun _ => k)⟩
theorem c_elem (A : AlQ h l v es g) (hi : i < es.length) (k : Q (.inl (some (.ref (es.getD i 0)))) h) : MetQ mq_Jx4a65c_elementData_915e3 [.ref l, .int (nI i)] h Q := by
  have hle := A.le
  obtain ⟨z1, z2, z3, z4, z5⟩ := A.ar (by intro e; subst e; cases hi)
  have e9 : (nI i).toNatClampNeg = i := nI_clamp (by omega)
  exact tq_Jx4a65c_elementData_915e3 ⟨A.kl, g3 A.va ⟨z1, vp_in_nI (by omega) (by omega), g3 (b := es.getD i 0) (by rw [e9]; exact z4 i hi) k⟩⟩
theorem c_get (A : AlQ h l v es g) (hi : i < es.length) (k : Q (.inl (some (.ref (es.getD i 0)))) h) : MetQ mq_Jx4a65c_get_915e3 [.ref l, .int (nI i)] h Q := by
  have hle := A.le
  exact tq_Jx4a65c_get_915e3 ⟨A.kl, tq_J15_checkIndex_7cf53 (c_ck3n (nI_pos (by omega)) (by rw [A.sz]; exact nI_lt hi (by omega)) (fun _ _ => ⟨A.rc, c_elem A hi (fun _ => k)⟩))⟩
/-- an iterator t of the list l, cur elements on -/
def ItQ (h : PH) (t l cur : Nat) : Prop := qkd h t = 6 ∧ gi h t 0 = nI cur ∧ gi h t 2 = gi h l 0 ∧ gr h t 3 = some l
theorem ItQ.kt (I : ItQ h t l cur) : qkd h t = 6 := I.1
theorem ItQ.kz (I : ItQ h t l cur) : ¬ qkd h t = 0 := by rw [I.kt]; decide
theorem ItQ.fm (I : ItQ h t l cur) (hk : ¬ qkd h l = 0) (f : FmQ S h h') (ht : t ∉ S) (hl : l ∉ S) : ItQ h' t l cur :=
  ⟨by rw [f.kd I.kz]; exact I.kt, by rw [f.i I.kz ht]; exact I.2.1, by rw [f.i I.kz ht, f.i hk hl]; exact I.2.2.1, by rw [f.r I.kz ht]; exact I.2.2.2⟩
theorem c_iter (A : AlQ h l v es g) (k : ∀ t h', 2000 ≤ t → qkd h t = 0 → ItQ h' t l 0 → FmQ [] h h' → Lw h h' → Q (.inl (some (.ref t))) h') : MetQ mq_Jx4a65c_iterator_32c93 [.ref l] h Q := by
  refine tq_Jx4a65c_iterator_32c93 ⟨by decide, fun q hq0 hq => ?_⟩
  have hne : l ≠ q := ne_of_kd A.kz hq
  have k0 : qkd (nw h q 6 0) q = 6 := qkd_nw (by omega)
  have kl : qkd (nw h q 6 0) l = 5 := (qnw_ka hne).trans A.kl
  refine tq_Jx35411_init_45d68 ⟨k0, k0, k0, g3 (b := l) ?_ ⟨kl, k0, ?_⟩⟩
  · exact qsr_s
  · intro h12 hlw
    have f : FmQ [] h (si (si (sr (nw h q 6 0) q 3 (some l)) q 1 (-(nI 1))) q 2 (gi (si (sr (nw h q 6 0) q 3 (some l)) q 1 (-(nI 1))) l 0)) :=
      (((FmQ.nw (S := []) hq).trans (FmQ.sr (a := q)) (fun n hn hz => absurd (List.mem_singleton.mp hn) (ne_of_kd hz hq))).trans (FmQ.si (a := q)) (fun n hn hz => absurd (List.mem_singleton.mp hn) (ne_of_kd hz hq))).trans (FmQ.si (a := q)) (fun n hn hz => absurd (List.mem_singleton.mp hn) (ne_of_kd hz hq))
    refine k q _ hq0 hq ⟨k0, ?_, ?_, ?_⟩ f (((Oth.nw h q 6 0).lw hq0).trans hlw)
    · rw [qsi_k (by decide), qsi_k (by decide)]
      exact qnw_i (h := h) (q := q) (kd := 6) (n := 0)
    · rw [qsi_s, qsi_a hne]
      exact ((qsi_a (h := si (sr (nw h q 6 0) q 3 (some l)) q 1 (-(nI 1))) (a := q) (k := 2) (j := 0) (x := gi (si (sr (nw h q 6 0) q 3 (some l)) q 1 (-(nI 1))) l 0) hne).trans (qsi_a hne)).symm
    · exact qsr_s
theorem c_hasNext (I : ItQ h t l cur) (A : AlQ h l v es g) (hc : cur ≤ es.length) (k1 : cur < es.length → Q (.inl (some (.int (nI 1)))) h) (k0 : cur = es.length → Q (.inl (some (.int (nI 0)))) h) : MetQ mq_Jx35411_hasNext_aae02 [.ref t] h Q := by
  have hle := A.le
  refine tq_Jx35411_hasNext_aae02 ⟨I.kt, I.kt, g3 I.2.2.2 ⟨A.kl, ?_⟩⟩
  rw [I.2.1, A.sz]
  refine ⟨fun z => ⟨Or.inl rfl, k0 ?_⟩, fun z => ⟨Or.inr rfl, k1 ?_⟩⟩
  · have := congrArg Int32.toNatClampNeg z
    rw [nI_clamp (by omega), nI_clamp (by omega)] at this
    exact this
  · rcases Nat.lt_or_eq_of_le hc with w | w
    · exact w
    · exact absurd (by rw [w]) z
theorem c_inext (I : ItQ h t l cur) (A : AlQ h l v es g) (hc : cur < es.length) (hg : g ≠ 0) (k : ∀ h', ItQ h' t l (cur + 1) → FmQ [t] h h' → Lw h h' → Q (.inl (some (.ref (es.getD cur 0)))) h') (h2 : 2000 ≤ t) : MetQ mq_Jx35411_next_0502b [.ref t] h Q := by
  have hle := A.le
  obtain ⟨z1, z2, z3, z4, z5⟩ := A.ar (by intro e; subst e; cases hc)
  have e9 : (nI cur).toNatClampNeg = cur := nI_clamp (by omega)
  have hlt : l ≠ t := fun e => by have := A.kl; have h6 := I.kt; rw [e, h6] at this; cases this
  refine tq_Jx35411_next_0502b ⟨Or.inl I.kt, tq_Jx35411_checkForComodification_da8c8 ⟨I.kt, g3 I.2.2.2 ⟨A.kl, I.kt, br_t I.2.2.1.symm (fun _ => ?_)⟩⟩⟩
  refine ⟨I.kt, I.kt, g3 I.2.2.2 ⟨A.kl, ?_⟩⟩
  rw [I.2.1, A.sz]
  refine br_t (nI_lt hc (by omega)) ⟨I.kt, g3 I.2.2.2 ⟨A.kl, g3 A.va ⟨ark (by omega), ?_⟩⟩⟩
  refine br_t (nI_lt (by omega) (by omega)) ⟨I.kt, ⟨rfl, rfl⟩, I.kt, z1, ?_, ?_⟩
  · exact vp_in_nI (show cur < qln h v by omega) (show qln h v < 2 ^ 31 by omega)
  · refine g3 (b := es.getD cur 0) ?_ ?_
    · rw [e9]; exact z4 cur hc
    · refine k _ ⟨I.kt, ?_, ?_, I.2.2.2⟩ ?_ ?_
      · rw [qsi_k (by decide), qsi_s, nI_add]
      · rw [qsi_k (by decide), qsi_k (by decide), qsi_a hlt, qsi_a hlt]
        exact I.2.2.1
      · exact (FmQ.si (a := t)).trans (FmQ.si (a := t)) (fun n hn _ => hn)
      · exact ((Oth.si h t 0 (nI cur + nI 1)).lw h2).trans ((Oth.si _ t 1 (nI cur)).lw h2)
end
