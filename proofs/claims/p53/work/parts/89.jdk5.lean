/-! ===== the law's builders of text: what is appended ===== -/
section
variable {h h1 h' : PH} {S T : List Nat} {t v v' s w b q n m K N : Nat} {bs cs : List Nat} {Q : Res → PH → Prop} {x y : Int32}
/-- more text, in the same bytes -/
theorem SbQ.more (B : SbQ h t v bs) (hlen : bs.length + cs.length ≤ 600) (hr : bs.length + cs.length ≤ qln h v) (hcs : ∀ c ∈ cs, c < 128) (kt : qkd h' t = 4) (va : gr h' t 0 = some v) (co : gi h' t 1 = 0) (ct : gi h' t 3 = nI (bs.length + cs.length)) (kv : qkd h' v = 17) (ln : qln h' v = qln h v) (hi : ∀ i, gi h' v i = if bs.length ≤ i ∧ i < bs.length + cs.length then nI (cs.getD (i - bs.length) 0) else gi h v i) : SbQ h' t v (bs ++ cs) := by
  have el : (bs ++ cs).length = bs.length + cs.length := by simp
  refine ⟨kt, va, co, by rw [el]; exact ct, kv, by rw [el, ln]; exact hr, by rw [ln]; exact B.mx, fun i hil => ?_, fun i hil => ?_, fun c hc => ?_, by rw [el]; exact hlen⟩
  · rw [el] at hil
    have e1 : (bs ++ cs).getD i 0 = if i < bs.length then bs.getD i 0 else cs.getD (i - bs.length) 0 := by
      rw [List.getD_eq_getElem?_getD]
      split
      · rename_i z; rw [List.getElem?_append_left z, ← List.getD_eq_getElem?_getD]
      · rename_i z; rw [List.getElem?_append_right (by omega), ← List.getD_eq_getElem?_getD]
    rw [hi, e1]
    by_cases z : i < bs.length
    · rw [if_neg (by omega), if_pos z]
      exact B.by i z
    · rw [if_pos (by omega), if_neg z]
  · rw [ln] at hil
    rw [hi]
    split
    · refine fitB _ ?_
      rename_i z
      rw [List.getD_eq_getElem?_getD, List.getElem?_eq_getElem (by omega)]
      exact hcs _ (List.getElem_mem _)
    · exact B.ft i hil
  · rcases List.mem_append.mp hc with hc | hc
    · exact B.tx c hc
    · exact hcs c hc
theorem c_getB (X : StrQ h s w cs) (hb : qkd h v = 17) (hr : n + cs.length ≤ qln h v) (hn : n ≤ 600) (k : Q (.inl none) (cpi h w 0 v n cs.length)) : MetQ mq_J0_getBytes_840e7 [.ref s, .ref v, .int (nI n), .int 0] h Q := by
  have hx := X.tx.2
  have e0 : (nI 0).toNatClampNeg = 0 := nI_clamp (by decide)
  have eN : (nI n).toNatClampNeg = n := nI_clamp (by omega)
  have eC : (nI cs.length).toNatClampNeg = cs.length := nI_clamp (by omega)
  refine tq_J0_getBytes_840e7 ⟨X.rc, c_coder X (fun _ => ⟨fun z => absurd rfl z, fun _ => ⟨X.kd, g3 X.va ⟨X.kd, g3 X.va ⟨ark (by have := X.kv; omega), ⟨X.kv, hb⟩, ?_⟩⟩⟩⟩)⟩
  rw [X.ln, shl0, e0, eN, eC]
  refine ⟨⟨nI_pos (by decide), nI_pos (by omega), nI_pos (by omega), by omega, by omega⟩, fun i hi => ?_, k⟩
  rw [Nat.zero_add, X.by i hi]
  refine fitB _ ?_
  rw [List.getD_eq_getElem?_getD, List.getElem?_eq_getElem hi]
  exact X.tx.1 _ (List.getElem_mem _)
theorem cpi_get {b a sp dp i : Nat} : gi (cpi h a sp b dp m) b i = if dp ≤ i ∧ i < dp + m then gi h a (sp + (i - dp)) else gi h b i := by
  show (if b = b then va_cpy (h.1 a) (h.1 b) sp dp m else h.1 b) i = _
  rw [if_pos rfl]
  rfl
theorem cpi_o {b a sp dp c j : Nat} (e : c ≠ b) : gi (cpi h a sp b dp m) c j = gi h c j := congrFun (if_neg e) j
theorem c_puts (B : SbQ h t v bs) (X : StrQ h s w cs) (hr : bs.length + cs.length ≤ qln h v) (k : Q (.inl none) (cpi h w 0 v bs.length cs.length)) : MetQ mq_J5_putStringAt_47b60 [.ref t, .int (nI bs.length), .ref s] h Q := by
  have hsz := B.sz
  refine tq_J5_putStringAt_47b60 ⟨B.rc, tq_J5_inflateIfNeededFor_a7421 (c10 ⟨B.kt, X.rc, c_coder X (fun _ => ⟨fun _ => fun _ => ⟨B.kt, g3 B.va ⟨B.kt, X.rc, ?_⟩⟩, fun z => absurd B.co z⟩)⟩)⟩
  rw [B.co]
  exact c_getB X B.kv hr hsz (fun _ => k)
/-- what an append gives back -/
def ApQ (t v : Nat) (bs cs : List Nat) (h : PH) (Q : Res → PH → Prop) : Prop := ∀ h' v', SbQ h' t v' (bs ++ cs) → FmQ [t, v] h h' → Lw h h' → (v' = v ∨ (qkd h v' = 0 ∧ 2000 ≤ v')) → Q (.inl (some (.ref t))) h'
theorem c_app5 (B : SbQ h t v bs) (X : StrQ h s w cs) (hwv : w ≠ v) (hst : s ≠ t) (hlen : bs.length + cs.length ≤ 600) (h2 : 2000 ≤ t) (h2v : 2000 ≤ v) (k : ApQ t v bs cs h Q) : MetQ mq_J5_append_cf1ce [.ref t, .ref s] h Q := by
  refine tq_J5_append_cf1ce ⟨X.rc, c_slen X (fun _ => ⟨B.kt, B.rc, Nat.le_refl _, ?_⟩)⟩
  rw [B.ct, nI_add]
  refine c_room B hlen h2 (fun h1 v1 B1 hr f hlw hv1 _ => ⟨B1.kt, B1.rc, ?_⟩)
  rw [B1.ct]
  have hwt : w ≠ t := fun e => by have := X.kv; rw [e, B.kt] at this; omega
  have X1 : StrQ h1 s w cs := X.fm f (by simp [hst]) (by simp [hwt])
  have hw1 : w ≠ v1 := by
    rcases hv1 with z | z
    · rw [z]; exact hwv
    · exact ne_of_kd X.kn z.1
  have h2v1 : 2000 ≤ v1 := by
    rcases hv1 with z | z
    · rw [z]; exact h2v
    · exact z.2
  refine c_puts B1 X1 hr (fun _ => ⟨?_, ?_, ?_⟩)
  · exact B1.kt
  · exact B1.kt
  · have e3 : gi (cpi h1 w 0 v1 bs.length cs.length) t 3 = nI bs.length := (cpi_o B1.tv).trans B1.ct
    rw [e3, nI_add]
    refine k _ v1 (B1.more hlen hr (fun c hc => X.tx.1 c hc) B1.kt B1.va ?_ ?_ B1.kv rfl (fun i => ?_)) ?_ ((hlw.trans ((Oth.cpi h1 w 0 v1 bs.length cs.length).lw h2v1)).trans ((Oth.si _ t 3 _).lw h2)) hv1
    · rw [qsi_k (by decide), cpi_o B1.tv]; exact B1.co
    · exact qsi_s
    · rw [qsi_a (Ne.symm B1.tv), cpi_get]
      split
      · rename_i z
        rw [Nat.zero_add]
        exact X1.by _ (by omega)
      · rfl
    · refine ((f.mono (fun n hn _ => by rw [List.mem_singleton.mp hn]; exact List.mem_cons_self)).trans (FmQ.cpi (b := v1)) (fun n hn hz => ?_)).trans (FmQ.si (a := t)) (fun n hn _ => by rw [List.mem_singleton.mp hn]; exact List.mem_cons_self)
      rw [List.mem_singleton.mp hn] at hz ⊢
      rcases hv1 with z | z
      · rw [z]; simp
      · exact absurd z.1 hz
theorem c_appS (B : SbQ h t v bs) (X : StrQ h s w cs) (hwv : w ≠ v) (hlen : bs.length + cs.length ≤ 600) (h2 : 2000 ≤ t) (h2v : 2000 ≤ v) (k : ApQ t v bs cs h Q) : MetQ mq_J4_append_15ec4 [.ref t, .ref s] h Q :=
  tq_J4_append_15ec4 ⟨B.rc, Nat.le_refl _, c_app5 B X hwv (fun e => by have := X.kd; rw [e, B.kt] at this; omega) hlen h2 h2v (fun h' v' a b c d _ => k h' v' a b c d)⟩
/-- one byte -/
theorem SbQ.one (B : SbQ h t v bs) {c : Nat} (hc : c < 128) (hlen : bs.length + 1 ≤ 600) (hr : bs.length + 1 ≤ qln h v) (kt : qkd h' t = 4) (va : gr h' t 0 = some v) (co : gi h' t 1 = 0) (ct : gi h' t 3 = nI (bs.length + 1)) (kv : qkd h' v = 17) (ln : qln h' v = qln h v) (e1 : gi h' v bs.length = nI c) (hi : ∀ i, i ≠ bs.length → gi h' v i = gi h v i) : SbQ h' t v (bs ++ [c]) := by
  refine B.more (cs := [c]) hlen hr (fun d hd => by rw [List.mem_singleton.mp hd]; exact hc) kt va co ct kv ln (fun i => ?_)
  by_cases z : i = bs.length
  · subst z
    rw [if_pos ⟨Nat.le_refl _, Nat.lt_succ_self _⟩, e1, Nat.sub_self]
    rfl
  · rw [if_neg (fun w => z (by have := w.2; simp at this; omega)), hi i z]
theorem c_appC {c : Nat} (B : SbQ h t v bs) (hc : c < 128) (hlen : bs.length + 1 ≤ 600) (h2 : 2000 ≤ t) (h2v : 2000 ≤ v) (k : ApQ t v bs [c] h Q) : MetQ mq_J4_append_cf468 [.ref t, .int (nI c)] h Q := by
  refine tq_J4_append_cf468 ⟨B.rc, Nat.le_refl _, tq_J5_append_3fe6f ⟨B.kt, B.rc, Nat.le_refl _, ?_⟩⟩
  rw [B.ct, nI_add]
  refine c_room B hlen h2 (fun h1 v1 B1 hr f hlw hv1 _ => ⟨B1.rc, c_sbL1 B1 (fun _ => ⟨fun z => absurd z (by decide), fun _ => ?_⟩)⟩)
  refine tq_J1_canEncode_fc78d ⟨fun z => absurd ((nI_ltI (by decide) (by omega)).mp z) (by omega), fun _ => ⟨Or.inr rfl, fun _ => ⟨fun z => absurd z (by decide), fun _ => ⟨B1.kt, g3 B1.va ⟨B1.kt, ⟨rfl, rfl⟩, B1.kt, B1.kv, ?_, ?_⟩⟩⟩⟩⟩
  · rw [B1.ct]; exact vp_in_nI (show bs.length < qln h1 v1 by omega) (show qln h1 v1 < 2 ^ 31 by have := B1.mx; omega)
  · have hmx1 := B1.mx
    show Lw h (si (si h1 t 3 (gi h1 t 3 + nI 1)) v1 (gi h1 t 3).toNatClampNeg ((nI c).toInt8.toInt32).toInt8.toInt32) → Q (.inl (some (.ref t))) (si (si h1 t 3 (gi h1 t 3 + nI 1)) v1 (gi h1 t 3).toNatClampNeg ((nI c).toInt8.toInt32).toInt8.toInt32)
    intro _
    have eL : (nI bs.length).toNatClampNeg = bs.length := nI_clamp (by omega)
    rw [B1.ct, nI_add, eL, nb8 c hc, nb8 c hc]
    have h2v1 : 2000 ≤ v1 := by
      rcases hv1 with z | z
      · rw [z]; exact h2v
      · exact z.2
    refine k _ v1 (B1.one hc hlen hr B1.kt B1.va ?_ ?_ B1.kv rfl qsi_s (fun i hi => ?_)) ?_ ((hlw.trans ((Oth.si h1 t 3 _).lw h2)).trans ((Oth.si _ v1 bs.length _).lw h2v1)) hv1
    · rw [qsi_a B1.tv, qsi_k (by decide)]; exact B1.co
    · rw [qsi_a B1.tv]; exact qsi_s
    · rw [qsi_k hi, qsi_a (Ne.symm B1.tv)]
    · refine ((f.mono (fun n hn _ => by rw [List.mem_singleton.mp hn]; exact List.mem_cons_self)).trans (FmQ.si (a := t)) (fun n hn _ => by rw [List.mem_singleton.mp hn]; exact List.mem_cons_self)).trans (FmQ.si (a := v1)) (fun n hn hz => ?_)
      rw [List.mem_singleton.mp hn] at hz ⊢
      rcases hv1 with z | z
      · rw [z]; simp
      · exact absurd z.1 hz
end
