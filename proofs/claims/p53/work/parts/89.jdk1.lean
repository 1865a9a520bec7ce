/-! ===== the law's heap: what stays, what is new ===== -/
theorem qsi_s {h : PH} {a k : Nat} {x : Int32} : gi (si h a k x) a k = x := up2_s _ _ _ _
theorem qsi_k {h : PH} {a k j : Nat} {x : Int32} (e : j ≠ k) : gi (si h a k x) a j = gi h a j := up2_k _ _ _ e
theorem qsi_a {h : PH} {a k b j : Nat} {x : Int32} (e : b ≠ a) : gi (si h a k x) b j = gi h b j := congrFun (up2_a _ _ _ e) j
theorem qsr_s {h : PH} {a k : Nat} {x : Option Nat} : gr (sr h a k x) a k = x := up2_s _ _ _ _
theorem qsr_k {h : PH} {a k j : Nat} {x : Option Nat} (e : j ≠ k) : gr (sr h a k x) a j = gr h a j := up2_k _ _ _ e
theorem qsr_a {h : PH} {a k b j : Nat} {x : Option Nat} (e : b ≠ a) : gr (sr h a k x) b j = gr h b j := congrFun (up2_a _ _ _ e) j
theorem qnw_i {h : PH} {q kd n j : Nat} : gi (nw h q kd n) q j = 0 := by show (if q = q then fun _ => 0 else h.1 q) j = 0; rw [if_pos rfl]
theorem qnw_r {h : PH} {q kd n j : Nat} : gr (nw h q kd n) q j = none := by show (if q = q then fun _ => none else h.2.2.1 q) j = none; rw [if_pos rfl]
theorem qnw_ia {h : PH} {q kd n b j : Nat} (e : b ≠ q) : gi (nw h q kd n) b j = gi h b j := congrFun (if_neg e) j
theorem qnw_ra {h : PH} {q kd n b j : Nat} (e : b ≠ q) : gr (nw h q kd n) b j = gr h b j := congrFun (if_neg e) j
theorem qnw_ka {h : PH} {q kd n b : Nat} (e : b ≠ q) : qkd (nw h q kd n) b = qkd h b := (Oth.nw h q kd n).kd e
theorem qnw_la {h : PH} {q kd n b : Nat} (e : b ≠ q) : qln (nw h q kd n) b = qln h b := by unfold qln; rw [((Oth.nw h q kd n) b e).2.2.2]
theorem ne_of_kd {h : PH} {a q : Nat} (ha : ¬ qkd h a = 0) (hq : qkd h q = 0) : a ≠ q := fun e => ha (by rw [e]; exact hq)
theorem qI_sub {a b : Nat} (h : b ≤ a) : nI a - nI b = nI (a - b) := by
  have e : nI a = nI (a - b) + nI b := by rw [nI_add]; exact congrArg nI (by omega)
  rw [e]
  exact Int32.add_sub_cancel _ _
theorem qI_shr1 : ∀ n, n < 1300 → (nI n) >>> ((nI 1) &&& 31) = nI (n / 2) := by decide +kernel
/-- kinds and lengths stay; all else too, but for the numbers of S -/
def FmQ (S : List Nat) (h h' : PH) : Prop := ∀ n, ¬ qkd h n = 0 → (qkd h' n = qkd h n ∧ qln h' n = qln h n) ∧ (n ∉ S → h'.1 n = h.1 n ∧ h'.2.1 n = h.2.1 n ∧ h'.2.2.1 n = h.2.2.1 n ∧ h'.2.2.2 n = h.2.2.2 n)
section
variable {h h1 h' : PH} {S T : List Nat} {n a b q k j kz0 m : Nat} {x : Int32} {rv : Option Nat}
theorem FmQ.refl (h : PH) : FmQ S h h := fun _ _ => ⟨⟨rfl, rfl⟩, fun _ => ⟨rfl, rfl, rfl, rfl⟩⟩
theorem FmQ.kd (f : FmQ S h h') (hn : ¬ qkd h n = 0) : qkd h' n = qkd h n := (f n hn).1.1
theorem FmQ.ln (f : FmQ S h h') (hn : ¬ qkd h n = 0) : qln h' n = qln h n := (f n hn).1.2
theorem FmQ.i (f : FmQ S h h') (hn : ¬ qkd h n = 0) (hS : n ∉ S) : gi h' n j = gi h n j := congrFun ((f n hn).2 hS).1 j
theorem FmQ.r (f : FmQ S h h') (hn : ¬ qkd h n = 0) (hS : n ∉ S) : gr h' n j = gr h n j := congrFun ((f n hn).2 hS).2.2.1 j
theorem FmQ.kz (f : FmQ S h h') (hn : ¬ qkd h n = 0) : ¬ qkd h' n = 0 := by rw [f.kd hn]; exact hn
theorem FmQ.trans (f : FmQ S h h1) (g : FmQ T h1 h') (hT : ∀ n ∈ T, ¬ qkd h n = 0 → n ∈ S) : FmQ S h h' := by
  intro n hn
  have f1 := f n hn
  have g1 := g n (f.kz hn)
  refine ⟨⟨g1.1.1.trans f1.1.1, g1.1.2.trans f1.1.2⟩, fun hS => ?_⟩
  have f2 := f1.2 hS
  have g2 := g1.2 (fun z => hS (hT n z hn))
  exact ⟨g2.1.trans f2.1, g2.2.1.trans f2.2.1, g2.2.2.1.trans f2.2.2.1, g2.2.2.2.trans f2.2.2.2⟩
theorem FmQ.mono (f : FmQ S h h') (hT : ∀ n ∈ S, ¬ qkd h n = 0 → n ∈ T) : FmQ T h h' := fun n hn => ⟨(f n hn).1, fun hS => (f n hn).2 (fun z => hS (hT n z hn))⟩
theorem FmQ.oth (o : Oth a h h') (hk : qkd h' a = qkd h a) (hl : qln h' a = qln h a) : FmQ [a] h h' := by
  intro n _
  by_cases e : n = a
  · subst e
    exact ⟨⟨hk, hl⟩, fun z => absurd (List.mem_singleton.mpr rfl) z⟩
  · exact ⟨⟨o.kd e, by unfold qln; rw [(o n e).2.2.2]⟩, fun _ => o n e⟩
theorem FmQ.si : FmQ [a] h (si h a k x) := FmQ.oth (Oth.si h a k x) rfl rfl
theorem FmQ.sr : FmQ [a] h (sr h a k rv) := FmQ.oth (Oth.sr h a k rv) rfl rfl
theorem FmQ.cpi {sp dp : Nat} : FmQ [b] h (cpi h a sp b dp m) := FmQ.oth (Oth.cpi h a sp b dp m) rfl rfl
theorem FmQ.cpr {sp dp : Nat} : FmQ [b] h (cpr h a sp b dp m) := FmQ.oth (Oth.cpr h a sp b dp m) rfl rfl
theorem FmQ.new (o : Oth q h h') (hq : qkd h q = 0) : FmQ S h h' := by
  intro n hn
  have e : n ≠ q := ne_of_kd hn hq
  exact ⟨⟨o.kd e, by unfold qln; rw [(o n e).2.2.2]⟩, fun _ => o n e⟩
theorem FmQ.nw (hq : qkd h q = 0) : FmQ S h (nw h q kz0 m) := FmQ.new (Oth.nw h q kz0 m) hq
theorem FmQ.cln (hq : qkd h q = 0) : FmQ S h (cln' h q a) := FmQ.new Oth.cln hq
theorem g3 {a j b : Nat} {P : Nat → Prop} {N : Prop} (e : gr h a j = some b) (p : P b) : (∀ x : Nat, gr h a j = some x → P x) ∧ (gr h a j = none → N) := ⟨fun x hx => by rw [e] at hx; cases hx; exact p, fun hn => by rw [e] at hn; cases hn⟩
theorem c10 {P N : Prop} (p : P) : ((1 : Int32) = 0 → N) ∧ (¬ (1 : Int32) = 0 → P) := ⟨fun z => absurd z (by decide), fun _ => p⟩
theorem ark (hk : qkd h n = 16 ∨ qkd h n = 17 ∨ qkd h n = 22 ∨ qkd h n = 23 ∨ qkd h n = 24 ∨ qkd h n = 48 ∨ qkd h n = 49 ∨ qkd h n = 55) : (16 ≤ qkd h n ∧ qkd h n ≤ 24) ∨ qkd h n = 48 ∨ qkd h n = 49 ∨ qkd h n = 55 := by omega
end
/-- a text of bytes below 128 -/
def Txt (bs : List Nat) : Prop := (∀ b ∈ bs, b < 128) ∧ bs.length < 1000
/-- the String s with the bytes v -/
def StrQ (h : PH) (s v : Nat) (bs : List Nat) : Prop := (qkd h s = 3 ∨ qkd h s = 35) ∧ gi h s 1 = 0 ∧ gr h s 0 = some v ∧ (qkd h v = 17 ∨ qkd h v = 49) ∧ qln h v = bs.length ∧ (∀ i, i < bs.length → gi h v i = nI (bs.getD i 0)) ∧ Txt bs
section
variable {h h1 h' : PH} {S T : List Nat} {s v : Nat} {bs : List Nat} {Q : Res → PH → Prop}
theorem StrQ.kd (x : StrQ h s v bs) : qkd h s = 3 ∨ qkd h s = 35 := x.1
theorem StrQ.co (x : StrQ h s v bs) : gi h s 1 = 0 := x.2.1
theorem StrQ.va (x : StrQ h s v bs) : gr h s 0 = some v := x.2.2.1
theorem StrQ.kv (x : StrQ h s v bs) : qkd h v = 17 ∨ qkd h v = 49 := x.2.2.2.1
theorem StrQ.ln (x : StrQ h s v bs) : qln h v = bs.length := x.2.2.2.2.1
theorem StrQ.by (x : StrQ h s v bs) : ∀ i, i < bs.length → gi h v i = nI (bs.getD i 0) := x.2.2.2.2.2.1
theorem StrQ.tx (x : StrQ h s v bs) : Txt bs := x.2.2.2.2.2.2
theorem StrQ.ks (x : StrQ h s v bs) : ¬ qkd h s = 0 := by have := x.kd; omega
theorem StrQ.kn (x : StrQ h s v bs) : ¬ qkd h v = 0 := by have := x.kv; omega
theorem StrQ.rc (x : StrQ h s v bs) : rcvQ h s 3 := x.kd.imp id (fun z => ⟨rfl, z⟩)
theorem StrQ.fm (x : StrQ h s v bs) (f : FmQ S h h') (hs : s ∉ S) (hv : v ∉ S) : StrQ h' s v bs :=
  ⟨by rw [f.kd x.ks]; exact x.kd, by rw [f.i x.ks hs]; exact x.co, by rw [f.r x.ks hs]; exact x.va, by rw [f.kd x.kn]; exact x.kv, by rw [f.ln x.kn]; exact x.ln, fun i hi => by rw [f.i x.kn hv]; exact x.by i hi, x.tx⟩
theorem shr0 (y : Int32) : y >>> ((0 : Int32) &&& 31) = y := by
  rw [show (0 : Int32) &&& 31 = 0 from rfl]
  simp
theorem shl0 (y : Int32) : y <<< ((0 : Int32) &&& 31) = y := by
  rw [show (0 : Int32) &&& 31 = 0 from rfl]
  simp
theorem c_coder (x : StrQ h s v bs) (k : Q (.inl (some (.int 0))) h) : MetQ mq_J0_coder_7d493 [.ref s] h Q :=
  tq_J0_coder_7d493 (c10 ⟨x.kd, by rw [x.co]; exact ⟨rfl, k⟩⟩)
theorem c_slen (x : StrQ h s v bs) (k : Q (.inl (some (.int (nI bs.length)))) h) : MetQ mq_J0_length_8abf5 [.ref s] h Q :=
  tq_J0_length_8abf5 ⟨x.kd, g3 x.va ⟨ark (by have := x.kv; omega), x.rc, c_coder x (fun _ => by rw [shr0, x.ln]; exact k)⟩⟩
theorem c_isL1 (x : StrQ h s v bs) (k : Q (.inl (some (.int (nI 1)))) h) : MetQ mq_J0_isLatin1_aae02 [.ref s] h Q :=
  tq_J0_isLatin1_aae02 (c10 ⟨x.kd, fun z => absurd x.co z, fun _ => ⟨Or.inr rfl, k⟩⟩)
theorem c_isEmp (x : StrQ h s v bs) (k0 : bs = [] → Q (.inl (some (.int (nI 1)))) h) (k1 : bs ≠ [] → Q (.inl (some (.int (nI 0)))) h) : MetQ mq_J0_isEmpty_aae02 [.ref s] h Q := by
  refine tq_J0_isEmpty_aae02 ⟨x.kd, g3 x.va ⟨ark (by have := x.kv; omega), ?_⟩⟩
  rw [x.ln]
  refine ⟨fun z => ⟨Or.inl rfl, k1 ?_⟩, fun z => ⟨Or.inr rfl, k0 ?_⟩⟩
  · intro e
    subst e
    exact z rfl
  · have hl : nI bs.length = nI 0 := z
    have h2 := x.tx.2
    have := congrArg Int32.toNatClampNeg hl
    rw [nI_clamp (by omega), nI_clamp (by omega)] at this
    exact List.eq_nil_of_length_eq_zero this
end
