/-! ===== the law's cells by another map of addresses ===== -/
section
variable {ad ad' : Nat → Nat} {cA : Nat → ClassId} {g h : PH} {n j a w l v k L9 : Nat} {W : WN} {s s0 : RW} {nm0 : Nat → Int64} {bs es : List Nat} {L : List Nat} {xs : Nat → Int32} {Lx : Nat}
/-- ahead of 1000 the cells of g; references ahead of 1000 by their addresses -/
noncomputable def rmh (ad : Nat → Nat) (g h : PH) : PH := (fun n => if n < 1000 then g.1 n else h.1 n, fun n => if n < 1000 then g.2.1 n else h.2.1 n, fun n => if n < 1000 then g.2.2.1 n else fun j => (h.2.2.1 n j).map (fun a => if a < 1000 then uq (ad a) else a), fun n => if n < 1000 then g.2.2.2 n else h.2.2.2 n)
theorem rm_i (hn : 1000 ≤ n) : gi (rmh ad g h) n j = gi h n j := by
  show (if n < 1000 then g.1 n else h.1 n) j = _
  rw [if_neg (by omega)]; rfl
theorem rm_g (hn : 1000 ≤ n) : gl (rmh ad g h) n j = gl h n j := by
  show (if n < 1000 then g.2.1 n else h.2.1 n) j = _
  rw [if_neg (by omega)]; rfl
theorem rm_4 (hn : 1000 ≤ n) : (rmh ad g h).2.2.2 n = h.2.2.2 n := if_neg (by omega)
theorem rm_k : qkd (rmh ad g h) n = qkd h n := by
  unfold qkd
  cases y : Nat.blt n 1000
  · have hn : 1000 ≤ n := by
      rcases Nat.lt_or_ge n 1000 with q | q
      · rw [Nat.blt_eq.mpr q] at y; cases y
      · exact q
    show (rmh ad g h).2.2.2 n 0 = h.2.2.2 n 0
    rw [rm_4 hn]
  · rfl
theorem rm_l (hn : 1000 ≤ n) : qln (rmh ad g h) n = qln h n := by
  unfold qln
  rw [rm_4 hn]
theorem rm_r0 (hn : 1000 ≤ n) : gr (rmh ad g h) n j = (gr h n j).map (fun a => if a < 1000 then uq (ad a) else a) := by
  show (if n < 1000 then g.2.2.1 n else fun j => (h.2.2.1 n j).map (fun a => if a < 1000 then uq (ad a) else a)) j = _
  rw [if_neg (by omega)]; rfl
theorem rm_r (hn : 1000 ≤ n) (ha : 1000 ≤ a) (e : gr h n j = some a) : gr (rmh ad g h) n j = some a := by
  rw [rm_r0 hn, e]
  show some (if a < 1000 then uq (ad a) else a) = _
  rw [if_neg (by omega)]
theorem rm_n (hn : 1000 ≤ n) (e : gr h n j = none) : gr (rmh ad g h) n j = none := by
  rw [rm_r0 hn, e]; rfl
theorem k_hi {c : Nat} (e : qkd h n = c) (hc : c ≠ 0) : 1000 ≤ n := by
  rcases Nat.lt_or_ge n 1000 with q | q
  · exfalso
    apply hc
    rw [← e]
    unfold qkd
    rw [Nat.blt_eq.mpr q]
  · exact q
theorem AlQ.rm {c : Nat} (A : AlQ h l v es c) (hc : c ≠ 0) : AlQ (rmh ad g h) l v es c := by
  have hl := k_hi A.kl (by decide)
  have hv : 1000 ≤ v := by
    rcases A.2.2.2.2.2 with ⟨z, -⟩ | ⟨z, -⟩
    · omega
    · exact k_hi z (by decide)
  refine ⟨rm_k.trans A.kl, rm_r hl hv A.va, (rm_i hl).trans A.sz, A.le, fun e he => rm_k.trans (A.el e he), ?_⟩
  rcases A.2.2.2.2.2 with z | ⟨z1, z2, z3, z4, z5⟩
  · exact Or.inl z
  · refine Or.inr ⟨rm_k.trans z1, by rw [rm_l hv]; exact z2, by rw [rm_l hv]; exact z3, fun i hi => rm_r hv ?_ (z4 i hi), fun i hi => rm_n hv (z5 i hi)⟩
    have hm : es.getD i 0 ∈ es := by
      rw [List.getD_eq_getElem?_getD, List.getElem?_eq_getElem hi]
      exact List.getElem_mem hi
    exact k_hi (A.el _ hm) hc
theorem StrQ.rm (X : StrQ h a v bs) : StrQ (rmh ad g h) a v bs := by
  obtain ⟨x1, x2, x3, x4, x5, x6, x7⟩ := X
  have ha : 1000 ≤ a := by rcases x1 with z | z <;> exact k_hi z (by decide)
  have hv : 1000 ≤ v := by rcases x4 with z | z <;> exact k_hi z (by decide)
  exact ⟨by rw [rm_k]; exact x1, (rm_i ha).trans x2, rm_r ha hv x3, by rw [rm_k]; exact x4, (rm_l hv).trans x5, fun i hi => (rm_i hv).trans (x6 i hi), x7⟩
theorem WO.rm (X : WO h w W s) : WO (rmh ad g h) w W s := by
  have hw := k_hi X.kw (by decide)
  obtain ⟨r1, r2, r3, r4, r5, r6, r7⟩ := X.r
  obtain ⟨⟨a1, a2, a3⟩, ⟨b1, b2, b3⟩, ⟨c1, c2, c3⟩, ⟨d1, d2, d3⟩, ⟨e1, e2, e3⟩⟩ := X.a
  obtain ⟨m1, m2, m3, m4⟩ := X.m
  obtain ⟨n1, n2, n3⟩ := X.e
  have ha := k_hi a1 (by decide)
  have hb := k_hi b1 (by decide)
  have hc := k_hi c1 (by decide)
  have hd := k_hi d1 (by decide)
  have he := k_hi e1 (by decide)
  refine ⟨X.i.eq9 (fun j => rm_i hw) rm_k (fun i _ => rfl), ⟨rm_r hw ha r1, rm_r hw hb r2, rm_r hw hc r3, rm_r hw hd r4, rm_r hw he r5, rm_r hw (by omega) r6, rm_r hw (by omega) r7⟩, ⟨⟨rm_k.trans a1, (rm_l ha).trans a2, fun y hy => (rm_i ha).trans (a3 y hy)⟩, ⟨rm_k.trans b1, (rm_l hb).trans b2, fun y hy => (rm_i hb).trans (b3 y hy)⟩, ⟨rm_k.trans c1, (rm_l hc).trans c2, fun y hy => (rm_i hc).trans (c3 y hy)⟩, ⟨rm_k.trans d1, (rm_l hd).trans d2, fun y hy => ?_⟩, ⟨rm_k.trans e1, (rm_l he).trans e2, fun y hy => ?_⟩⟩, ⟨m1.rm (by decide), m2, m3, fun y hy => ⟨(m4 y hy).1, fun j hj => (rm_i (by have := (m4 y hy).1; omega)).trans ((m4 y hy).2 j hj)⟩⟩, ⟨n1.rm (by decide), n2, n3⟩⟩
  · obtain ⟨z1, z2, z3, z4⟩ := d3 y hy
    have hz := k_hi z2 (by decide)
    exact ⟨rm_r hd hz z1, rm_k.trans z2, (rm_l hz).trans z3, fun b hb ha => (rm_i hz).trans (z4 b hb ha)⟩
  · obtain ⟨z1, z2, z3, z4⟩ := e3 y hy
    have hz := k_hi z2 (by decide)
    exact ⟨rm_r he hz z1, rm_k.trans z2, (rm_l hz).trans z3, fun b hb ha => (rm_i hz).trans (z4 b hb ha)⟩
theorem Kc.rm (c : Kc h) : Kc (rmh ad g h) := by
  obtain ⟨⟨c1, c2⟩, ⟨d1, d2, d3⟩, ⟨e1, e2, e3⟩, c4⟩ := c
  exact ⟨⟨rm_k.trans c1, (rm_l (by decide)).trans c2⟩, ⟨rm_k.trans d1, (rm_l (by decide)).trans d2, fun i hi => (rm_i (by decide)).trans (d3 i hi)⟩, ⟨rm_k.trans e1, (rm_l (by decide)).trans e2, fun i hi => (rm_i (by decide)).trans (e3 i hi)⟩, fun i hi => (c4 i hi).rm⟩
theorem GrF.rm (G : GrF s0 nm0 w h s) : GrF s0 nm0 w (rmh ad g h) s := by
  obtain ⟨W, nm, bs, m, td, s9, w9, X, hes, r25, XS, hlen, hcc, R⟩ := G
  have h9 : 1000 ≤ s9 := by rcases XS.1 with z | z <;> exact k_hi z (by decide)
  exact ⟨W, nm, bs, m, td, s9, w9, X.rm, hes, rm_r (k_hi X.kw (by decide)) h9 r25, XS.rm, hlen, hcc.rm, R⟩
theorem rm_ad (hn : 1000 ≤ n) (h1 : ∀ a, 1000 ≤ a → ad' a = ad a) (h2 : ∀ a, 2000 ≤ a → ad' a = dq a) : (gr (rmh ad g h) n j).map ad' = (gr h n j).map ad := by
  rw [rm_r0 hn]
  cases gr h n j with
  | none => rfl
  | some a =>
    show some (ad' (if a < 1000 then uq (ad a) else a)) = some (ad a)
    by_cases c : a < 1000
    · rw [if_pos c, h2 _ (uq_ge _), dq_uq]
    · rw [if_neg c, h1 a (by omega)]
theorem fvq_rm {so : Nat} (hn : 1000 ≤ n) (h1 : ∀ a, 1000 ≤ a → ad' a = ad a) (h2 : ∀ a, 2000 ≤ a → ad' a = dq a) : fvq ad' (rmh ad g h) n so j = fvq ad h n so j := by
  unfold fvq
  split
  · rw [rm_i hn]
  · rw [rm_g hn]
  · rw [rm_ad hn h1 h2]
theorem aeq_rm {t : Nat} (hn : 1000 ≤ n) (h1 : ∀ a, 1000 ≤ a → ad' a = ad a) (h2 : ∀ a, 2000 ≤ a → ad' a = dq a) : aeq ad' (rmh ad g h) n t = aeq ad h n t := by
  have e : (fun j => ((rmh ad g h).2.2.1 n j).map ad') = fun j => (h.2.2.1 n j).map ad := funext fun j => rm_ad (j := j) hn h1 h2
  have e2 : (rmh ad g h).1 n = h.1 n := if_neg (by omega)
  unfold aeq
  split
  · rw [e]
  · rw [e]
  · rw [e2]
theorem cel_rm (hn : 1000 ≤ n) (h1 : ∀ a, 1000 ≤ a → ad' a = ad a) (h2 : ∀ a, 2000 ≤ a → ad' a = dq a) : celQ ad' cA (rmh ad g h) n = celQ ad cA h n := by
  unfold celQ
  rw [rm_k, rm_l hn, aeq_rm hn h1 h2]
  have e : fvqs ad' (rmh ad g h) n (qkd h n + 8) = fvqs ad h n (qkd h n + 8) := List.map_congr_left (fun j _ => fvq_rm hn h1 h2)
  rw [e]
theorem pq_rm (h1 : ∀ a, 1000 ≤ a → ad' a = ad a) (h2 : ∀ a, 2000 ≤ a → ad' a = dq a) : pq ad' cA (rmh ad g h) L = pq ad cA h L := by
  unfold pq
  congr 1
  funext a
  exact cel_rm (uq_hi a) h1 h2
theorem KdOk.rm (k : KdOk h L) : KdOk (rmh ad g h) L := fun n hn => by
  rw [rm_k] at hn ⊢
  exact k n hn
theorem md_rm (m : Md (hS xs Lx) h) : Md (hS xs Lx) (rmh ad g h) := fun a h1 h2 => by
  obtain ⟨e1, e2, e3, e4⟩ := m a h1 h2
  refine ⟨(if_neg (by omega) : (rmh ad g h).1 a = h.1 a).trans e1, (if_neg (by omega) : (rmh ad g h).2.1 a = h.2.1 a).trans e2, funext fun j => ?_, (rm_4 h1).trans e4⟩
  show gr (rmh ad g h) a j = hSr a j
  have e : gr h a j = hSr a j := congrFun e3 j
  by_cases c : 1200 ≤ a ∧ a < 1220
  · have e5 : hSr a j = some (a + 100) := if_pos c
    rw [e5] at e ⊢
    exact rm_r h1 (by omega) e
  · have e5 : hSr a j = none := if_neg c
    rw [e5] at e ⊢
    exact rm_n h1 e
end
