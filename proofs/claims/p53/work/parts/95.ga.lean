/-! ===== the law's World while it grows: its loops ===== -/
section
variable {h h' h0 h1 h2 hB : PH} {w k v j t b tv at1 a d n i L A m c lo ic kt p q t0 : Nat} {W : WN} {s s' s0 sw u : RW} {Q : Res → PH → Prop} {x y z : Int32} {bs cs : List Nat} {S T : List Nat} {nm nm0 : Nat → Int64} {td : Nat → Bool} {hb : Bool}
theorem GU.up {L2 A2 : Nat} (hL : L ≤ L2) (hA : A ≤ A2) (G : GU s0 nm0 w t b h s L A kt) : GU s0 nm0 w t b h s L2 A2 kt := by
  obtain ⟨td, ⟨W, nm, bs, q9, at1, x1, x2, ⟨x3, x4⟩, ⟨x5, x6⟩, x7⟩, x8⟩ := G
  exact ⟨td, ⟨W, nm, bs, q9, at1, x1, x2, ⟨x3, by omega⟩, ⟨x5, by omega⟩, x7⟩, x8⟩
theorem GU.pr (G : GU s0 nm0 w t b h s L A kt) : PR s := by
  obtain ⟨td, ⟨W, nm, bs, q9, at1, x1, x2, x3, x4, x5, x6, x7, x8, x9⟩, -⟩ := G
  exact x8
theorem GU.wo (G : GU s0 nm0 w t b h s L A kt) : ∃ W, WO h w W s := by
  obtain ⟨td, ⟨W, nm, bs, q9, at1, x1, -⟩, -⟩ := G
  exact ⟨W, x1⟩
theorem le_c {c k a m b : Nat} (h : c + a * (k + 1) ≤ m) (hm : m ≤ b) : c + a ≤ b := by
  rw [Nat.mul_succ] at h
  omega
theorem nI_dn (k : Nat) : nI (k + 1) + -(nI 1) = nI k := by rw [m1_eq, pk_m1]
/-- what is wanted of the end -/
def KG (s0 : RW) (nm0 : Nat → Int64) (w : Nat) (Q : Res → PH → Prop) : Prop := ∀ h' s', GrF s0 nm0 w h' s' → 0 < nn (s' 0) → nn (s' 2) ≤ 6 → 1 ≤ nn (s' 5) → Q (.inl (some (.ref w))) h'
/-- what holds of a row ahead of its waves -/
def RwA (u : RW) : Prop := nn (u 1) ≤ 3 ∧ nn (u 3) = 0 ∧ (∀ q, q < nn (u 1) → u (44 + q) = -1) ∧ 2 ≤ nn (u 0) ∧ 1 ≤ nn (u 5)
theorem g_373 (K : KG s0 nm0 w Q) : ∀ k c u h L A, c + 1119 * k ≤ 35500 → L + 11 * k ≤ 460 → A + 2 * k ≤ 700 → GU s0 nm0 w t b h u L A 7 → RwA u → nn (u 4) + k ≤ 10 → nn (u 2) ≤ 6 → Bt mq_X13_grown Q 373 c [none, some (.ref w), some (.ref t), some (.int (nI k)), none] [] h := by
  intro k
  induction k with
  | zero =>
    intro c u h L A hc hL hA G R h4 h2
    obtain ⟨r1, r3, r44, r0, r5⟩ := R
    refine sq_X13_grown_373 ⟨fun _ => ?_, fun z => absurd (by decide) z⟩
    exact g_390 (s := u) r1 (c0 := c) (L0 := L) (A0 := A) (by omega) (by omega) (by omega) (fun h' s' g e0 e2 e5 => K h' s' g (by rw [e0]; omega) (by rw [e2]; exact h2) (by rw [e5]; exact r5)) (nn (u 1)) 0 c u h (by omega) (by omega) (G.up (by omega) (by omega)) rfl rfl rfl rfl (by omega) (fun q _ hq => r44 q hq)
  | succ k ih =>
    intro c u h L A hc hL hA G R h4 h2
    obtain ⟨W, X⟩ := G.wo
    have hc1 : c + 1119 ≤ 40000 := le_c hc (by decide)
    refine sq_X13_grown_373 ⟨fun z => absurd z (nI_nle (by omega) (by omega)), fun _ => ⟨X.rc, hc1, g_link G (by omega) (by omega) (by omega) (fun h1 G1 _ => ?_) (fun h1 a d G1 P1 e4 _ => ?_)⟩⟩
    · rw [nI_dn]
      exact ih (c + 1119) u h1 (L + 11) (A + 2) (by omega) (by omega) (by omega) (G1.up (by omega) (by omega)) R (by omega) h2
    · rw [nI_dn]
      obtain ⟨r1, r3, r44, r0, r5⟩ := R
      have lo : ∀ i, i < 49 → i ≠ 4 → lnkS u a d i = u i := fun i h1 h2 => lnk_lo h1 h2
      refine ih (c + 1119) _ h1 (L + 11) (A + 2) (by omega) (by omega) (by omega) G1 ⟨by rw [lo 1 (by decide) (by decide)]; exact r1, by rw [lo 3 (by decide) (by decide)]; exact r3, fun q hq => ?_, by rw [lo 0 (by decide) (by decide)]; exact r0, by rw [lo 5 (by decide) (by decide)]; exact r5⟩ (by omega) (by rw [lo 2 (by decide) (by decide)]; exact h2)
      rw [lo 1 (by decide) (by decide)] at hq
      rw [lo _ (by omega) (by omega)]; exact r44 q hq
theorem g_352 (K : KG s0 nm0 w Q) : ∀ k c u h L A, c + 1900 * k ≤ 33200 → L + 21 * k ≤ 438 → A + 3 * k ≤ 690 → GU s0 nm0 w t b h u L A 7 → RwA u → 0 < nn (u 1) → nn (u 4) = 0 → nn (u 2) + k ≤ 6 → Bt mq_X13_grown Q 352 c [none, some (.ref w), some (.ref t), some (.int (nI k)), none] [] h := by
  intro k
  induction k with
  | zero =>
    intro c u h L A hc hL hA G R hp h4 h2
    obtain ⟨td, ⟨W, nm, bs, q9, at1, X, ⟨hes, J, F⟩, ⟨T, hbs⟩, ⟨N, hat⟩, hc0, hR, hN, P, hG⟩, htd⟩ := G
    refine sq_X13_grown_352 ⟨fun _ => ⟨X.rc, c_next1 N X.kw X.i.1.2 (by omega) (by decide) (by decide) (fun r h1 hr g1 f1 _ => ?_)⟩, fun z => absurd (by decide) z⟩
    exact g_373 K r c u h1 L (A + 1) (by omega) (by omega) (by omega) ⟨td, ⟨W, nm, bs, q9, at1 + 1, X.gf g1, ⟨hes, J, F.gf X g1⟩, ⟨T.nx X.kw f1, hbs⟩, ⟨N.gf g1, by omega⟩, hc0.md g1.md, hR, hN, P, hG⟩, htd⟩ R (by omega) (by omega)
  | succ k ih =>
    intro c u h L A hc hL hA G R hp h4 h2
    obtain ⟨W, X⟩ := G.wo
    obtain ⟨r1, r3, r44, r0, r5⟩ := id R
    have hc1 : c + 1900 ≤ 40000 := le_c hc (by decide)
    refine sq_X13_grown_352 ⟨fun z => absurd z (nI_nle (by omega) (by omega)), fun _ => ⟨X.rc, hc1, g_member G (by omega) (by omega) r0 hp (by omega) (fun h1 G1 _ => ?_) (fun h1 p v hb G1 P1 _ => ?_)⟩⟩
    · rw [nI_dn]
      exact ih (c + 1900) u h1 (L + 21) (A + 3) (by omega) (by omega) (by omega) (G1.up (by omega) (by omega)) R hp h4 (by omega)
    · rw [nI_dn]
      have lo : ∀ i, i < 49 → i ≠ 2 → memS u p v hb i = u i := fun i h1 h2 => mem_lo h1 h2
      have e2 := mem_2 (p := p) (v := v) (hb := hb) G.pr
      refine ih (c + 1900) _ h1 (L + 21) (A + 3) (by omega) (by omega) (by omega) G1 ⟨by rw [lo 1 (by decide) (by decide)]; exact r1, by rw [lo 3 (by decide) (by decide)]; exact r3, fun q hq => ?_, by rw [lo 0 (by decide) (by decide)]; exact r0, by rw [lo 5 (by decide) (by decide)]; exact r5⟩ (by rw [lo 1 (by decide) (by decide)]; exact hp) (by rw [lo 4 (by decide) (by decide)]; exact h4) (by rw [e2.2]; omega)
      rw [lo 1 (by decide) (by decide)] at hq
      rw [lo _ (by omega) (by omega)]; exact r44 q hq
/-- as far as grown, with the World's own numbers of versions or of places ahead of the text -/
def GV (s0 : RW) (nm0 : Nat → Int64) (w t b : Nat) (h : PH) (k V : Nat) (s : RW) (L A kt : Nat) : Prop := ∃ td, GS s0 nm0 w t b h (ups s k (nI V)) s td L A ∧ ∀ j, kt ≤ j → td j = false
theorem ups_id (e : s k = x) : ups s k x = s := by
  funext i
  unfold ups
  split
  · rename_i q; rw [q]; exact e.symm
  · rfl
theorem ups_ov (e : ∀ i, i ≠ k → u i = s i) : ups u k x = ups s k x := by
  funext i
  unfold ups
  split
  · rfl
  · rename_i q; exact e i q
theorem g_309 (K : KG s0 nm0 w Q) (hP : 1 ≤ v ∧ v ≤ 3) : ∀ n p c u h L A, p + n = v → c + 610 * n ≤ 21800 → L + 9 * n ≤ 312 → A + 1 ≤ 600 → GV s0 nm0 w t b h 1 v u L A 7 → nn (u 1) = p → nn (u 3) = 0 → (∀ q, q < 5 → u (44 + q) = -1) → 2 ≤ nn (u 0) → nn (u 4) = 0 → nn (u 2) = 0 → 1 ≤ nn (u 5) → Bt mq_X13_grown Q 309 c [none, some (.ref w), some (.ref t), some (.int (nI p)), none] [] h := by
  intro n
  induction n with
  | zero =>
    intro p c u h L A hp hc hL hA G e1 e3 e44 e0 e4 e2 e5
    obtain ⟨td, ⟨W, nm, bs, q9, at1, X, ⟨hes, J, F⟩, ⟨T, hbs⟩, ⟨N, hat⟩, hc0, hR, hN, P, hG⟩, htd⟩ := G
    have ep : p = v := by omega
    have eu : u 1 = nI v := by rw [P.x.1.1, e1, ep]
    rw [ups_id eu] at X F
    refine sq_X13_grown_309 ⟨X.kw, ?_⟩
    rw [show gi h w 16 = nI v from X.i.2.1.2.2.2.2.2.2.2.2.2.1.trans eu]
    refine ⟨fun _ => ⟨X.rc, c_next1 N X.kw X.i.1.2 (by omega) (by decide) (by decide) (fun r h1 hr g1 f1 _ => ?_)⟩, fun z => absurd (nI_le (a := v) (b := p) (by omega) (by omega)) z⟩
    rw [nI_add]
    exact g_352 K (2 + r) c u h1 L (A + 1) (by omega) (by omega) (by omega) ⟨td, ⟨W, nm, bs, q9, at1 + 1, X.gf g1, ⟨hes, J, F.gf X g1⟩, ⟨T.nx X.kw f1, hbs⟩, ⟨N.gf g1, by omega⟩, hc0.md g1.md, hR, hN, P, hG⟩, htd⟩ ⟨by omega, e3, fun q hq => e44 q (by omega), e0, e5⟩ (by omega) e4 (by omega)
  | succ n ih =>
    intro p c u h L A hp hc hL hA G e1 e3 e44 e0 e4 e2 e5
    obtain ⟨td, ⟨W, nm, bs, q9, at1, X, ⟨hes, J, F⟩, ⟨T, hbs⟩, ⟨N, hat⟩, hc0, hR, hN, P, hG⟩, htd⟩ := G
    have hv8 := P.v.1.2
    have h5 : nn (u 1) < 5 := by omega
    refine sq_X13_grown_309 ⟨X.kw, ?_⟩
    rw [show gi h w 16 = nI v from X.i.2.1.2.2.2.2.2.2.2.2.2.1.trans ups_s]
    have hc4 : c + 610 ≤ 40000 := le_c hc (by decide)
    have hc1 : c + 101 ≤ 40000 := Nat.le_trans (Nat.add_le_add_left (by decide) c) hc4
    have hc2 : c + 101 + 307 ≤ 40000 := Nat.le_trans (Nat.add_le_add_left (n := 101 + 307) (m := 610) (by decide) c) hc4
    have hc3 : c + 101 + 307 + 101 ≤ 40000 := Nat.le_trans (Nat.add_le_add_left (n := 101 + 307 + 101) (m := 610) (by decide) c) hc4
    refine ⟨fun z => absurd z (nI_ge (by omega) (by omega)), fun _ => ⟨T.rc, hc1, c_gC 9 (by decide) T X.kw hc0 (by simp only [List.length_append, List.length_cons, List.length_nil, sl0, sl1, sl2, sl3, sl4, sl5, sl6, sl7, sl8, sl9, sl10, sl11, sl12, sl13, sl14, sl15, sl16, sl17, sl18, sl19]; omega) (fun h2 T2 g2 _ => ⟨hc2, c_gN 10 (by decide) rfl T2 (X.gf g2).kw (hc0.md g2.md) (by omega) (by simp only [List.length_append, List.length_cons, List.length_nil, sl0, sl1, sl2, sl3, sl4, sl5, sl6, sl7, sl8, sl9, sl10, sl11, sl12, sl13, sl14, sl15, sl16, sl17, sl18, sl19]; omega) hc3 (fun h3 T3 g3' => ⟨T3.rc, hc4, ?_⟩)⟩)⟩⟩
    have g13 := g2.trans g3'
    refine c_gC 2 (by decide) T3 (X.gf g13).kw (hc0.md g13.md) (by simp only [List.length_append, List.length_cons, List.length_nil, sl0, sl1, sl2, sl3, sl4, sl5, sl6, sl7, sl8, sl9, sl10, sl11, sl12, sl13, sl14, sl15, sl16, sl17, sl18, sl19]; omega) (fun h4 T4 g4 _ => ?_)
    have g14 := g13.trans g4
    rw [nI_add]
    have e1' : nn (plaS u 1) = nn (u 1) + 1 := by
      have := P.x.1.sc (by omega)
      show nn (ups u 1 (u 1 + nI 1) 1) = _
      rw [ups_s]; exact this.2
    have lo : ∀ i, i ≠ 1 → plaS u i = u i := fun i hi => ups_n hi
    have eov : ups (plaS u) 1 (nI v) = ups u 1 (nI v) := ups_ov lo
    refine ih (p + 1) _ (plaS u) h4 (L + 9) A (by omega) (by omega) (by omega) hA ⟨td, ⟨W, _, bs ++ (kwL 2 ++ [32, 112, 97 + nn (u 1), 59]), q9 + 1, at1 + (0 + 0 + 0), by rw [eov]; exact X.gf g14, ⟨hes, J, by rw [eov]; exact F.gf X g14⟩, ⟨?_, ?_⟩, ⟨N.gf g14, by omega⟩, hc0.md g14.md, hR.app (kw_pos (by decide)).1 (kw_pos (by decide)).2 (p_pla hN h5), hN.pla hv8 h5 (lo 0 (by decide)) e1' (lo 2 (by decide)), P.pla h5, Good.zero (by rw [lo 2 (by decide)]; exact e2)⟩, htd⟩ (by rw [e1']; omega) (by rw [lo 3 (by decide)]; exact e3) (fun q hq => by rw [lo _ (by omega)]; exact e44 q hq) (by rw [lo 0 (by decide)]; exact e0) (by rw [lo 4 (by decide)]; exact e4) (by rw [lo 2 (by decide)]; exact e2) (by rw [lo 5 (by decide)]; exact e5)
    · simp only [List.append_assoc] at T4
      rw [e1]
      exact T4
    · rw [List.length_append]
      show bs.length + 9 ≤ _
      omega
end
