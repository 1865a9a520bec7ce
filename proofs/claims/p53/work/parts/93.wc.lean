/-! ===== the law's World: holding ===== -/
section
variable {h h' h0 : PH} {w k v g l j t c : Nat} {W : WN} {s s' : RW} {C E : Nat} {Q : Res → PH → Prop} {x y z : Int32} {es : List Nat}
def heldM (s : RW) (m : Nat) : Bool := !decide (mf s m 5 = 0)
theorem l_wHeld (X : WO h w W s) (ht0 : 2000 ≤ t) (htz : qkd h t = 0) (K : ∀ h', FmQ [] h h' → Lw h h' → Q (.inl (some (.int (nI (cnt (nn (s 2)) (heldM s)))))) h') : ∀ n cur (h1 : PH), cur + n = W.ms.length → ItQ h1 t (W.u 0) cur → FmQ [] h h1 → Lw h h1 → Bt mq_X13_hold Q 46 c [none, none, none, some (.int (nI (cnt cur (heldM s)))), some (.ref t), none] [] h1 := by
  have hl := X.m.2.1
  have hle := X.al.le
  intro n
  induction n with
  | zero =>
    intro cur h1 hc I f hlw
    have X1 := X.f0 f hlw.md
    refine sq_X13_hold_46 ⟨Or.inl I.kt, c_hasNext I X1.al (by omega) (fun z => by omega) (fun _ _ => ⟨fun _ => ?_, fun z => absurd rfl z⟩)⟩
    have : cur = nn (s 2) := by omega
    rw [this]
    exact K h1 f hlw
  | succ n ih =>
    intro cur h1 hc I f hlw
    have X1 := X.f0 f hlw.md
    have hcur : cur < W.ms.length := by omega
    refine sq_X13_hold_46 ⟨Or.inl I.kt, c_hasNext I X1.al (by omega) (fun _ _ => ⟨fun z => absurd z (by decide), fun _ => ⟨Or.inl I.kt, c_inext I X1.al hcur (by decide) (fun h2 I2 f2 hlw2 _ => ?_) ht0⟩⟩) (fun z => by omega)⟩
    have f3 : FmQ [] h h2 := f.trans f2 (fun n hn hz => absurd (List.mem_singleton.mp hn) (ne_of_kd hz htz))
    have hlw3 : Lw h h2 := hlw.trans hlw2
    have X2 := X.f0 f3 hlw3.md
    have km := X2.km hcur
    have e5 : gi h2 (W.ms.getD cur 0) 5 = mf s cur 5 := X2.f hcur (by decide)
    have go := ih (cur + 1) h2 (by omega) I2 f3 hlw3
    have ec : nI (cnt (cur + 1) (heldM s)) = nI (cnt cur (heldM s)) + b2i (heldM s cur) := by
      rw [nI_b2i]
      rfl
    rw [ec] at go
    refine ⟨km, km, ?_⟩
    rw [e5]
    refine ⟨fun z => ?_, fun z => ?_⟩
    · have : heldM s cur = false := by unfold heldM; rw [decide_eq_true z]; rfl
      rw [this] at go
      exact go
    · have : heldM s cur = true := by unfold heldM; rw [decide_eq_false z]; rfl
      rw [this] at go
      exact go
theorem c_wHold (X : WO h w W s) (h8 : nn (s 0) ≤ 8) (h5 : nn (s 1) ≤ 5) (hk : k < W.ms.length) (hx : isB x) (hc : Kc h) (hlen : W.es.length < 1200) (K : ∀ h' v9 q, WO h' w (W.ev v9 (W.es ++ [q])) (ups s (49 + 7 * k + 5) x) → FmQ [W.ms.getD k 0, W.u 2, W.u 3] h h' → Lw h h' → Q (.inl (some (.int (nI (cnt (nn (s 2)) (heldM (ups s (49 + 7 * k + 5) x))))))) h') : MetQ mq_X13_hold [.ref w, .int (nI k), .int x] h Q := by
  have hne : W.ms ≠ [] := fun e => by rw [e] at hk; cases hk
  obtain ⟨-, -, -, -, -, r6, -⟩ := X.r
  have km := X.km hk
  have hm2 := (X.m.2.2.2 k hk).1
  have X1 := X.mb (x := x) h8 h5 hk (j := 5) (by decide)
  have e2 : ups s (49 + 7 * k + 5) x 2 = s 2 := if_neg (by omega)
  have l1 : Lw h (si h (W.ms.getD k 0) 5 x) := (Oth.si h _ 5 x).lw hm2
  have f : FmQ [W.ms.getD k 0] h (si h (W.ms.getD k 0) 5 x) := FmQ.si
  have fin : ∀ h2 v9 q, WO h2 w (W.ev v9 (W.es ++ [q])) (ups s (49 + 7 * k + 5) x) → FmQ [W.u 2, W.u 3] (si h (W.ms.getD k 0) 5 x) h2 → Lw (si h (W.ms.getD k 0) 5 x) h2 → ∀ t h3, 2000 ≤ t → qkd h2 t = 0 → ItQ h3 t (W.u 0) 0 → FmQ [] h2 h3 → Lw h2 h3 → Bt mq_X13_hold Q 46 153 [none, none, none, some (.int (nI 0)), some (.ref t), none] [] h3 := by
    intro h2 v9 q X' f' hlw' t h3 ht0 htz I f3 hlw3
    refine l_wHeld (Q := Q) X' ht0 htz (fun h4 f4 hlw4 => ?_) W.ms.length 0 h3 (by show 0 + W.ms.length = W.ms.length; omega) I f3 hlw3
    rw [e2]
    refine K h4 v9 q (X'.f0 f4 hlw4.md) ?_ ((l1.trans hlw').trans hlw4)
    exact ((f.mono (fun n hn _ => by rw [List.mem_singleton.mp hn]; exact List.mem_cons_self)).trans f' (fun n hn _ => List.mem_cons_of_mem _ hn)).trans f4 (fun n hn _ => absurd hn (by simp))
  refine tq_X13_hold ⟨X.kw, g3 r6 ⟨X.al.rc, c_get X.al hk (fun _ => ⟨km, km, hx, fun _ => ⟨X1.rc, by decide, ?_⟩, fun _ => ⟨X1.rc, by decide, ?_⟩⟩)⟩⟩
  · refine c_wNote X1 (hc.md l1.md) hlen hne (fun h2 v9 q X' f' hlw' _ => ⟨X'.kw, g3 X'.r.2.2.2.2.2.1 ⟨X'.al.rc, Nat.le_refl _, c_iter X'.al (fun t h3 ht0 htz I f3 hlw3 _ => fin h2 v9 q X' f' hlw' t h3 ht0 htz I f3 hlw3)⟩⟩)
  · refine c_wNote X1 (hc.md l1.md) hlen hne (fun h2 v9 q X' f' hlw' _ => ⟨X'.kw, g3 X'.r.2.2.2.2.2.1 ⟨X'.al.rc, Nat.le_refl _, c_iter X'.al (fun t h3 ht0 htz I f3 hlw3 _ => fin h2 v9 q X' f' hlw' t h3 ht0 htz I f3 hlw3)⟩⟩)
end
