/-! ===== the law's World: a stop, going on ===== -/
section
variable {h h' : PH} {w k v g l : Nat} {W : WN} {s s' : RW} {C E : Nat} {Q : Res → PH → Prop} {x y z : Int32} {es : List Nat}
theorem hasP_going (hg : going s = true) : hasP s = true := by
  unfold going at hg
  unfold hasP
  rcases Bool.or_eq_true _ _ |>.mp hg with q | q
  · rw [of_decide_eq_true q]; decide
  · rw [of_decide_eq_true q]; decide
theorem c_wStop (X : WO h w W s) (hg : going s = true) (hc : Kc h) (hlen : W.es.length < 1200) (hne : W.ms ≠ []) (K : ∀ h' v q, WO h' w (W.ev v (W.es ++ [q])) (ups (ups s 18 (s 12)) 12 (nI 3)) → FmQ [w, W.u 2, W.u 3] h h' → Lw h h' → Q (.inl none) h') : MetQ mq_X13_stop [.ref w] h Q := by
  obtain ⟨⟨i1, i2⟩, ⟨j0, j1, j2, j3, j4, j5, j6, j8, j15, j16, j17⟩, ip, iw, ie⟩ := X.i
  have hp := hasP_going hg
  obtain ⟨p1, p2, p3, p4⟩ := ip hp
  have hlw : Lw h (si (si h w 13 (gi h w 8)) w 8 (nI 3)) := ((Oth.si h w 13 _).lw i2).trans ((Oth.si _ w 8 _).lw i2)
  have f : FmQ [w] h (si (si h w 13 (gi h w 8)) w 8 (nI 3)) := (FmQ.si (a := w)).trans (FmQ.si (a := w)) (fun n hn _ => hn)
  have k9 : ∀ {j : Nat}, j ≠ 8 → j ≠ 13 → gi (si (si h w 13 (gi h w 8)) w 8 (nI 3)) w j = gi h w j := fun e e2 => (qsi_k e).trans (qsi_k e2)
  have k13 : gi (si (si h w 13 (gi h w 8)) w 8 (nI 3)) w 13 = s 12 := (qsi_k (by decide)).trans (qsi_s.trans j8)
  have Hi : WOi (si (si h w 13 (gi h w 8)) w 8 (nI 3)) w (ups (ups s 18 (s 12)) 12 (nI 3)) := ⟨⟨i1, i2⟩, ⟨(k9 (by decide) (by decide)).trans j0, (k9 (by decide) (by decide)).trans j1, (k9 (by decide) (by decide)).trans j2, (k9 (by decide) (by decide)).trans j3, (k9 (by decide) (by decide)).trans j4, (k9 (by decide) (by decide)).trans j5, (k9 (by decide) (by decide)).trans j6, qsi_s, (k9 (by decide) (by decide)).trans j15, (k9 (by decide) (by decide)).trans j16, (k9 (by decide) (by decide)).trans j17⟩,
    fun _ => ⟨(k9 (by decide) (by decide)).trans p1, (k9 (by decide) (by decide)).trans p2, (k9 (by decide) (by decide)).trans p3, (k9 (by decide) (by decide)).trans p4⟩, fun _ => k13, fun z => by
      refine (k9 (by decide) (by decide)).trans (ie (Or.inl ?_))
      rcases z with z | z
      · exact absurd (show nI 3 = nI 2 from z) (by decide)
      · exact z.2⟩
  have X1 : WO (si (si h w 13 (gi h w 8)) w 8 (nI 3)) w W (ups (ups s 18 (s 12)) 12 (nI 3)) := X.sc f hlw.md (fun _ => rfl) Hi (fun j hj => (if_neg (by omega)).trans (if_neg (by omega)))
  exact tq_X13_stop ⟨X.kw, X.kw, X.kw, X.kw, X1.rc, Nat.le_refl _, c_wNote X1 (hc.md hlw.md) hlen hne (fun h' v q X' f' hlw' _ => K h' v q X' ((f.mono (fun n hn _ => by rw [List.mem_singleton.mp hn]; exact List.mem_cons_self)).trans f' (fun n hn _ => List.mem_cons_of_mem _ hn)) (hlw.trans hlw'))⟩
theorem c_wGo (X : WO h w W s) (h3 : s 12 = nI 3) (h18 : s 18 = nI 1 ∨ s 18 = nI 2) (hc : Kc h) (hlen : W.es.length < 1200) (hne : W.ms ≠ []) (K : ∀ h' v q, WO h' w (W.ev v (W.es ++ [q])) (ups s 12 (s 18)) → FmQ [w, W.u 2, W.u 3] h h' → Lw h h' → Q (.inl (some (.int (s 15)))) h') : MetQ mq_X13_go [.ref w] h Q := by
  obtain ⟨⟨i1, i2⟩, ⟨j0, j1, j2, j3, j4, j5, j6, j8, j15, j16, j17⟩, ip, iw, ie⟩ := X.i
  have hp : hasP s = true := by unfold hasP; rw [h3]; decide
  obtain ⟨p1, p2, p3, p4⟩ := ip hp
  have hlw : Lw h (si h w 8 (gi h w 13)) := (Oth.si h w 8 _).lw i2
  have f : FmQ [w] h (si h w 8 (gi h w 13)) := FmQ.si
  have k9 : ∀ {j : Nat}, j ≠ 8 → gi (si h w 8 (gi h w 13)) w j = gi h w j := fun e => qsi_k e
  have Hi : WOi (si h w 8 (gi h w 13)) w (ups s 12 (s 18)) := ⟨⟨i1, i2⟩, ⟨(k9 (by decide)).trans j0, (k9 (by decide)).trans j1, (k9 (by decide)).trans j2, (k9 (by decide)).trans j3, (k9 (by decide)).trans j4, (k9 (by decide)).trans j5, (k9 (by decide)).trans j6, qsi_s.trans (iw h3), (k9 (by decide)).trans j15, (k9 (by decide)).trans j16, (k9 (by decide)).trans j17⟩,
    fun _ => ⟨(k9 (by decide)).trans p1, (k9 (by decide)).trans p2, (k9 (by decide)).trans p3, (k9 (by decide)).trans p4⟩, fun z => by
      have z : s 18 = nI 3 := z
      rcases h18 with q | q <;> rw [q] at z <;> exact absurd z (by decide), fun z => by
      refine (k9 (by decide)).trans (ie (Or.inr ⟨h3, ?_⟩))
      rcases z with z | z
      · exact z
      · have z : s 18 = nI 3 := z.1
        rcases h18 with q | q <;> rw [q] at z <;> exact absurd z (by decide)⟩
  have X1 : WO (si h w 8 (gi h w 13)) w W (ups s 12 (s 18)) := X.sc f hlw.md (fun _ => rfl) Hi (fun j hj => if_neg (by omega))
  have hp1 : hasP (ups s 12 (s 18)) = true := by
    unfold hasP
    show (!decide (s 18 = 0) && !decide (s 18 = nI 4)) = true
    rcases h18 with q | q <;> rw [q] <;> decide
  refine tq_X13_go ⟨X.kw, X.kw, X.kw, X1.rc, Nat.le_refl _, c_wNote X1 (hc.md hlw.md) hlen hne (fun h' v q X' f' hlw' _ => ⟨X'.kw, ?_⟩)⟩
  have e9 : gi h' w 11 = s 15 := (X'.i.2.2.1 hp1).2.2.1
  rw [e9]
  exact K h' v q X' ((f.mono (fun n hn _ => by rw [List.mem_singleton.mp hn]; exact List.mem_cons_self)).trans f' (fun n hn _ => List.mem_cons_of_mem _ hn)) (hlw.trans hlw')
end
