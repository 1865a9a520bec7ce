/-! ===== the law's World: the format's change, a stop, going on ===== -/
section
variable {h h' : PH} {w k v g l : Nat} {W : WN} {s s' : RW} {C E : Nat} {Q : Res → PH → Prop} {x y z : Int32} {es : List Nat}
theorem c_wCommit (X : WO h w W s) (hc : Kc h) (hlen : W.es.length < 1200) (hne : W.ms ≠ []) (K : ∀ h' v q, WO h' w (W.ev v (W.es ++ [q])) (ups s 5 x) → FmQ [w, W.u 2, W.u 3] h h' → Lw h h' → Q (.inl (some (.int (s 5)))) h') : MetQ mq_X13_commit [.ref w, .int x] h Q := by
  obtain ⟨⟨i1, i2⟩, ⟨j0, j1, j2, j3, j4, j5, j6, j8, j15, j16, j17⟩, ip, iw, ie⟩ := X.i
  have hlw : Lw h (si h w 0 x) := (Oth.si h w 0 x).lw i2
  have f : FmQ [w] h (si h w 0 x) := FmQ.si
  have k9 : ∀ {j : Nat}, j ≠ 0 → gi (si h w 0 x) w j = gi h w j := fun e => qsi_k e
  have Hi : WOi (si h w 0 x) w (ups s 5 x) := ⟨⟨i1, i2⟩, ⟨qsi_s, (k9 (by decide)).trans j1, (k9 (by decide)).trans j2, (k9 (by decide)).trans j3, (k9 (by decide)).trans j4, (k9 (by decide)).trans j5, (k9 (by decide)).trans j6, (k9 (by decide)).trans j8, (k9 (by decide)).trans j15, (k9 (by decide)).trans j16, (k9 (by decide)).trans j17⟩,
    fun z => ⟨(k9 (by decide)).trans (ip z).1, (k9 (by decide)).trans (ip z).2.1, (k9 (by decide)).trans (ip z).2.2.1, (k9 (by decide)).trans (ip z).2.2.2⟩, fun z => (k9 (by decide)).trans (iw z), fun z => (k9 (by decide)).trans (ie z)⟩
  have X1 : WO (si h w 0 x) w W (ups s 5 x) := X.sc f hlw.md (fun _ => rfl) Hi (fun j hj => if_neg (by omega))
  refine tq_X13_commit ⟨X.kw, X.kw, X1.rc, Nat.le_refl _, c_wNote X1 (hc.md hlw.md) hlen hne (fun h' v q X' f' hlw' _ => ?_)⟩
  rw [j0]
  exact K h' v q X' ((f.mono (fun n hn _ => by rw [List.mem_singleton.mp hn]; exact List.mem_cons_self)).trans f' (fun n hn _ => List.mem_cons_of_mem _ hn)) (hlw.trans hlw')
end
