/-! ===== the law's World: a change begins ===== -/
section
variable {h h' : PH} {w k v g l j : Nat} {W : WN} {s s' : RW} {C E : Nat} {Q : Res → PH → Prop} {x y z : Int32} {es : List Nat}
theorem c_wBegin (X : WO h w W s) (h8 : nn (s 0) ≤ 8) (h5 : nn (s 1) ≤ 5) (hk : k < W.ms.length) (hc : Kc h) (hlen : W.es.length < 1200) (K : ∀ h' v9 q, WO h' w (W.ev v9 (W.es ++ [q])) (ups (ups s (49 + 7 * k + 2) x) (49 + 7 * k + 3) (s 11 + s 8)) → FmQ [W.ms.getD k 0, W.u 2, W.u 3] h h' → Lw h h' → Q (.inl none) h') : MetQ mq_X13_begin [.ref w, .int (nI k), .int x] h Q := by
  have hne : W.ms ≠ [] := fun e => by rw [e] at hk; cases hk
  obtain ⟨-, -, -, -, -, r6, -⟩ := X.r
  have km := X.km hk
  have hm2 := (X.m.2.2.2 k hk).1
  have X1 := X.mb (x := x) h8 h5 hk (j := 2) (by decide)
  have lo : ∀ i, i < 49 → ups s (49 + 7 * k + 2) x i = s i := fun i hi => if_neg (by omega)
  have X2 := X1.mb (x := s 11 + s 8) (by rw [lo _ (by decide)]; exact h8) (by rw [lo _ (by decide)]; exact h5) hk (j := 3) (by decide)
  have g6 : gi (si h (W.ms.getD k 0) 2 x) w 6 = s 11 := X1.i.2.1.2.2.2.2.2.2.1.trans (lo _ (by decide))
  have g3' : gi (si h (W.ms.getD k 0) 2 x) w 3 = s 8 := X1.i.2.1.2.2.2.1.trans (lo _ (by decide))
  have l1 : Lw h (si h (W.ms.getD k 0) 2 x) := (Oth.si h _ 2 x).lw hm2
  have l2 : Lw h (si (si h (W.ms.getD k 0) 2 x) (W.ms.getD k 0) 3 (s 11 + s 8)) := l1.trans ((Oth.si _ _ 3 _).lw hm2)
  have f : FmQ [W.ms.getD k 0] h (si (si h (W.ms.getD k 0) 2 x) (W.ms.getD k 0) 3 (s 11 + s 8)) := (FmQ.si (a := W.ms.getD k 0)).trans (FmQ.si (a := W.ms.getD k 0)) (fun n hn _ => hn)
  refine tq_X13_begin ⟨X.kw, g3 r6 ⟨X.al.rc, c_get X.al hk (fun _ => ⟨km, km, X1.kw, g3 r6 ⟨X1.al.rc, c_get X1.al hk (fun _ => ⟨km, X1.kw, X1.kw, km, ?_⟩)⟩⟩)⟩⟩
  rw [g6, g3']
  exact ⟨X2.rc, Nat.le_refl _, c_wNote X2 (hc.md l2.md) hlen hne (fun h' v9 q X' f' hlw' _ => K h' v9 q X' ((f.mono (fun n hn _ => by rw [List.mem_singleton.mp hn]; exact List.mem_cons_self)).trans f' (fun n hn _ => List.mem_cons_of_mem _ hn)) (l2.trans hlw'))⟩
end
