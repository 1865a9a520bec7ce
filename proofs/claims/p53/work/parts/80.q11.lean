/-! ===== the law's calls: sound ===== -/
theorem Hi.kd {x y : PH} (a : Hi x y) (n : Nat) : qkd y n = qkd x n := by
  unfold qkd
  split
  · rfl
  · rename_i hb
    rw [(a n (by
      rcases Nat.lt_or_ge n 1000 with q | q
      · rw [Nat.blt_eq.mpr q] at hb; cases hb
      · exact q)).2.2.2]
theorem va_D_addr {A : Nat → Prop} {ws ws' : va_W} (h : va_D A ws) (he : ∀ (i : Nat) (q : Nat × va_E), ws'[i]? = some q → ∃ e, ws[i]? = some (q.1, e)) : va_D A ws' := by
  refine ⟨fun i j x y hi hj hxy => ?_, fun i q hq => ?_⟩
  · obtain ⟨e1, h1⟩ := he i x hi
    obtain ⟨e2, h2⟩ := he j y hj
    exact h.1 i j _ _ h1 h2 hxy
  · obtain ⟨e1, h1⟩ := he i q hq
    exact h.2 i (q.1, e1) h1
theorem pq_hi {ad : Nat → Nat} {cA : Nat → ClassId} {h h' : PH} {L : List Nat} (a : Hi h h') : pq ad cA h' L = pq ad cA h L := by
  unfold pq va_pl
  exact List.map_congr_left fun b _ => Prod.ext rfl (celQ_eq (a (uq b) (uq_hi b)))
section
variable {M : MI} {Q : Res → PH → Prop} {Z : State → Prop} {p : Program} {l : Launch} {e : Env} {R : Room} {s : State} {m : MethodId} {args : Array Value} {below : List Frame} {meth : Method} {cc : Code} {ad : Nat → Nat} {cA : Nat → ClassId} {D : va_G} {A : Nat → Prop} {X : PH → va_W} {h0 : PH} {k : KT} {pc c : Nat} {ls : Lc} {st : List Value} {h : PH}
/-- the caller's world is the start of a method of the class -/
theorem pcm_start (hfl : flQ M = true) (hC : Cb M Q Z p l e R s m args below meth cc ad cA D A X h0) {H : Heap} {locs : List Loc} {L : List Nat} (hP : va_P D pmCl (X h ++ pq ad cA h L) H) (hD : va_D A (X h ++ pq ad cA h L)) (hS : va_S A s.heap H locs) {As : List Value} : PreS s H (va_Pc (As.map (tr ad)) (PcM ad cA D h 0 H.size h)) (As.map (tr ad)) := by
  obtain ⟨⟨hx, hb, hml, hown, hts⟩, hK, hA, hKQ, hCQ, hX, hfX, hst, hroom, hnm, hend⟩ := hC
  obtain ⟨rfl, hCF, hxw⟩ := hfX hfl
  have hsub : ∀ q, adA ad H.size q → A q := by
    intro q hq
    refine frQ_sub (L := L) hA hD hS q ?_
    rcases hq with ⟨a, ha, rfl⟩ | hq
    · exact Or.inl ⟨a, _, wd_get ha⟩
    · exact Or.inr (Or.inr hq)
  refine ⟨fun a U g mk hq => ?_, fun U hU hWU => ⟨rfl, ?_⟩⟩
  · obtain ⟨q0, q1, q2, q3, q4, q5, q6, q7⟩ := hq
    exact ⟨q0, q1, q2, va_K.moved (u := U) (U := U.calling g mk a) (Vm.Alike.refl U.vm) q3, q4, q5, (q6.moved (u := U) (U := U.calling g mk a) (Vm.Alike.refl U.vm)), q7.same (u := U) (U := U.calling g mk a) rfl⟩
  · refine ⟨by rw [hU], ?_, va_K.moved hWU.alike hK, ?_, fun _ _ => ⟨rfl, rfl, rfl, rfl⟩, ?_, hxw.warm hWU⟩
    · rw [hU]
      exact fun i q hq => hP i q (by rw [List.getElem?_append_left (List.getElem?_eq_some_iff.mp hq).1]; exact hq)
    · exact va_D.weaken (A := A) ⟨fun i j x y hi hj hxy => hD.1 i j x y (by rw [List.getElem?_append_left (List.getElem?_eq_some_iff.mp hi).1]; exact hi) (by rw [List.getElem?_append_left (List.getElem?_eq_some_iff.mp hj).1]; exact hj) hxy, fun i q hq => hD.2 i q (by rw [List.getElem?_append_left (List.getElem?_eq_some_iff.mp hq).1]; exact hq)⟩ (fun _ _ _ _ => trivial)
    · rw [hU]
      exact ((hCF.kept (fun a h1 h2 => hS.2.1 a h1 h2)).moved hWU.alike).narrow hsub
theorem bc_runC {M' : MI} {Q' : Res → PH → Prop} {rest st0 : List Value} {lsA : Array Slot} {a : Array Value} {H : Heap} {locs : List Loc} {cells slots : Nat} {L : List Nat} (hfl : flQ M = true) (hC : Cb M Q Z p l e R s m args below meth cc ad cA D A X h0)
    (hP : va_P D pmCl (X h ++ pq ad cA h L) H) (hD : va_D A (X h ++ pq ad cA h L)) (hS : va_S A s.heap H locs) (hKd : KdOk h L) (hMd : Md h0 h)
    (hr : vx_Run p l e R s m args below meth cc H locs cells slots M'.cap (6 * M'.cap) (F0 m pc lsA st0) rest (QcM ad cA D h 0 H.size Q' a) (XcM ad cA D h 0 H.size Q') (adA ad H.size)) (hno : ∀ x h', ¬ Q' (.inr x) h')
    (kk : ∀ (v : Option Value) (h' : PH) (H1 : Heap) (locs1 : List Loc), Q' (.inl v) h' → Hi h h' → WL (flQ M) ad cA D X h0 A h' s s.heap H1 locs1 → W p l e R s m args below meth cc H1 locs1 (cells + M'.cap) (slots + 6 * M'.cap) Z (F0 m (pc + 3) lsA ((v.map (tr ad)).toList ++ rest))) :
    W p l e R s m args below meth cc H locs cells slots Z (F0 m pc lsA st0) := by
  obtain ⟨⟨hx, hb, hml, hown, hts⟩, hK, hA, hKQ, hCQ, hX, hfX, hst, hroom, hnm, hend⟩ := hC
  obtain ⟨rfl, hCF, hxw⟩ := hfX hfl
  have hsub : ∀ q, adA ad H.size q → A q := by
    intro q hq
    refine frQ_sub (L := L) hA hD hS q ?_
    rcases hq with ⟨a, ha, rfl⟩ | hq
    · exact Or.inl ⟨a, _, wd_get ha⟩
    · exact Or.inr (Or.inr hq)
  intro T hT XX
  rcases hr T hT XX with ⟨v, st₀, t, T', L9, h09, X', hL, e1, e2, ⟨⟨v', h', hv, hq, hP1, hD1, hHi⟩, hz, hF⟩, sg⟩ | ⟨q, st₀, t, T', L', E, ce, h0', X', hL, e1, e2, ⟨⟨x, h', hE, hq, hP⟩, hF⟩, hce, hcv, hcl, sg⟩
  · cases hv
    rw [h09] at hz hF
    have hHi : Hi h h' := hHi
    have hlen : (wd ad cA h').length = (wd ad cA h).length := by simp [wd]
    have hDA : va_D A (wd ad cA h' ++ pq ad cA h' L) := by
      refine va_D_addr hD ?_
      intro i q hq
      rcases Nat.lt_or_ge i (wd ad cA h').length with w | w
      · rw [List.getElem?_append_left w] at hq
        obtain ⟨e9, he9⟩ := wdX_addr (h := h) hq
        exact ⟨e9, by rw [List.getElem?_append_left (List.getElem?_eq_some_iff.mp he9).1]; exact he9⟩
      · rw [List.getElem?_append_right w, pq_hi hHi, hlen] at hq
        exact ⟨q.2, by rw [List.getElem?_append_right (by rw [← hlen]; exact w)]; exact hq⟩
    have hP2 : va_P D pmCl (wd ad cA h' ++ pq ad cA h' L) T'.heap := by
      rw [e1]
      refine va_P.app (hP1) ?_
      rw [pq_hi hHi]
      intro i q hq
      have hq2 : (wd ad cA h ++ pq ad cA h L)[(wd ad cA h).length + i]? = some q := by
        rw [List.getElem?_append_right (Nat.le_add_right _ _), Nat.add_sub_cancel_left]; exact hq
      have hat := hP _ q hq2
      refine hat.kept (hF q.1 hat.lt ?_)
      intro hadA
      rcases hadA with ⟨a9, ha9, ea⟩ | hge
      · have hw := wd_get (ad := ad) (cA := cA) (h := h) ha9
        have hw2 : (wd ad cA h ++ pq ad cA h L)[a9]? = _ := (List.getElem?_append_left (List.getElem?_eq_some_iff.mp hw).1).trans hw
        have := hD.1 _ _ _ _ hq2 hw2 ea
        have hl9 := (List.getElem?_eq_some_iff.mp hw).1
        omega
      · exact absurd hat.lt (Nat.not_lt.mpr hge)
    have hS1 : va_S A s.heap T'.heap (locs ++ L9) := ⟨Nat.le_trans hS.1 (by rw [e1]; exact hz), fun q h1 h2 => by rw [e1, hF q (Nat.lt_of_lt_of_le h1 hS.1) (fun z => h2 (hsub q z))]; exact hS.2.1 q h1 h2, fun q hq => by
      rcases List.mem_append.mp hq with h9 | h9
      · exact hS.2.2 q h9
      · exact hsub _ (hL q h9)⟩
    have hKd1 : KdOk h' L := by
      intro n hn
      rw [hHi.kd] at hn ⊢
      exact hKd n hn
    obtain ⟨t2, a1, b1⟩ := kk v' h' T'.heap (locs ++ L9) hq hHi ⟨L, hP2, hDA, hS1, hKd1, hMd.trans hHi.md, fun z => by rw [hfl] at z; cases z⟩ T' rfl X'
    exact ⟨t2, sg t2 a1, b1⟩
  · exact absurd hq (hno x h')
end
