/-! ===== the law's machine: one step is sound ===== -/
theorem MOQ.wc {M : MI} {n : Nat} (h : MOQ M) : MOQ (wcap M n) := h
theorem okQc_of {M M' : MI} {n rt mcv : Nat} (h : okQc M M' n rt mcv = true) : calQ M M' n mcv = true ∧ (flQ M' = true → flQ M = true) := by
  unfold okQc at h
  simp only [Bool.and_eq_true, Bool.or_eq_true] at h
  refine ⟨h.1, fun z => ?_⟩
  rcases h.2 with w | w
  · rw [z] at w; cases w
  · exact w
section
variable {M : MI} {Q : Res → PH → Prop} {Z : State → Prop} {p : Program} {l : Launch} {e : Env} {R : Room} {s : State} {m : MethodId} {args : Array Value} {below : List Frame} {meth : Method} {cc : Code} {ad : Nat → Nat} {cA : Nat → ClassId} {D : va_G} {A : Nat → Prop} {X : PH → va_W} {h0 : PH} {k : KT} {c : Nat} {ls : Lc} {st : List Value} {h : PH}
set_option maxHeartbeats 2000000 in
theorem qst_btC (hC : Cb M Q Z p l e R s m args below meth cc ad cA D A X h0) (hk : ∀ pc c ls st h, k pc c ls st h → BtC M Z p l e R s m args below meth cc ad cA D A X h0 pc c ls st h)
    {en : En} (hE : okQ M en = true) (hms : ∀ M' ∈ en.2.2.2.2, MOQ M') (hs : qst MetQ MetPM M Q k en c ls st h) : BtC M Z p l e R s m args below meth cc ad cA D A X h0 en.1 c ls st h := by
  obtain ⟨pc, i, len, ax, ms⟩ := en
  have hx := hC.1.1
  have hb := hC.1.2.1
  show BtC M Z p l e R s m args below meth cc ad cA D A X h0 pc c ls st h
  cases i with
  | getfield idx =>
    simp only [okQ, Bool.and_eq_true, decide_eq_true_eq] at hE
    obtain ⟨hd, hE⟩ := hE
    simp only [qst] at hs
    split at hs
    · exact bc_get hC hk hd hE hs
    · cases hs
  | putfield idx =>
    simp only [okQ, Bool.and_eq_true, decide_eq_true_eq] at hE
    obtain ⟨hd, hE⟩ := hE
    simp only [qst] at hs
    split at hs
    · simp only [Bool.and_eq_true, Bool.not_eq_true'] at hE
      obtain ⟨⟨e1, e2⟩, e3⟩ := hE
      exact bc_put hC hk hd e1 e2 e3 hs
    · cases hs
  | new idx =>
    simp only [okQ, Bool.and_eq_true, decide_eq_true_eq] at hE
    obtain ⟨hd, hE⟩ := hE
    split at hE
    · rename_i ci p1 p2 p3
      simp only [Bool.and_eq_true] at hE
      obtain ⟨e1, hE⟩ := hE
      split at hE
      · rename_i C T N hc
        simp only [Bool.and_eq_true] at hE
        exact bc_new hC hk (Nat.le_of_ble_eq_true e1) hc (tbG_at hE.1.1) (tbG_at hE.1.2) (tbG_at hE.2) hd hs
      · cases hE
    · cases hE
  | newarray at' =>
    simp only [okQ, Bool.and_eq_true, decide_eq_true_eq] at hE
    obtain ⟨hd, hE⟩ := hE
    split at hE
    · rename_i t p1
      simp only [Bool.and_eq_true, Bool.or_eq_true, decide_eq_true_eq] at hE
      exact bc_newa hC hk (hE.1.imp (fun z => ⟨Nat.eq_of_beq_eq_true z.1, z.2⟩) (fun z => ⟨Nat.eq_of_beq_eq_true z.1, z.2⟩)) (tbG_at hE.2) hd hs
    · cases hE
  | anewarray idx =>
    simp only [okQ, Bool.and_eq_true, decide_eq_true_eq] at hE
    obtain ⟨hd, hE⟩ := hE
    split at hE
    · exact bc_newq hC hk (tbG_at hE) hd hs
    · cases hE
  | multianewarray idx dm =>
    simp only [okQ, Bool.and_eq_true, decide_eq_true_eq] at hE
    obtain ⟨hd, hE⟩ := hE
    split at hE
    · simp only [Bool.and_eq_true] at hE
      exact bc_mna hC hk (tbG_at hE.1) (tbG_at hE.2) hd hs
    · cases hE
  | iaload =>
    simp only [okQ, decide_eq_true_eq] at hE
    exact bc_ald hC hk (t := 0) hE hs
  | baload =>
    simp only [okQ, Bool.and_eq_true, decide_eq_true_eq] at hE
    obtain ⟨hd, hE⟩ := hE
    split at hE
    · rename_i t
      simp only [Bool.or_eq_true] at hE
      rcases hE with hE | hE
      · obtain rfl := Nat.eq_of_beq_eq_true hE
        exact bc_ald hC hk (t := 1) hd hs
      · obtain rfl := Nat.eq_of_beq_eq_true hE
        exact bc_ald hC hk (t := 6) hd hs
    · cases hE
  | aaload =>
    simp only [okQ, Bool.and_eq_true, decide_eq_true_eq] at hE
    obtain ⟨hd, hE⟩ := hE
    split at hE
    · rename_i t
      simp only [Bool.or_eq_true] at hE
      rcases hE with hE | hE
      · obtain rfl := Nat.eq_of_beq_eq_true hE
        exact bc_ald hC hk (t := 7) hd hs
      · obtain rfl := Nat.eq_of_beq_eq_true hE
        exact bc_ald hC hk (t := 8) hd hs
    · cases hE
  | iastore =>
    simp only [okQ, decide_eq_true_eq] at hE
    exact bc_ast hC hk (t := 0) hE hs
  | bastore =>
    simp only [okQ, Bool.and_eq_true, decide_eq_true_eq] at hE
    obtain ⟨hd, hE⟩ := hE
    split at hE
    · rename_i t
      simp only [Bool.or_eq_true] at hE
      rcases hE with hE | hE
      · obtain rfl := Nat.eq_of_beq_eq_true hE
        exact bc_ast hC hk (t := 1) hd hs
      · obtain rfl := Nat.eq_of_beq_eq_true hE
        exact bc_ast hC hk (t := 6) hd hs
    · cases hE
  | aastore =>
    simp only [okQ, decide_eq_true_eq] at hE
    exact bc_ast hC hk (t := 7) hE hs
  | arraylength =>
    simp only [okQ, decide_eq_true_eq] at hE
    exact bc_aln hC hk hE hs
  | checkcast idx =>
    simp only [okQ, Bool.and_eq_true, decide_eq_true_eq] at hE
    obtain ⟨hd, hE⟩ := hE
    split at hE
    · exact bc_cast hC hk (t := 0) (tbG_at hE) hd hs
    · exact bc_cast hC hk (t := 1) (tbG_at hE) hd hs
    · exact bc_cast hC hk (t := 2) (tbG_at hE) hd hs
    · cases hE
  | getstatic idx =>
    simp only [okQ, Bool.and_eq_true, decide_eq_true_eq] at hE
    obtain ⟨hd, hE⟩ := hE
    refine bc_gst hC hk (ax := ax) ?_ hd hs
    split at hE
    · obtain ⟨q, hq, hE⟩ := List.any_eq_true.mp hE
      simp only [Bool.and_eq_true] at hE
      exact ⟨q, hq, Nat.eq_of_beq_eq_true hE.1, tbG_at hE.2⟩
    · exact tbG_at hE
    · exact tbG_at hE
    · cases hE
  | ldc idx =>
    simp only [okQ, Bool.and_eq_true, decide_eq_true_eq] at hE
    obtain ⟨hd, hE⟩ := hE
    refine bc_ldc hC hk (ax := ax) ?_ hd hs
    split at hE
    · exact tbG_at hE
    · simp only [Bool.and_eq_true, decide_eq_true_eq] at hE
      obtain ⟨e1, hE⟩ := hE
      split at hE
      · rename_i j tx hj
        exact ⟨e1, tx, by rw [← Nat.eq_of_beq_eq_true hE]; exact hj⟩
      · cases hE
    · exact tbG_at hE
    · cases hE
  | if_acmp cd off =>
    simp only [okQ, Bool.and_eq_true, decide_eq_true_eq] at hE
    obtain ⟨hd, hE⟩ := hE
    split at hE
    · exact bc_acmp hC hk hd (of_decide_eq_true hE) hs
    · cases hE
  | dup_x1 =>
    simp only [okQ, decide_eq_true_eq] at hE
    simp only [qst] at hs
    split at hs
    · rename_i x y r
      obtain ⟨⟨c1, c2⟩, hs⟩ := hs
      intro H locs cells slots lsA hW hl h1 h2 h3
      exact lv_dup_x1 hx hb hE (by rw [tr_cat]; exact c1) (by rw [tr_cat]; exact c2) (hk _ _ _ _ _ hs H locs cells slots lsA hW hl h1 h2 h3)
    · cases hs
  | ineg =>
    simp only [okQ, decide_eq_true_eq] at hE
    simp only [qst] at hs
    split at hs
    · intro H locs cells slots lsA hW hl h1 h2 h3
      exact lv_ineg hx hb hE (hk _ _ _ _ _ hs H locs cells slots lsA hW hl h1 h2 h3)
    · cases hs
  | areturn =>
    simp only [okQ, Bool.and_eq_true, decide_eq_true_eq] at hE
    obtain ⟨hd, hE⟩ := hE
    refine bc_str hC (rt := 5) hd (fun v hv => ⟨?_, hv⟩) hs
    split at hE
    · rename_i n hn; exact Or.inl ⟨n, hn⟩
    · rename_i n hn; exact Or.inr ⟨n, hn⟩
    · cases hE
  | invokevirtual idx =>
    simp only [okQ, Bool.and_eq_true, decide_eq_true_eq] at hE
    obtain ⟨hd, hE⟩ := hE
    split at hE
    · simp only [Bool.and_eq_true, decide_eq_true_eq] at hE
      obtain ⟨⟨⟨⟨⟨e1, e2⟩, e3⟩, e4⟩, e5⟩, e6⟩ := hE
      have e1 := okQc_of e1
      exact bc_cal (kind := 0) hC hk (hms _ List.mem_cons_self) hd e1.1 e1.2 ⟨Nat.eq_of_beq_eq_true e2, tbG_at e3, e4, Nat.le_of_ble_eq_true e5, Nat.le_of_ble_eq_true e6⟩ hs
    · simp only [Bool.and_eq_true, decide_eq_true_eq] at hE
      obtain ⟨⟨⟨⟨⟨⟨e1, e2⟩, e3⟩, e4⟩, e4'⟩, e5⟩, e6⟩ := hE
      have e1 := okQc_of e1
      exact bc_cal (kind := 5) hC hk (hms _ List.mem_cons_self) hd e1.1 e1.2 ⟨Nat.eq_of_beq_eq_true e2, tbG_at e3, tbG_at e4, tbG_at e4', Nat.le_of_ble_eq_true e5, Nat.le_of_ble_eq_true e6⟩ hs
    · simp only [Bool.and_eq_true, decide_eq_true_eq] at hE
      obtain ⟨⟨⟨⟨⟨⟨e1, e2⟩, e3⟩, e4⟩, e4'⟩, e5⟩, e6⟩ := hE
      have e1 := okQc_of e1
      split at e4'
      · rename_i w hw
        exact bc_cal (kind := 13) hC hk (hms _ List.mem_cons_self) hd e1.1 e1.2 ⟨Nat.eq_of_beq_eq_true e2, tbG_at e3, tbG_at e4, by rw [← of_decide_eq_true e4']; exact List.mem_of_getElem? hw, Nat.le_of_ble_eq_true e5, Nat.le_of_ble_eq_true e6⟩ hs
      · cases e4'
    · simp only [Bool.and_eq_true, decide_eq_true_eq] at hE
      obtain ⟨⟨⟨⟨⟨⟨⟨⟨⟨e1, e2⟩, e3⟩, e4⟩, e4'⟩, e7⟩, e8⟩, e9⟩, e5⟩, e6⟩ := hE
      have e1 := okQc_of e1
      exact bc_cal (kind := 14) hC hk (hms _ List.mem_cons_self) hd e1.1 e1.2 ⟨Nat.eq_of_beq_eq_true e2, ⟨_, _, _, _, tbG_at e3, tbG_at e4, tbG_at e4', tbG_at e7, tbG_at e8, e9, by decide, by decide⟩, Nat.le_of_ble_eq_true e5, Nat.le_of_ble_eq_true e6⟩ hs
    · simp only [Bool.and_eq_true, decide_eq_true_eq] at hE
      obtain ⟨⟨⟨⟨e1, e2⟩, e3⟩, e4⟩, e5⟩ := hE
      have e1 := okQc_of e1
      exact bc_cal (kind := 9) (rc := 0) hC hk (hms _ List.mem_cons_self) hd e1.1 e1.2 ⟨e2, Nat.eq_of_beq_eq_true e3, tbG_at e4, e5⟩ hs
    · simp only [Bool.and_eq_true] at hE
      exact bc_cln hC hk ⟨Nat.le_of_ble_eq_true hE.1.1, Nat.le_of_ble_eq_true hE.1.2⟩ (tbG_at hE.2) hd hs
    · simp only [Bool.and_eq_true] at hE
      exact bc_nat (kind := 17) hC hk ⟨Nat.le_of_ble_eq_true hE.1.1, Nat.le_of_ble_eq_true hE.1.2⟩ hd (tbG_at hE.2) hs
    · cases hE
  | invokestatic idx =>
    simp only [okQ, Bool.and_eq_true, decide_eq_true_eq] at hE
    obtain ⟨hd, hE⟩ := hE
    split at hE
    · simp only [Bool.and_eq_true, Bool.or_eq_true] at hE
      obtain ⟨⟨e1, e2⟩, e3⟩ := hE
      have e1 := okQc_of e1
      exact bc_cal (kind := 1) (rc := 0) hC hk (hms _ List.mem_cons_self) hd e1.1 e1.2 ⟨e2.imp Nat.eq_of_beq_eq_true Nat.eq_of_beq_eq_true, tbG_at e3⟩ hs
    · rename_i n rt x9 mcv p9 M'
      simp only [Bool.and_eq_true, Bool.or_eq_true] at hE
      obtain ⟨⟨e1, e2⟩, e3⟩ := hE
      have e1 := okQc_of e1
      have hs : qcv MetQ M k pc M' n rt c ls st h := hs
      unfold qcv at hs
      obtain ⟨hlen0, hs⟩ := len9_of hs
      obtain ⟨h8, cp, hcp, hs⟩ := cat8_of hs
      have hB : calQ M (wcap M' cp) n cp = true := by
        have hB0 := e1.1
        unfold calQ at hB0 ⊢
        simp only [Bool.and_eq_true] at hB0 ⊢
        exact ⟨⟨⟨Nat.beq_refl cp, hB0.1.1.2⟩, hB0.1.2⟩, hB0.2⟩
      refine bc_cal (kind := 1) (rc := 0) (rt := rt) (M' := wcap M' cp) hC hk (hms M' List.mem_cons_self).wc hd hB e1.2 ⟨e2.imp Nat.eq_of_beq_eq_true Nat.eq_of_beq_eq_true, tbG_at e3⟩ ?_
      show len9 n st _
      unfold len9
      rw [Nat.ble_eq.mpr hlen0]
      show cat8 (st.drop n) _
      unfold cat8
      rw [Nat.ble_eq.mpr h8]
      show capk c cp M.cap _
      cases cp with
      | zero => exact hs
      | succ cp => exact ⟨hcp, hs⟩
    · simp only [Bool.and_eq_true, Bool.or_eq_true] at hE
      obtain ⟨⟨e1, e2⟩, e3⟩ := hE
      have e1 := okQc_of e1
      split at e3
      · rename_i w hw
        exact bc_cal (kind := 2) (rc := 0) hC hk (hms _ List.mem_cons_self) hd e1.1 e1.2 ⟨e2.imp Nat.eq_of_beq_eq_true Nat.eq_of_beq_eq_true, by rw [← of_decide_eq_true e3]; exact List.mem_of_getElem? hw⟩ hs
      · cases e3
    · simp only [Bool.and_eq_true] at hE
      exact bc_nat (kind := 10) hC hk ⟨Nat.le_of_ble_eq_true hE.1.1, Nat.le_of_ble_eq_true hE.1.2⟩ hd (tbG_at hE.2) hs
    · simp only [Bool.and_eq_true] at hE
      exact bc_nat (kind := 11) hC hk ⟨Nat.le_of_ble_eq_true hE.1.1, Nat.le_of_ble_eq_true hE.1.2⟩ hd (tbG_at hE.2) hs
    · simp only [Bool.and_eq_true] at hE
      exact bc_nat (kind := 12) hC hk ⟨Nat.le_of_ble_eq_true hE.1.1, Nat.le_of_ble_eq_true hE.1.2⟩ hd (tbG_at hE.2) hs
    · simp only [Bool.and_eq_true] at hE
      exact bc_nat (kind := 15) hC hk ⟨Nat.le_of_ble_eq_true hE.1.1, Nat.le_of_ble_eq_true hE.1.2⟩ hd (tbG_at hE.2) hs
    · simp only [Bool.and_eq_true] at hE
      exact bc_nat (kind := 16) hC hk ⟨Nat.le_of_ble_eq_true hE.1.1, Nat.le_of_ble_eq_true hE.1.2⟩ hd (tbG_at hE.2) hs
    · cases hE
  | invokespecial idx =>
    simp only [okQ, Bool.and_eq_true, decide_eq_true_eq] at hE
    obtain ⟨hd, hE⟩ := hE
    split at hE
    · simp only [Bool.and_eq_true] at hE
      obtain ⟨⟨e1, e2⟩, e3⟩ := hE
      have e1 := okQc_of e1
      exact bc_cal (kind := 3) (rc := 0) hC hk (hms _ List.mem_cons_self) hd e1.1 e1.2 ⟨Nat.eq_of_beq_eq_true e2, tbG_at e3⟩ hs
    · simp only [Bool.and_eq_true] at hE
      obtain ⟨⟨e1, e2⟩, e3⟩ := hE
      have e1 := okQc_of e1
      split at e3
      · rename_i w hw
        exact bc_cal (kind := 4) (rc := 0) hC hk (hms _ List.mem_cons_self) hd e1.1 e1.2 ⟨Nat.eq_of_beq_eq_true e2, by rw [← of_decide_eq_true e3]; exact List.mem_of_getElem? hw⟩ hs
      · cases e3
    · simp only [Bool.and_eq_true, decide_eq_true_eq] at hE
      obtain ⟨⟨⟨⟨⟨⟨⟨e1, e2⟩, e3⟩, e4⟩, e4'⟩, e7⟩, e5⟩, e6⟩ := hE
      have e1 := okQc_of e1
      exact bc_cal (kind := 6) hC hk (hms _ List.mem_cons_self) hd e1.1 e1.2 ⟨Nat.eq_of_beq_eq_true e2, tbG_at e3, tbG_at e4, tbG_at e4', e7, Nat.le_of_ble_eq_true e5, Nat.le_of_ble_eq_true e6⟩ hs
    · simp only [Bool.and_eq_true] at hE
      exact bc_nat (kind := 18) hC hk ⟨Nat.le_of_ble_eq_true hE.1.1, Nat.le_of_ble_eq_true hE.1.2⟩ hd (tbG_at hE.2) hs
    · cases hE
  | invokeinterface idx cn =>
    simp only [okQ, Bool.and_eq_true, decide_eq_true_eq] at hE
    obtain ⟨hd, hE⟩ := hE
    split at hE
    · simp only [Bool.and_eq_true, Bool.or_eq_true] at hE
      obtain ⟨⟨⟨⟨e1, e2⟩, e3⟩, e5⟩, e6⟩ := hE
      have e1 := okQc_of e1
      split at e3
      · rename_i x hx9
        simp only [Bool.and_eq_true, decide_eq_true_eq] at e3
        obtain ⟨⟨⟨⟨f1, f2⟩, f3⟩, f4⟩, f5⟩ := e3
        exact bc_cal (kind := 7) hC hk (hms _ List.mem_cons_self) ⟨cn, hd⟩ e1.1 e1.2 ⟨e2.imp Nat.eq_of_beq_eq_true Nat.eq_of_beq_eq_true, x, List.mem_of_getElem? hx9, f1, f2, f3, tbG_at f4, tbG_at f5, Nat.le_of_ble_eq_true e5, Nat.le_of_ble_eq_true e6⟩ hs
      · cases e3
    · cases hE
  | _ =>
    simp only [okQ, Bool.and_eq_true] at hE
    exact stp_btC (mp := MetPM) (a := k) hC hk hE.2 hE.1 hs
end
