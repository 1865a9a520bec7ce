/-! ===== lemmas of the pure worlds ===== -/
theorem tbl_of {w : Jvm.Cond} (h : w ∈ tables_1) : w ∈ lw_tbl := List.mem_append_right _ h
theorem tbG_at {p : Nat} {w : Jvm.Cond} (h : atW p w = true) : w ∈ tbG := by
  simp only [atW, Bool.and_eq_true, decide_eq_true_eq] at h
  exact List.mem_filter.mpr ⟨tbl_of (List.mem_of_getElem? h.1), h.2⟩
theorem tbG_of (ws : List Jvm.Cond) (ps : List Nat) (hp : ws = ps.filterMap (fun i => tables_1[i]?)) (h : ws.all goodWord = true) : ∀ w ∈ ws, w ∈ tbG := by
  intro w hw
  have h1 := List.all_eq_true.mp h w hw
  rw [hp] at hw
  obtain ⟨i, -, hi⟩ := List.mem_filterMap.mp hw
  exact List.mem_filter.mpr ⟨tbl_of (List.mem_of_getElem? hi), h1⟩
theorem uin_1 : ∀ w ∈ u_ws RX1 TX1 4, w ∈ tbG := tbG_of (u_ws RX1 TX1 4) [312, 314, 316, 318] (by decide +kernel) (by decide +kernel)
theorem uin_3 : ∀ w ∈ u_ws RX3 TX3 3, w ∈ tbG := tbG_of (u_ws RX3 TX3 3) [212, 214, 216] (by decide +kernel) (by decide +kernel)
theorem uin_4 : ∀ w ∈ u_ws RX4 TX4 3, w ∈ tbG := tbG_of (u_ws RX4 TX4 3) [295, 297, 299] (by decide +kernel) (by decide +kernel)
theorem uin_5 : ∀ w ∈ u_ws RX5 TX5 18, w ∈ tbG := tbG_of (u_ws RX5 TX5 18) [159, 161, 163, 165, 167, 169, 171, 173, 175, 177, 179, 181, 183, 185, 187, 189, 191, 193] (by decide +kernel) (by decide +kernel)
theorem uin_6 : ∀ w ∈ u_ws RX6 TX6 2, w ∈ tbG := tbG_of (u_ws RX6 TX6 2) [103, 105] (by decide +kernel) (by decide +kernel)
theorem uin_7 : ∀ w ∈ u_ws RX7 TX7 10, w ∈ tbG := tbG_of (u_ws RX7 TX7 10) [339, 341, 343, 345, 347, 349, 351, 353, 355, 357] (by decide +kernel) (by decide +kernel)
theorem uin_8 : ∀ w ∈ u_ws RX8 TX8 16, w ∈ tbG := tbG_of (u_ws RX8 TX8 16) [249, 251, 253, 255, 257, 259, 261, 263, 265, 267, 269, 271, 273, 275, 277, 279] (by decide +kernel) (by decide +kernel)
theorem uin_10 : ∀ w ∈ u_ws RX10 TX10 9, w ∈ tbG := tbG_of (u_ws RX10 TX10 9) [63, 65, 67, 69, 71, 73, 75, 77, 79] (by decide +kernel) (by decide +kernel)
theorem uin_11 : ∀ w ∈ u_ws RX11 TX11 11, w ∈ tbG := tbG_of (u_ws RX11 TX11 11) [371, 373, 375, 377, 379, 381, 383, 385, 387, 389, 391] (by decide +kernel) (by decide +kernel)
theorem uin_X12 : ∀ w ∈ u_ws RX12 TX12 6, w ∈ tbG := tbG_of (u_ws RX12 TX12 6) [1139, 1141, 1143, 1145, 1147, 1149] (by decide +kernel) (by decide +kernel)
theorem uin_X13 : ∀ w ∈ u_ws RX13 TX13 28, w ∈ tbG := tbG_of (u_ws RX13 TX13 28) [805, 807, 809, 811, 813, 815, 817, 819, 821, 823, 825, 827, 829, 831, 833, 835, 837, 839, 841, 843, 845, 847, 849, 851, 853, 855, 857, 859] (by decide +kernel) (by decide +kernel)
theorem uin_J0 : ∀ w ∈ u_ws RJ0 TJ0 4, w ∈ tbG := tbG_of (u_ws RJ0 TJ0 4) [1096, 1098, 1100, 1102] (by decide +kernel) (by decide +kernel)
theorem uin_J4 : ∀ w ∈ u_ws RJ4 TJ4 4, w ∈ tbG := tbG_of (u_ws RJ4 TJ4 4) [883, 885, 887, 889] (by decide +kernel) (by decide +kernel)
theorem uin_Jx4a65c : ∀ w ∈ u_ws RJx4a65c TJx4a65c 3, w ∈ tbG := tbG_of (u_ws RJx4a65c TJx4a65c 3) [758, 754, 756] (by decide +kernel) (by decide +kernel)
theorem uin_Jx35411 : ∀ w ∈ u_ws RJx35411 TJx35411 4, w ∈ tbG := tbG_of (u_ws RJx35411 TJx35411 4) [1176, 1178, 1180, 1182] (by decide +kernel) (by decide +kernel)
theorem cl_ok {ci : Nat} {C : String} {T : u_T} {N : Nat} (h : pmCl[ci]? = some (C, T, N)) : (∀ w ∈ u_ws C T N, w ∈ tbG) ∧ (∃ ty0 : Nat → FieldType, ∀ k, k < N → parseFieldDescriptor (T k).2.2.1 = some (ty0 k)) ∧ (∀ a, a < N → ∀ b, b < N → a ≠ b → (T a).2.1 ≠ (T b).2.1) := by
  match ci, h with
  | 0, h => cases h; exact ⟨uin_1, ⟨_, tyX1_ok⟩, nmX1⟩
  | 1, h => cases h; exact ⟨uin_3, ⟨_, tyX3_ok⟩, nmX3⟩
  | 2, h => cases h; exact ⟨uin_4, ⟨_, tyX4_ok⟩, nmX4⟩
  | 3, h => cases h; exact ⟨uin_5, ⟨_, tyX5_ok⟩, nmX5⟩
  | 4, h => cases h; exact ⟨uin_6, ⟨_, tyX6_ok⟩, nmX6⟩
  | 5, h => cases h; exact ⟨uin_7, ⟨_, tyX7_ok⟩, nmX7⟩
  | 6, h => cases h; exact ⟨uin_8, ⟨_, tyX8_ok⟩, nmX8⟩
  | 7, h => cases h; exact ⟨uin_10, ⟨_, tyX10_ok⟩, nmX10⟩
  | 8, h => cases h; exact ⟨uin_11, ⟨_, tyX11_ok⟩, nmX11⟩
  | 9, h => cases h; exact ⟨uin_X12, ⟨_, tyX12_ok⟩, nmX12⟩
  | 10, h => cases h; exact ⟨uin_X13, ⟨_, tyX13_ok⟩, nmX13⟩
  | 11, h => cases h; exact ⟨uin_J0, ⟨_, tyJ0_ok⟩, nmJ0⟩
  | 12, h => cases h; exact ⟨uin_J4, ⟨_, tyJ4_ok⟩, nmJ4⟩
  | 13, h => cases h; exact ⟨uin_Jx4a65c, ⟨_, tyJx4a65c_ok⟩, nmJx4a65c⟩
  | 14, h => cases h; exact ⟨uin_Jx35411, ⟨_, tyJx35411_ok⟩, nmJx35411⟩
  | k + 15, h => cases h
/-! kinds -/
theorem kd_hi : (List.range 160).all (fun a => decide (a < NK) || (kd a).isNone) = true := by decide +kernel
theorem kd_lt {a : Nat} {q : Kd} (h : kd a = some q) : a < NK := by
  by_cases h1 : a < 160
  · have h2 := List.all_eq_true.mp kd_hi a (List.mem_range.mpr h1)
    simp only [Bool.or_eq_true, decide_eq_true_eq] at h2
    rcases h2 with h2 | h2
    · exact h2
    · rw [h] at h2; cases h2
  · exfalso
    have h3 : KSS.getD (a / 16) [] = [] := by
      have : KSS.length ≤ a / 16 := by
        have : KSS.length = 9 := rfl
        omega
      simp [List.getD_eq_getElem?_getD, List.getElem?_eq_none this]
    unfold kd at h
    rw [h3] at h
    cases h
theorem obC_of {a ci : Nat} (h : obC a ci = true) : ∃ rs, kd a = some (.inl (ci, rs)) := by
  unfold obC at h
  split at h
  · rename_i c rs hk
    rw [Nat.eq_of_beq_eq_true h] at hk
    exact ⟨rs, hk⟩
  · cases h
theorem arN_of {a t n : Nat} (h : arN a t = some n) : kd a = some (.inr (t, n)) := by
  unfold arN at h
  split at h
  · rename_i u n' hk
    split at h
    · rename_i hb
      cases h
      rw [Nat.eq_of_beq_eq_true hb] at hk
      exact hk
    · cases h
  · cases h
theorem arL_of {a n : Nat} (h : arL a = some n) : ∃ t, kd a = some (.inr (t, n)) := by
  unfold arL at h
  split at h
  · rename_i u n' hk
    cases h
    exact ⟨u, hk⟩
  · cases h
theorem wd_get {ad : Nat → Nat} {cA : Nat → ClassId} {h : PH} {a : Nat} (ha : a < NK) : (wd ad cA h)[a]? = some (ad a, cellE ad cA h a (kd a)) := by
  unfold wd
  rw [List.getElem?_map, List.getElem?_range ha]
  rfl
theorem wd_ob {ad : Nat → Nat} {cA : Nat → ClassId} {h : PH} {a ci : Nat} {rs : List (Option Nat)} (hk : kd a = some (.inl (ci, rs))) : (wd ad cA h)[a]? = some (ad a, .inr (ci, fvs ad h a ci rs)) := by
  rw [wd_get (kd_lt hk), hk]; rfl
theorem wd_ar {ad : Nat → Nat} {cA : Nat → ClassId} {h : PH} {a t n : Nat} (hk : kd a = some (.inr (t, n))) : (wd ad cA h)[a]? = some (ad a, .inl (cA t, n, aev ad h a t)) := by
  rw [wd_get (kd_lt hk), hk]; rfl
theorem wd_upd {ad : Nat → Nat} {cA : Nat → ClassId} {h h' : PH} {a : Nat} {E : va_E} (ha : a < NK) (hne : ∀ b, b ≠ a → cellE ad cA h' b (kd b) = cellE ad cA h b (kd b)) (hE : cellE ad cA h' a (kd a) = E) : (wd ad cA h).set a (ad a, E) = wd ad cA h' := by
  apply List.ext_getElem?
  intro b
  by_cases hb : b = a
  · subst hb
    rw [List.getElem?_set_self (by simpa [wd] using ha), wd_get ha, hE]
  · rw [List.getElem?_set_ne (Ne.symm hb)]
    by_cases hl : b < NK
    · rw [wd_get hl, wd_get hl, hne b hb]
    · rw [List.getElem?_eq_none (by simpa [wd] using hl), List.getElem?_eq_none (by simpa [wd] using hl)]
theorem up2_s {α : Type} (f : Nat → Nat → α) (a k : Nat) (x : α) : up2 f a k x a k = x := by simp [up2]
theorem up2_a {α : Type} (f : Nat → Nat → α) {a b : Nat} (k : Nat) (x : α) (h : b ≠ a) : up2 f a k x b = f b := by funext j; simp [up2, h]
theorem up2_k {α : Type} (f : Nat → Nat → α) (a : Nat) {k j : Nat} (x : α) (h : j ≠ k) : up2 f a k x a j = f a j := by simp [up2, h]
theorem cellE_eq {ad : Nat → Nat} {cA : Nat → ClassId} {h h' : PH} {b : Nat} (h1 : h'.1 b = h.1 b) (h2 : h'.2.1 b = h.2.1 b) (h3 : h'.2.2.1 b = h.2.2.1 b) (h4 : h'.2.2.2 b = h.2.2.2 b) (q : Option Kd) : cellE ad cA h' b q = cellE ad cA h b q := by
  have hf : ∀ rs so j, fv ad h' b rs so j = fv ad h b rs so j := by
    intro rs so j
    unfold fv gi gl
    rw [h1, h2]
  have ha : ∀ t, aev ad h' b t = aev ad h b t := by
    intro t
    unfold aev
    rw [h1, h2, h3]
  rcases q with _ | ⟨ci, rs⟩ | ⟨t, n⟩
  · rfl
  · simp only [cellE, fvs, hf]
  · simp only [cellE, ha]
theorem fvs_len {ad : Nat → Nat} {h : PH} {a ci : Nat} {rs : List (Option Nat)} : (fvs ad h a ci rs).length = (fso ci).length := by simp [fvs]
theorem fvs_get {ad : Nat → Nat} {h : PH} {a ci : Nat} {rs : List (Option Nat)} {j so : Nat} (hj : (fso ci).getD j 9 = so) (h9 : so ≠ 9) : (fvs ad h a ci rs)[j]? = some (fv ad h a rs so j) := by
  have hl : j < (fso ci).length := by
    rcases Nat.lt_or_ge j (fso ci).length with q | q
    · exact q
    · exfalso; apply h9; rw [← hj]; simp [List.getD_eq_getElem?_getD, List.getElem?_eq_none q]
  unfold fvs
  rw [List.getElem?_map, List.getElem?_range hl]
  have : (fso ci).getD j 0 = so := by
    rw [← hj]; simp [List.getD_eq_getElem?_getD, List.getElem?_eq_getElem hl]
  rw [List.getD_eq_getElem?_getD] at this
  simp [this]
theorem fvs_set {ad : Nat → Nat} {h h' : PH} {a ci : Nat} {rs : List (Option Nat)} {j : Nat} {v : Value} (hj : fv ad h' a rs ((fso ci).getD j 0) j = v) (hne : ∀ k, k ≠ j → fv ad h' a rs ((fso ci).getD k 0) k = fv ad h a rs ((fso ci).getD k 0) k) : (fvs ad h a ci rs).set j v = fvs ad h' a ci rs := by
  apply List.ext_getElem?
  intro k
  by_cases hk : k = j
  · subst hk
    by_cases hl : k < (fso ci).length
    · rw [List.getElem?_set_self (by rw [fvs_len]; exact hl)]
      unfold fvs
      rw [List.getElem?_map, List.getElem?_range hl]
      simp only [Option.map_some]
      rw [hj]
    · rw [List.getElem?_eq_none (by rw [List.length_set, fvs_len]; omega), List.getElem?_eq_none (by rw [fvs_len]; omega)]
  · rw [List.getElem?_set_ne (Ne.symm hk)]
    by_cases hl : k < (fso ci).length
    · unfold fvs
      rw [List.getElem?_map, List.getElem?_map, List.getElem?_range hl]
      simp only [Option.map_some]
      rw [hne k hk]
    · rw [List.getElem?_eq_none (by rw [fvs_len]; omega), List.getElem?_eq_none (by rw [fvs_len]; omega)]
theorem wd_si {ad : Nat → Nat} {cA : Nat → ClassId} {h : PH} {a ci j : Nat} {rs : List (Option Nat)} {x : Int32} (hk : kd a = some (.inl (ci, rs))) (hj : (fso ci).getD j 9 = 0) : (wd ad cA h).set a (ad a, .inr (ci, (fvs ad h a ci rs).set j (.int x))) = wd ad cA (si h a j x) := by
  refine wd_upd (kd_lt hk) (fun b hb => cellE_eq (h := h) (h' := si h a j x) (up2_a _ _ _ hb) rfl rfl rfl _) ?_
  rw [hk]
  show Sum.inr (ci, fvs ad (si h a j x) a ci rs) = _
  rw [fvs_set (h := h) (h' := si h a j x) (v := .int x)]
  · have h0 : (fso ci).getD j 0 = 0 := by
      rcases Nat.lt_or_ge j (fso ci).length with q | q
      · rw [← hj]; simp [List.getD_eq_getElem?_getD, List.getElem?_eq_getElem q]
      · simp [List.getD_eq_getElem?_getD, List.getElem?_eq_none q]
    rw [h0]
    show Value.int (up2 h.1 a j x a j) = _
    rw [up2_s]
  · intro k hk
    unfold fv gi gl si
    simp only
    rw [up2_k _ _ _ hk]
theorem wd_sl {ad : Nat → Nat} {cA : Nat → ClassId} {h : PH} {a ci j : Nat} {rs : List (Option Nat)} {x : Int64} (hk : kd a = some (.inl (ci, rs))) (hj : (fso ci).getD j 9 = 1) : (wd ad cA h).set a (ad a, .inr (ci, (fvs ad h a ci rs).set j (.long x))) = wd ad cA (sl h a j x) := by
  refine wd_upd (kd_lt hk) (fun b hb => cellE_eq (h := h) (h' := sl h a j x) rfl (up2_a _ _ _ hb) rfl rfl _) ?_
  rw [hk]
  show Sum.inr (ci, fvs ad (sl h a j x) a ci rs) = _
  rw [fvs_set (h := h) (h' := sl h a j x) (v := .long x)]
  · have h0 : (fso ci).getD j 0 = 1 := by
      rcases Nat.lt_or_ge j (fso ci).length with q | q
      · rw [← hj]; simp [List.getD_eq_getElem?_getD, List.getElem?_eq_getElem q]
      · exfalso; rw [List.getD_eq_getElem?_getD, List.getElem?_eq_none q] at hj; cases hj
    rw [h0]
    show Value.long (up2 h.2.1 a j x a j) = _
    rw [up2_s]
  · intro k hk
    unfold fv gi gl sl
    simp only
    rw [up2_k _ _ _ hk]
theorem wd_sai {ad : Nat → Nat} {cA : Nat → ClassId} {h : PH} {a n k : Nat} {x : Int32} {t : Nat} (hk : kd a = some (.inr (t, n))) (ht : t = 0 ∨ t = 1) : (wd ad cA h).set a (ad a, .inl (cA t, n, .inl (upd (h.1 a) k x))) = wd ad cA (si h a k x) := by
  refine wd_upd (kd_lt hk) (fun b hb => cellE_eq (h := h) (h' := si h a k x) (up2_a _ _ _ hb) rfl rfl rfl _) ?_
  rw [hk]
  have e : up2 h.1 a k x a = upd (h.1 a) k x := by funext j; simp [up2, upd]
  rcases ht with rfl | rfl
  · show Sum.inl (cA 0, n, Sum.inl (up2 h.1 a k x a)) = _
    rw [e]
  · show Sum.inl (cA 1, n, Sum.inl (up2 h.1 a k x a)) = _
    rw [e]
theorem wd_sal {ad : Nat → Nat} {cA : Nat → ClassId} {h : PH} {a n k : Nat} {x : Int64} (hk : kd a = some (.inr (2, n))) : (wd ad cA h).set a (ad a, .inl (cA 2, n, .inr (.inl (vp_updL (h.2.1 a) k x)))) = wd ad cA (sl h a k x) := by
  refine wd_upd (kd_lt hk) (fun b hb => cellE_eq (h := h) (h' := sl h a k x) rfl (up2_a _ _ _ hb) rfl rfl _) ?_
  rw [hk]
  have e : up2 h.2.1 a k x a = vp_updL (h.2.1 a) k x := by funext j; simp [up2, vp_updL]
  show Sum.inl (cA 2, n, Sum.inr (Sum.inl (up2 h.2.1 a k x a))) = _
  rw [e]
theorem wd_cpi {ad : Nat → Nat} {cA : Nat → ClassId} {h : PH} {a b n sp dp m : Nat} (hk : kd b = some (.inr (0, n))) : (wd ad cA h).set b (ad b, .inl (cA 0, n, .inl (va_cpy (h.1 a) (h.1 b) sp dp m))) = wd ad cA (cpi h a sp b dp m) := by
  refine wd_upd (kd_lt hk) (fun c hc => cellE_eq (h := h) (h' := cpi h a sp b dp m) (by show (if c = b then _ else _) = _; rw [if_neg hc]) rfl rfl rfl _) ?_
  rw [hk]
  show Sum.inl (cA 0, n, Sum.inl (if b = b then _ else _)) = _
  rw [if_pos rfl]
theorem wd_cpl {ad : Nat → Nat} {cA : Nat → ClassId} {h : PH} {a b n sp dp m : Nat} (hk : kd b = some (.inr (2, n))) : (wd ad cA h).set b (ad b, .inl (cA 2, n, .inr (.inl (va_cpy (h.2.1 a) (h.2.1 b) sp dp m)))) = wd ad cA (cpl h a sp b dp m) := by
  refine wd_upd (kd_lt hk) (fun c hc => cellE_eq (h := h) (h' := cpl h a sp b dp m) rfl (by show (if c = b then _ else _) = _; rw [if_neg hc]) rfl rfl _) ?_
  rw [hk]
  show Sum.inl (cA 2, n, Sum.inr (Sum.inl (if b = b then _ else _))) = _
  rw [if_pos rfl]
/-! locals -/
theorem tr_cat (ad : Nat → Nat) (v : Value) : (tr ad v).category = v.category := by cases v <;> rfl
theorem tl_mem {ad : Nat → Nat} {ls : Lc} {q : Nat × Value} : q ∈ tl ad ls ↔ ∃ v, ls.getD q.1 none = some v ∧ q.2 = tr ad v := by
  unfold tl
  rw [List.mem_filterMap]
  constructor
  · rintro ⟨i, -, hi⟩
    cases hv : ls.getD i none with
    | none => rw [hv] at hi; cases hi
    | some v => rw [hv] at hi; cases hi; exact ⟨v, hv, rfl⟩
  · rintro ⟨v, hv, he⟩
    refine ⟨q.1, ?_, by rw [hv]; show some (q.1, tr ad v) = some q; rw [← he]⟩
    rw [List.mem_range]
    rcases Nat.lt_or_ge q.1 ls.length with h | h
    · exact h
    · rw [List.getD_eq_getElem?_getD, List.getElem?_eq_none h] at hv; cases hv
theorem tl_get {ad : Nat → Nat} {ls : Lc} {lsA : Array Slot} {n i : Nat} {v : Value} (hl : lv_has lsA n (tl ad ls)) (h : lget ls i = some v) : lsA[i]? = some (.val (tr ad v)) :=
  hl.2.2 (i, tr ad v) (tl_mem.mpr ⟨v, h, rfl⟩)
theorem lv_mono {lsA : Array Slot} {n : Nat} {l l' : List (Nat × Value)} (h : lv_has lsA n l) (hs : ∀ q ∈ l', q ∈ l) : lv_has lsA n l' := ⟨h.1, h.2.1, fun q hq => h.2.2 q (hs q hq)⟩
theorem getD_set {ls : Lc} {i j : Nat} {o : Option Value} {v : Value} (h : (ls.set i o).getD j none = some v) : (j = i ∧ o = some v) ∨ (j ≠ i ∧ ls.getD j none = some v) := by
  by_cases hj : j = i
  · subst hj
    rcases Nat.lt_or_ge j ls.length with q | q
    · rw [List.getD_eq_getElem?_getD, List.getElem?_set_self q] at h
      exact Or.inl ⟨rfl, h⟩
    · rw [List.getD_eq_getElem?_getD, List.getElem?_eq_none (by rw [List.length_set]; exact q)] at h
      cases h
  · rw [List.getD_eq_getElem?_getD, List.getElem?_set_ne (Ne.symm hj), ← List.getD_eq_getElem?_getD] at h
    exact Or.inr ⟨hj, h⟩
theorem lclr_get {ls : Lc} {i j : Nat} {v : Value} (h : (lclr ls i).getD j none = some v) : ls.getD j none = some v ∧ (j + 1 = i → v.category ≠ 2) := by
  cases i with
  | zero => exact ⟨h, fun q => by cases q⟩
  | succ i =>
    have h' : (match ls.getD i none with
      | some w => (match w.category with
        | 2 => ls.set i none
        | _ => ls)
      | none => ls).getD j none = some v := h
    cases hw : ls.getD i none with
    | none =>
      rw [hw] at h'
      have h2 : ls.getD j none = some v := h'
      refine ⟨h2, fun e => ?_⟩
      have hji : j = i := by omega
      subst hji
      rw [hw] at h2
      cases h2
    | some w =>
      rw [hw] at h'
      by_cases hc : w.category = 2
      · have h2 : (ls.set i none).getD j none = some v := by
          cases w <;> first | exact h' | cases hc
        rcases getD_set h2 with ⟨-, q⟩ | ⟨q, q2⟩
        · cases q
        · exact ⟨q2, fun e => absurd (by omega) q⟩
      · have h2 : ls.getD j none = some v := by
          cases w <;> first | exact h' | exact absurd rfl hc
        refine ⟨h2, fun e => ?_⟩
        have hji : j = i := by omega
        subst hji
        rw [hw] at h2
        cases h2
        exact hc
theorem tl_put1 {ad : Nat → Nat} {ls : Lc} {i : Nat} {v : Value} : ∀ q ∈ tl ad (lput1 ls i v), q ∈ (i, tr ad v) :: (tl ad ls).filter (fun q => !(q.1 == i) && !(q.1 + 1 == i && q.2.category == 2)) := by
  intro q hq
  obtain ⟨u, hu, he⟩ := tl_mem.mp hq
  rcases getD_set hu with ⟨h1, h2⟩ | ⟨h1, h2⟩
  · cases h2
    have : q = (i, tr ad v) := by rw [← h1, ← he]
    rw [this]
    exact List.mem_cons_self
  · obtain ⟨h3, h4⟩ := lclr_get h2
    refine List.mem_cons_of_mem _ (List.mem_filter.mpr ⟨tl_mem.mpr ⟨u, h3, he⟩, ?_⟩)
    rw [he, tr_cat]
    by_cases h5 : q.1 + 1 = i
    · simp [h1, h4 h5]
    · simp [h1, h5]
theorem tl_put2 {ad : Nat → Nat} {ls : Lc} {i : Nat} {v : Value} : ∀ q ∈ tl ad (lput2 ls i v), q ∈ (i, tr ad v) :: (tl ad ls).filter (fun q => !(q.1 == i) && (!(q.1 == i + 1) && !(q.1 + 1 == i && q.2.category == 2))) := by
  intro q hq
  obtain ⟨u, hu, he⟩ := tl_mem.mp hq
  rcases getD_set hu with ⟨-, h2⟩ | ⟨h0, hu⟩
  · cases h2
  rcases getD_set hu with ⟨h1, h2⟩ | ⟨h1, h2⟩
  · cases h2
    have : q = (i, tr ad v) := by rw [← h1, ← he]
    rw [this]
    exact List.mem_cons_self
  · obtain ⟨h3, h4⟩ := lclr_get h2
    refine List.mem_cons_of_mem _ (List.mem_filter.mpr ⟨tl_mem.mpr ⟨u, h3, he⟩, ?_⟩)
    rw [he, tr_cat]
    by_cases h5 : q.1 + 1 = i
    · simp [h0, h1, h4 h5]
    · simp [h0, h1, h5]
theorem tl_put0 {ad : Nat → Nat} {ls : Lc} {i : Nat} {w : Value} : ∀ q ∈ tl ad (lput0 ls i), q ∈ (i, w) :: (tl ad ls).filter (fun q => !(q.1 == i) && !(q.1 + 1 == i && q.2.category == 2)) := by
  intro q hq
  obtain ⟨u, hu, he⟩ := tl_mem.mp hq
  rcases getD_set hu with ⟨-, h2⟩ | ⟨h1, h2⟩
  · cases h2
  · obtain ⟨h3, h4⟩ := lclr_get h2
    refine List.mem_cons_of_mem _ (List.mem_filter.mpr ⟨tl_mem.mpr ⟨u, h3, he⟩, ?_⟩)
    rw [he, tr_cat]
    by_cases h5 : q.1 + 1 = i
    · simp [h1, h4 h5]
    · simp [h1, h5]
theorem cI_ofInt (n : Int) : Int32.ofInt n = cI n := by
  cases n with
  | ofNat k => rfl
  | negSucc k =>
    show Int32.ofInt (Int.negSucc k) = -(nI (k + 1))
    rw [Int.negSucc_eq]
    first
      | rw [Int32.ofInt_neg]; rfl
      | simp [Int32.ofInt_neg, nI]
