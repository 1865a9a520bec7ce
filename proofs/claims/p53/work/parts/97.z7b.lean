/-! ===== the law's constants at the start ===== -/
def lnW (b : Nat) : Nat := match Nat.blt b 1320 with
  | true => (sQb.getD (b - 1300) []).length
  | false => 100
def elW (b j : Nat) : Nat := match Nat.blt b 1320 with
  | true => (sQb.getD (b - 1300) []).getD j 0
  | false => match Nat.beq b 1400 with
    | true => 48 + j % 10
    | false => 48 + j / 10
def arW : List Nat := (List.range 20).map (fun i => 1300 + i) ++ [1400, 1401]
def wCond (b : Nat) : List Cond := .exactly (tmC b) "[B" :: .arrayOf (tmC b) .byte :: .eq (.length (tmC b)) (.int (nI (lnW b))) :: (List.range (lnW b)).map (fun j => .eq (.elem (tmC b) (.int (nI j))) (.int (nI (elW b j))))
def allL : List Cond := (List.range 20).map (fun i => Cond.exactly (tmC (1200 + i)) "java/lang/String") ++ ((List.range 20).map (fun i => Cond.eq (.field (tmC (1200 + i)) "java/lang/String" "coder" "B") (.int (nI 0))) ++ arW.flatMap wCond)
def posM : List Nat := [440, 444, 455, 460, 469, 481, 486, 491, 498, 508, 518, 523, 534, 539, 549, 558, 567, 576, 586, 595, 441, 445, 456, 461, 470, 482, 487, 492, 499, 509, 519, 524, 535, 540, 550, 559, 568, 577, 587, 596] ++ ([716, 442, 443, 717, 446, 447, 448, 449, 450, 451, 452, 453, 454, 718, 457, 458, 459, 719, 462, 463, 464, 465, 466, 467, 468, 720, 471, 472, 473, 474, 475, 476, 477, 478, 479, 480, 721, 483, 484, 485] ++ ([722, 488, 489, 490, 723, 493, 494, 495, 496, 497, 724, 500, 501, 502, 503, 504, 505, 506, 507, 725, 510, 511, 512, 513, 514, 515, 516, 517, 726, 520, 521, 522, 727, 525, 526, 527, 528, 529, 530, 531] ++ ([532, 533, 728, 536, 537, 538, 729, 541, 542, 543, 544, 545, 546, 547, 548, 730, 551, 552, 553, 554, 555, 556, 557, 731, 560, 561, 562, 563, 564, 565, 566, 732, 569, 570, 571, 572, 573, 574, 575, 733] ++ ([578, 579, 580, 581, 582, 583, 584, 585, 734, 588, 589, 590, 591, 592, 593, 594, 735, 597, 598, 599, 600, 601, 602, 603, 604, 713, 48, 49, 50, 51, 52, 53, 54, 55, 56, 57, 58, 59, 60, 61] ++ ([62, 63, 64, 65, 66, 67, 68, 69, 70, 71, 72, 73, 74, 75, 76, 77, 78, 79, 80, 81, 82, 83, 84, 85, 86, 87, 88, 89, 90, 91, 92, 93, 94, 95, 96, 97, 98, 99, 100, 101] ++ ([102, 103, 104, 105, 106, 107, 108, 109, 110, 111, 112, 113, 114, 115, 116, 117, 118, 119, 120, 121, 122, 123, 124, 125, 126, 127, 128, 129, 130, 131, 132, 133, 134, 135, 136, 137, 138, 139, 140, 141] ++ ([142, 143, 144, 145, 146, 147, 148, 149, 714, 151, 152, 153, 154, 155, 156, 157, 158, 159, 160, 161, 162, 163, 164, 165, 166, 167, 168, 169, 170, 171, 172, 173, 174, 175, 176, 177, 178, 179, 180, 181] ++ ([182, 183, 184, 185, 186, 187, 188, 189, 190, 191, 192, 193, 194, 195, 196, 197, 198, 199, 200, 201, 202, 203, 204, 205, 206, 207, 208, 209, 210, 211, 212, 213, 214, 215, 216, 217, 218, 219, 220, 221] ++ ([222, 223, 224, 225, 226, 227, 228, 229, 230, 231, 232, 233, 234, 235, 236, 237, 238, 239, 240, 241, 242, 243, 244, 245, 246, 247, 248, 249, 250, 251, 252])))))))))
theorem allL_len : allL.length = posM.length := by decide +kernel
theorem allL_ok : (allL.zip posM).all (fun q => decide (nAt[q.2]? = some q.1)) = true := by decide +kernel
theorem allL_in {w : Cond} (hw : w ∈ allL) : w ∈ nAt := by
  obtain ⟨i, hi⟩ := List.getElem?_of_mem hw
  have hl : i < posM.length := by rw [← allL_len]; exact lt_of_get hi
  have h3 : (allL.zip posM)[i]? = some (w, posM[i]) := by
    rw [List.getElem?_zip_eq_some]
    exact ⟨hi, List.getElem?_eq_getElem hl⟩
  exact List.mem_of_getElem? (of_decide_eq_true (List.all_eq_true.mp allL_ok _ (List.mem_of_getElem? h3)))
theorem wl_s {i : Nat} (hi : i < 20) : Cond.exactly (tmC (1200 + i)) "java/lang/String" ∈ allL ∧ Cond.eq (.field (tmC (1200 + i)) "java/lang/String" "coder" "B") (.int (nI 0)) ∈ allL :=
  ⟨List.mem_append_left _ (List.mem_map.mpr ⟨i, List.mem_range.mpr hi, rfl⟩), List.mem_append_right _ (List.mem_append_left _ (List.mem_map.mpr ⟨i, List.mem_range.mpr hi, rfl⟩))⟩
theorem wl_a {b : Nat} {w : Cond} (hb : b ∈ arW) (hw : w ∈ wCond b) : w ∈ allL := List.mem_append_right _ (List.mem_append_right _ (List.mem_flatMap.mpr ⟨b, hb, hw⟩))
theorem lnW_lt {b : Nat} (hb : b ∈ arW) : lnW b < 2 ^ 31 := by
  have h9 : arW.all (fun b => Nat.ble (lnW b) 100) = true := by decide +kernel
  have : lnW b ≤ 100 := Nat.le_of_ble_eq_true (List.all_eq_true.mp h9 b hb)
  omega
theorem tm_13 : ∀ i, i < 20 → tmC (1300 + i) = .field (tmC (1200 + i)) "java/lang/String" "value" "[B" := by
  intro i hi
  have e1 : Nat.blt (1300 + i) 1100 = false := by
    cases y : Nat.blt (1300 + i) 1100
    · rfl
    · have := blt_of y; omega
  have e2 : Nat.blt (1300 + i) 1200 = false := by
    cases y : Nat.blt (1300 + i) 1200
    · rfl
    · have := blt_of y; omega
  have e3 : Nat.blt (1300 + i) 1300 = false := by
    cases y : Nat.blt (1300 + i) 1300
    · rfl
    · have := blt_of y; omega
  have f1 : Nat.blt (1200 + i) 1100 = false := by
    cases y : Nat.blt (1200 + i) 1100
    · rfl
    · have := blt_of y; omega
  have f2 : Nat.blt (1200 + i) 1200 = false := by
    cases y : Nat.blt (1200 + i) 1200
    · rfl
    · have := blt_of y; omega
  unfold tmC tmW
  rw [e1, e2, e3, f1, f2, Nat.blt_eq.mpr (show 1300 + i < 1400 by omega), Nat.blt_eq.mpr (show 1200 + i < 1300 by omega)]
  show Term.field (.string "WaveUpgradeLaw$World" (sQi.getD (1300 + i - 1300) (0, "")).1) _ _ _ = Term.field (.string "WaveUpgradeLaw$World" (sQi.getD (1200 + i - 1200) (0, "")).1) _ _ _
  rw [Nat.add_sub_cancel_left, Nat.add_sub_cancel_left]
theorem tm_12 : ∀ i, i < 20 → tmC (1200 + i) = .string "WaveUpgradeLaw$World" (sQi.getD i (0, "")).1 := by
  intro i hi
  have f1 : Nat.blt (1200 + i) 1100 = false := by
    cases y : Nat.blt (1200 + i) 1100
    · rfl
    · have := blt_of y; omega
  have f2 : Nat.blt (1200 + i) 1200 = false := by
    cases y : Nat.blt (1200 + i) 1200
    · rfl
    · have := blt_of y; omega
  unfold tmC tmW
  rw [f1, f2, Nat.blt_eq.mpr (show 1200 + i < 1300 by omega)]
  show Term.string "WaveUpgradeLaw$World" (sQi.getD (1200 + i - 1200) (0, "")).1 = _
  rw [Nat.add_sub_cancel_left]
/-- the heap at the start: the constants, the script -/
def hSi (xs : Nat → Int32) (n j : Nat) : Int32 := if n < 1300 then 0 else if n < 1402 then nI (elW n j) else if n = 1500 then xs j else 0
def hSr (n _j : Nat) : Option Nat := if 1200 ≤ n ∧ n < 1220 then some (n + 100) else none
def hSk (L n j : Nat) : Nat := if 1200 ≤ n ∧ n < 1220 then (if j = 0 then 35 else 0) else if (1300 ≤ n ∧ n < 1320) ∨ n = 1400 ∨ n = 1401 then (if j = 0 then 49 else lnW n) else if n = 1402 then (if j = 0 then 55 else 0) else if n = 1500 then (if j = 0 then 48 else L) else 0
def hS (xs : Nat → Int32) (L : Nat) : PH := (hSi xs, fun _ _ => 0, hSr, hSk L)
section
variable {args : Array Value} {s : State} {A : Nat → Prop} {ad : Nat → Nat} {xs : Nat → Int32} {L b n i : Nat}
theorem hS_k (h : 1000 ≤ n) : qkd (hS xs L) n = hSk L n 0 := by
  unfold qkd
  cases y : Nat.blt n 1000
  · rfl
  · have := blt_of y; omega
theorem ev_st (hn : ∀ w ∈ nAt, w.before args s = true) (hi : i < 20) : (tmC (1200 + i)).eval args s none [] s = some (.ref (adC args s (1200 + i))) := by
  obtain ⟨t, c, cell, k, q1, -⟩ := Cond.exactly_spec (args := args) (first := s) (o := none) (s := s) (idx := []) (t := tmC (1200 + i)) (cls := "java/lang/String") (hn _ (allL_in (wl_s hi).1))
  exact adC_of q1
theorem ev_by (hn : ∀ w ∈ nAt, w.before args s = true) (hA : ∀ a : Nat, a < s.heap.size → ¬ A a) (hb : b ∈ arW) : (tmC b).eval args s none [] s = some (.ref (adC args s b)) ∧ va_T .byte (adC args s b) (lnW b) (fun j => .int (nI (elW b j))) A s s.heap := by
  obtain ⟨u, hu, hT⟩ := va_Tof (tm := tmC b) (ty := .byte) (N := lnW b) (f := fun j => .int (nI (elW b j))) (lnW_lt hb) (hn _ (allL_in (wl_a hb (List.mem_cons_of_mem _ List.mem_cons_self)))) (va_eqt (hn _ (allL_in (wl_a hb (List.mem_cons_of_mem _ (List.mem_cons_of_mem _ List.mem_cons_self)))))) (fun j hj => va_eqt (hn _ (allL_in (wl_a hb (List.mem_cons_of_mem _ (List.mem_cons_of_mem _ (List.mem_cons_of_mem _ (List.mem_map.mpr ⟨j, List.mem_range.mpr hj, rfl⟩)))))))) hA
  have h6 := adC_of hu
  refine ⟨h6, ?_⟩
  rw [hu] at h6
  rw [← Value.ref.inj (Option.some.inj h6)]
  exact hT
theorem ar_13 (hi : i < 20) : 1300 + i ∈ arW := List.mem_append_left _ (List.mem_map.mpr ⟨i, List.mem_range.mpr hi, rfl⟩)
theorem ev_0 (hn : ∀ w ∈ nAt, w.before args s = true) (hA : ∀ a : Nat, a < s.heap.size → ¬ A a) : (tmC 1402).eval args s none [] s = some (.ref (adC args s 1402)) ∧ va_T (.object "java/lang/Object") (adC args s 1402) 0 (fun _ => .null) A s s.heap := by
  obtain ⟨u, hu, hT⟩ := va_Tof (tm := tmC 1402) (ty := .object "java/lang/Object") (N := 0) (f := fun _ => .null) (by decide) (hn _ (nAt_at (p := 44) (by decide +kernel))) (va_eqt (hn _ (nAt_at (p := 46) (by decide +kernel)))) (fun j hj => absurd hj (Nat.not_lt_zero j)) hA
  have h6 := adC_of hu
  refine ⟨h6, ?_⟩
  rw [hu] at h6
  rw [← Value.ref.inj (Option.some.inj h6)]
  exact hT
theorem KQ_start (hn : ∀ w ∈ nAt, w.before args s = true) (hA : ∀ a : Nat, a < s.heap.size → ¬ A a) (had : ∀ a, 1000 ≤ a → a < 1500 → ad a = adC args s a) (hX : va_X (ad 1500) L xs s s.heap) (hb : ad 1500 < s.heap.size) : KQ ad A s s.heap (hS xs L) := by
  intro n
  by_cases c0 : n < 1000
  · unfold kqF
    rw [show qkd (hS xs L) n = 0 by unfold qkd; rw [Nat.blt_eq.mpr c0]]
    exact Nat.zero_lt_succ _
  have ek := hS_k (xs := xs) (L := L) (n := n) (by omega)
  by_cases c1 : 1200 ≤ n ∧ n < 1220
  · obtain ⟨i, hi, rfl⟩ : ∃ i, i < 20 ∧ n = 1200 + i := ⟨n - 1200, by omega, by omega⟩
    have e : qkd (hS xs L) (1200 + i) = 35 := by rw [ek]; unfold hSk; rw [if_pos c1, if_pos rfl]
    have ev : (tmC (1200 + i)).eval args s none [] s = some (.ref (ad (1200 + i))) := by rw [had _ (by omega) (by omega)]; exact ev_st hn hi
    have er : gr (hS xs L) (1200 + i) 0 = some (1300 + i) := by
      show hSr (1200 + i) 0 = _
      unfold hSr
      rw [if_pos c1]
      congr 1
      omega
    have ei : gi (hS xs L) (1200 + i) 1 = 0 := by
      show hSi xs (1200 + i) 1 = 0
      unfold hSi
      rw [if_pos (by omega)]
    unfold kqF
    rw [e]
    refine ⟨by omega, va_Oof (hn _ (allL_in (wl_s hi).1)) ev hA, ?_, ?_⟩
    · rw [er]
      refine vk_OFof ev ?_ hA
      show _ = some (Value.ref (ad (1300 + i)))
      rw [← tm_13 i hi, had (1300 + i) (by omega) (by omega)]
      exact (ev_by hn hA (ar_13 hi)).1
    · rw [ei]
      exact vk_OFof ev (va_eqt (hn _ (allL_in (wl_s hi).2))) hA
  by_cases c2 : (1300 ≤ n ∧ n < 1320) ∨ n = 1400 ∨ n = 1401
  · have hb9 : n ∈ arW := by
      rcases c2 with z | z | z
      · obtain ⟨i, hi, rfl⟩ : ∃ i, i < 20 ∧ n = 1300 + i := ⟨n - 1300, by omega, by omega⟩
        exact ar_13 hi
      · subst z; exact List.mem_append_right _ List.mem_cons_self
      · subst z; exact List.mem_append_right _ (List.mem_cons_of_mem _ List.mem_cons_self)
    have e : qkd (hS xs L) n = 49 := by rw [ek]; unfold hSk; rw [if_neg c1, if_pos c2, if_pos rfl]
    have el : qln (hS xs L) n = lnW n := by
      show hSk L n 1 = _
      unfold hSk
      rw [if_neg c1, if_pos c2, if_neg (by decide)]
    have ei : ∀ j, gi (hS xs L) n j = nI (elW n j) := fun j => by
      show hSi xs n j = _
      unfold hSi
      rw [if_neg (by omega), if_pos (by omega)]
    unfold kqF
    rw [e]
    refine ⟨by omega, ?_⟩
    rw [el, had n (by omega) (by omega)]
    simp only [ei]
    exact (ev_by hn hA hb9).2
  by_cases c3 : n = 1402
  · subst c3
    have e : qkd (hS xs L) 1402 = 55 := by rw [ek]; rfl
    unfold kqF
    rw [e]
    refine ⟨by decide, ?_⟩
    rw [had 1402 (by decide) (by decide)]
    exact (ev_0 hn hA).2
  by_cases c4 : n = 1500
  · subst c4
    have e : qkd (hS xs L) 1500 = 48 := by rw [ek]; rfl
    unfold kqF
    rw [e]
    refine ⟨by decide, ?_⟩
    obtain ⟨cell, x1, x2, x3, x4, x5⟩ := hX
    exact ⟨cell, x1, x2, x3, Nat.le_of_eq x4.symm, by rw [show qln (hS xs L) 1500 = L from rfl, x4], x5, hA _ hb⟩
  · have e : qkd (hS xs L) n = 0 := by rw [ek]; unfold hSk; rw [if_neg c1, if_neg c2, if_neg c3, if_neg c4]
    unfold kqF
    rw [e]
    exact Nat.zero_lt_succ _
theorem Kc_start : Kc (hS xs L) := by
  refine ⟨⟨rfl, rfl⟩, ⟨rfl, rfl, fun i hi => rfl⟩, ⟨rfl, rfl, fun i hi => rfl⟩, fun i hi => ?_⟩
  have k1 : qkd (hS xs L) (1200 + i) = 35 := by rw [hS_k (by omega)]; unfold hSk; rw [if_pos (by omega), if_pos rfl]
  have c1 : ¬ (1200 ≤ 1300 + i ∧ 1300 + i < 1220) := by omega
  have c2 : (1300 ≤ 1300 + i ∧ 1300 + i < 1320) ∨ 1300 + i = 1400 ∨ 1300 + i = 1401 := Or.inl (by omega)
  have k2 : qkd (hS xs L) (1300 + i) = 49 := by rw [hS_k (by omega)]; unfold hSk; rw [if_neg c1, if_pos c2, if_pos rfl]
  have el : lnW (1300 + i) = (sQb.getD i []).length := by
    unfold lnW
    rw [Nat.blt_eq.mpr (show 1300 + i < 1320 by omega)]
    show (sQb.getD (1300 + i - 1300) []).length = _
    rw [Nat.add_sub_cancel_left]
  refine ⟨Or.inr k1, ?_, ?_, Or.inr k2, ?_, fun j hj => ?_, ?_⟩
  · show hSi xs (1200 + i) 1 = 0
    unfold hSi
    rw [if_pos (by omega)]
  · show hSr (1200 + i) 0 = _
    unfold hSr
    rw [if_pos (by omega)]
    congr 1
    omega
  · show hSk L (1300 + i) 1 = _
    unfold hSk
    rw [if_neg c1, if_pos c2, if_neg (by decide), el]
  · show hSi xs (1300 + i) j = _
    unfold hSi elW
    rw [if_neg (by omega), if_pos (by omega), Nat.blt_eq.mpr (show 1300 + i < 1320 by omega)]
    show nI ((sQb.getD (1300 + i - 1300) []).getD j 0) = _
    rw [Nat.add_sub_cancel_left]
  · have : ∀ i, i < 20 → (sQb.getD i []).all (fun b => Nat.blt b 128) = true ∧ (sQb.getD i []).length < 1000 := by decide +kernel
    obtain ⟨y1, y2⟩ := this i hi
    exact ⟨fun b hb => blt_of (List.all_eq_true.mp y1 b hb), y2⟩
end
