/-! ===== what the start holds beside the world ===== -/
def nAt : List Cond := flatC (Jvm.Cond.and given_1 narrow_1)
def stN (i : Nat) : String := ["VERSION", "TALKS", "PLACE", "MEMBER", "LINK", "WAVE", "FORMAT", "SKEW", "DOWN", "TAKES", "SOAK", "LIMIT"].getD i ""
def cmN (i : Nat) : String := [].getD i ""
def stK (i : Nat) : Nat := [83, 89, 92, 95, 98, 101, 104, 107, 110, 113, 116, 119].getD i 0
def cmK (i : Nat) : Nat := [].getD i 0
def tmS (a : Nat) : Term := match Nat.blt a 1012 with
  | true => .static "WaveUpgrade$Statement" (stN (a - 1000)) "LWaveUpgrade$Statement;"
  | false => match Nat.blt a 1030 with
    | true => .static "WaveUpgrade$Command" (cmN (a - 1020)) "LWaveUpgrade$Command;"
    | false => match Nat.blt a 1052 with
      | true => .string "WaveUpgrade$Statement" (stK (a - 1040))
      | false => match Nat.blt a 1070 with
        | true => .string "WaveUpgrade$Command" (cmK (a - 1060))
        | false => match a with
          | 1080 => .static "WaveUpgrade$Statement" "ALL" "[LWaveUpgrade$Statement;"
          | 1081 => .static "WaveUpgrade$Command" "ALL" "[LWaveUpgrade$Command;"
          | 1082 => .static "WaveUpgrade$1" "$SwitchMap$WaveUpgrade$Statement" "[I"
          | 1083 => .static "WaveUpgrade$1" "$SwitchMap$WaveUpgrade$Command" "[I"
          | 1090 => .static cPre cFmt cBiF
          | _ => .string "WaveUpgrade$ClusterReader" 165
/-- the law's own constants -/
def tmW (a : Nat) : Term := match Nat.blt a 1300 with
  | true => .string "WaveUpgradeLaw$World" (sQi.getD (a - 1200) (0, "")).1
  | false => match Nat.blt a 1400 with
    | true => .field (.string "WaveUpgradeLaw$World" (sQi.getD (a - 1300) (0, "")).1) "java/lang/String" "value" "[B"
    | false => match a with
      | 1400 => .static "java/lang/Integer" "DigitOnes" "[B"
      | 1401 => .static "java/lang/Integer" "DigitTens" "[B"
      | 1402 => .static "java/util/ArrayList" "DEFAULTCAPACITY_EMPTY_ELEMENTDATA" "[Ljava/lang/Object;"
      | 1410 => .mirror "[Ljava/lang/Object;"
      | _ => .arg 0
/-- a constant's term in the premises -/
def tmC (a : Nat) : Term := match Nat.blt a 1100 with
  | true => tmS a
  | false => match Nat.blt a 1200 with
    | true => .field (tmS (a - 60)) "java/lang/String" "value" "[B"
    | false => tmW a
def obs : List (Nat × Nat) := (List.range 12).map (fun i => (1000 + i, 20)) ++ ((List.range 12).map (fun i => (1040 + i, 22)) ++ [(1084, 22)])
def fjs (ci : Nat) : List Nat := match ci with
  | 20 => [0, 1, 2, 3, 9]
  | 21 => [0, 1, 2, 3, 4, 9]
  | _ => [1]
def fCond (a ci j : Nat) : Cond := match cFld ci j with
  | some (o, n, d, true) => .eq (.field (tmC a) o n d) (tmC (cfr a))
  | some (o, n, d, false) => .eq (.field (tmC a) o n d) (.int (cfv a j))
  | none => .count 1
def aas : List (Nat × Nat) := [(1082, 0)] ++ ((List.range 12).map (fun i => (1100 + i, 1)) ++ [(1144, 1), (1080, 4)])
def eTm (b t j : Nat) : Term := match t with
  | 0 => .int (csw b j)
  | 1 => .int (cby b j)
  | _ => tmC (cel b j)
def eCond (b t j : Nat) : Cond := .eq (.elem (tmC b) (.int (nI j))) (eTm b t j)
def lCond (b : Nat) : Cond := .eq (.length (tmC b)) (.int (nI (cln b)))
def allC : List Cond := obs.map (fun q => .exactly (tmC q.1) (cNm q.2)) ++ (obs.flatMap (fun q => (fjs q.2).map (fCond q.1 q.2)) ++ aas.flatMap (fun q => .arrayOf (tmC q.1) (cTy q.2) :: lCond q.1 :: (List.range (cln q.1)).map (eCond q.1 q.2)))
def posL : List Nat := [253, 259, 266, 274, 283, 293, 304, 316, 329, 343, 358, 374, 605, 616, 625, 634, 644, 652, 660, 670, 678, 686, 695, 703, 432, 255, 256, 257, 258, 254, 261, 262, 263, 264, 260, 268, 269, 270, 271, 267, 276, 277, 278, 279, 275, 285, 286, 287, 288, 284, 295, 296, 297, 298, 294, 306, 307, 308, 309, 305, 318, 319, 320, 321, 317, 331, 332, 333, 334, 330, 345, 346, 347, 348, 344, 360, 361, 362, 363, 359, 376, 377, 378, 379, 375, 606, 617, 626, 635, 645, 653, 661, 671, 679, 687, 696, 704, 433, 27, 28, 29, 30, 31, 32, 33, 34, 35, 36, 37, 38, 39, 40, 607, 608, 609, 610, 611, 612, 613, 614, 615, 618, 619, 620, 621, 622, 623, 624, 627, 628, 629, 630, 631, 632, 633, 636, 637, 638, 639, 640, 641, 642, 643, 646, 647, 648, 649, 650, 651, 654, 655, 656, 657, 658, 659, 662, 663, 664, 665, 666, 667, 668, 669, 672, 673, 674, 675, 676, 677, 680, 681, 682, 683, 684, 685, 688, 689, 690, 691, 692, 693, 694, 697, 698, 699, 700, 701, 702, 705, 706, 707, 708, 709, 710, 711, 434, 435, 436, 437, 438, 439, 6, 7, 9, 10, 11, 12, 13, 14, 15, 16, 17, 18, 19, 20]
theorem allC_len : allC.length = posL.length := by decide +kernel
theorem allC_ok : (allC.zip posL).all (fun q => decide (nAt[q.2]? = some q.1)) = true := by decide +kernel
theorem allC_in {w : Cond} (hw : w ∈ allC) : w ∈ nAt := by
  obtain ⟨i, hi⟩ := List.getElem?_of_mem hw
  have hl : i < posL.length := by rw [← allC_len]; exact lt_of_get hi
  have h3 : (allC.zip posL)[i]? = some (w, posL[i]) := by
    rw [List.getElem?_zip_eq_some]
    exact ⟨hi, List.getElem?_eq_getElem hl⟩
  exact List.mem_of_getElem? (of_decide_eq_true (List.all_eq_true.mp allC_ok _ (List.mem_of_getElem? h3)))
theorem nAt_at {p : Nat} {w : Cond} (h : decide (nAt[p]? = some w) = true) : w ∈ nAt := List.mem_of_getElem? (of_decide_eq_true h)
theorem obs_of {a ci : Nat} (h : cOk a ci) : (a, ci) ∈ obs := by
  have mr : ∀ (n b c : Nat), b ≤ a → a < b + n → (a, c) ∈ (List.range n).map (fun i => (b + i, c)) := fun n b c h1 h2 => List.mem_map.mpr ⟨a - b, List.mem_range.mpr (by omega), by rw [show b + (a - b) = a by omega]⟩
  unfold obs
  rcases h with ⟨rfl, h1, h2⟩ | ⟨rfl, h1, h2⟩ | ⟨rfl, ⟨h1, h2⟩ | ⟨h1, h2⟩ | rfl⟩
  · exact List.mem_append_left _ (mr 12 1000 20 h1 h2)
  · omega
  · exact List.mem_append_right _ (List.mem_append_left _ (mr 12 1040 22 h1 h2))
  · omega
  · exact List.mem_append_right _ (List.mem_append_right _ List.mem_cons_self)
theorem aas_of {b t : Nat} (h : cAr b t) : (b, t) ∈ aas := by
  have mr : ∀ (n a c : Nat), a ≤ b → b < a + n → (b, c) ∈ (List.range n).map (fun i => (a + i, c)) := fun n a c h1 h2 => List.mem_map.mpr ⟨b - a, List.mem_range.mpr (by omega), by rw [show a + (b - a) = b by omega]⟩
  unfold aas
  rcases h with ⟨rfl, rfl | ⟨h1, h2⟩⟩ | ⟨rfl, ⟨h1, h2⟩ | ⟨h1, h2⟩ | rfl⟩ | ⟨rfl, rfl⟩ | ⟨rfl, h1, h2⟩
  · exact List.mem_append_left _ List.mem_cons_self
  · omega
  · exact List.mem_append_right _ (List.mem_append_left _ (mr 12 1100 1 h1 h2))
  · omega
  · exact List.mem_append_right _ (List.mem_append_right _ List.mem_cons_self)
  · exact List.mem_append_right _ (List.mem_append_right _ (List.mem_cons_of_mem _ List.mem_cons_self))
  · omega
theorem ca_ob {a ci : Nat} (h : (a, ci) ∈ obs) : Cond.exactly (tmC a) (cNm ci) ∈ allC := List.mem_append_left _ (List.mem_map.mpr ⟨_, h, rfl⟩)
theorem ca_fl {a ci j : Nat} (h : (a, ci) ∈ obs) (hj : j ∈ fjs ci) : fCond a ci j ∈ allC := List.mem_append_right _ (List.mem_append_left _ (List.mem_flatMap.mpr ⟨_, h, List.mem_map.mpr ⟨j, hj, rfl⟩⟩))
theorem ca_ar {b t : Nat} (h : (b, t) ∈ aas) : Cond.arrayOf (tmC b) (cTy t) ∈ allC ∧ lCond b ∈ allC ∧ ∀ j, j < cln b → eCond b t j ∈ allC := by
  have mk9 : ∀ w, w ∈ (Cond.arrayOf (tmC b) (cTy t) :: lCond b :: (List.range (cln b)).map (eCond b t)) → w ∈ allC := fun w hw => List.mem_append_right _ (List.mem_append_right _ (List.mem_flatMap.mpr ⟨(b, t), h, hw⟩))
  exact ⟨mk9 _ List.mem_cons_self, mk9 _ (List.mem_cons_of_mem _ List.mem_cons_self), fun j hj => mk9 _ (List.mem_cons_of_mem _ (List.mem_cons_of_mem _ (List.mem_map.mpr ⟨j, List.mem_range.mpr hj, rfl⟩)))⟩
theorem cln_lt {b t : Nat} (h : (b, t) ∈ aas) : cln b < 2 ^ 31 := by
  have h9 : aas.all (fun q => Nat.blt (cln q.1) 100) = true := by decide +kernel
  have := blt_of (List.all_eq_true.mp h9 _ h)
  have h8 : cln b < 100 := this
  omega
theorem obs_lt {a ci : Nat} (h : (a, ci) ∈ obs) : a < 1500 := by
  have h9 : obs.all (fun q => Nat.blt q.1 1500) = true := by decide +kernel
  exact blt_of (List.all_eq_true.mp h9 _ h)
theorem aas_lt {b t : Nat} (h : (b, t) ∈ aas) : b < 1500 := by
  have h9 : aas.all (fun q => Nat.blt q.1 1500) = true := by decide +kernel
  exact blt_of (List.all_eq_true.mp h9 _ h)
theorem cF_j {ci j : Nat} {q : String × String × String × Bool} (h : cFld ci j = some q) : j ∈ fjs ci ∨ (ci = 22 ∧ j = 0) := by
  unfold cFld at h
  split at h
  all_goals first
    | (exact Or.inl (by decide))
    | (exact Or.inr ⟨rfl, rfl⟩)
    | (cases h)
section
variable {args : Array Value} {s : State} {A : Nat → Prop} {ad : Nat → Nat}
/-- where a constant lies -/
def adC (args : Array Value) (s : State) (a : Nat) : Nat := match (tmC a).eval args s none [] s with
  | some (.ref t) => t
  | _ => 0
theorem adC_of {a t : Nat} (h : (tmC a).eval args s none [] s = some (.ref t)) : (tmC a).eval args s none [] s = some (.ref (adC args s a)) := by
  unfold adC
  rw [h]
theorem ev_ob (hn : ∀ w ∈ nAt, w.before args s = true) {a ci : Nat} (h : (a, ci) ∈ obs) : (tmC a).eval args s none [] s = some (.ref (adC args s a)) := by
  obtain ⟨t, c, cell, k, q1, -⟩ := Cond.exactly_spec (args := args) (first := s) (o := none) (s := s) (idx := []) (t := tmC a) (cls := cNm ci) (hn _ (allC_in (ca_ob h)))
  exact adC_of q1
theorem cel_ob {b t j : Nat} (h : cAr b t) (hj : j < cln b) (h4 : t ≠ 0 ∧ t ≠ 1) : ∃ ci, (cel b j, ci) ∈ obs := by
  rcases h with ⟨rfl, _⟩ | ⟨rfl, _⟩ | ⟨rfl, rfl⟩ | ⟨rfl, h1, h2⟩
  · exact absurd rfl h4.1
  · exact absurd rfl h4.2
  · have hj : j < 12 := hj
    exact ⟨20, obs_of (Or.inl ⟨rfl, Nat.le_add_right _ _, by show 1000 + j < 1012; omega⟩)⟩
  · omega
theorem cAr_t {b t : Nat} (h : cAr b t) : t = 0 ∨ t = 1 ∨ t = 4 ∨ t = 5 := by
  rcases h with ⟨h, _⟩ | ⟨h, _⟩ | ⟨h, _⟩ | ⟨h, _⟩ <;> omega
theorem ev_ar (hn : ∀ w ∈ nAt, w.before args s = true) (hA : ∀ a : Nat, a < s.heap.size → ¬ A a) (had : ∀ a, 1000 ≤ a → a < 1500 → ad a = adC args s a) {b t : Nat} (h : cAr b t) : (tmC b).eval args s none [] s = some (.ref (adC args s b)) ∧ va_T (cTy t) (adC args s b) (cln b) (cEv ad t b) A s s.heap := by
  have hm := aas_of h
  obtain ⟨h1, h2, h3⟩ := ca_ar hm
  obtain ⟨u, hu, hT⟩ := va_Tof (tm := tmC b) (ty := cTy t) (N := cln b) (f := cEv ad t b) (cln_lt hm) (hn _ (allC_in h1)) (va_eqt (hn _ (allC_in h2))) (fun j hj => by
    have h5 := hn _ (allC_in (h3 j hj))
    refine va_eqv h5 ?_
    rcases cAr_t h with rfl | rfl | rfl | rfl
    · rfl
    · rfl
    · obtain ⟨ci, ho⟩ := cel_ob h hj (by decide)
      show (tmC (cel b j)).eval args s none [] s = some (.ref (ad (cel b j)))
      rw [had _ (by unfold cel; split <;> omega) (obs_lt ho)]
      exact ev_ob hn ho
    · obtain ⟨ci, ho⟩ := cel_ob h hj (by decide)
      show (tmC (cel b j)).eval args s none [] s = some (.ref (ad (cel b j)))
      rw [had _ (by unfold cel; split <;> omega) (obs_lt ho)]
      exact ev_ob hn ho) hA
  have h6 := adC_of hu
  refine ⟨h6, ?_⟩
  rw [hu] at h6
  rw [← Value.ref.inj (Option.some.inj h6)]
  exact hT
theorem cAr_lo {b t : Nat} (h : cAr b t) : 1000 ≤ b := by
  rcases h with ⟨-, h | ⟨h, -⟩⟩ | ⟨-, h | h | h⟩ | ⟨-, h⟩ | ⟨-, h, -⟩ <;> omega
theorem cOk_lo {a ci : Nat} (h : cOk a ci) : 1000 ≤ a ∧ a < 1100 := by
  rcases h with ⟨-, h1, h2⟩ | ⟨-, h1, h2⟩ | ⟨-, ⟨h1, h2⟩ | ⟨h1, h2⟩ | h⟩ <;> omega
theorem cfr_ob {a ci : Nat} (h : cOk a ci) (h9 : ci ≠ 22) : cOk (cfr a) 22 := by
  rcases h with ⟨rfl, h1, h2⟩ | ⟨rfl, h1, h2⟩ | ⟨rfl, -⟩
  · have e : cfr a = a + 40 := by unfold cfr; rw [Nat.blt_eq.mpr (by omega)]
    rw [e]; exact Or.inr (Or.inr ⟨rfl, Or.inl (by omega)⟩)
  · have e : cfr a = a + 40 := by unfold cfr; rw [Nat.blt_eq.mpr (by omega)]
    rw [e]; exact Or.inr (Or.inr ⟨rfl, Or.inr (Or.inl (by omega))⟩)
  · exact absurd rfl h9
theorem cfr_st {a : Nat} (h : cOk a 22) : cfr a = a + 60 ∧ cAr (a + 60) 1 := by
  have e : 1040 ≤ a → cfr a = a + 60 := fun h => by
    unfold cfr
    split
    · rename_i y; have := blt_of y; omega
    · rfl
  rcases h with ⟨h, -⟩ | ⟨h, -⟩ | ⟨-, ⟨h1, h2⟩ | ⟨h1, h2⟩ | rfl⟩
  · cases h
  · cases h
  · exact ⟨e (by omega), Or.inr (Or.inl ⟨rfl, Or.inl (by omega)⟩)⟩
  · exact ⟨e (by omega), Or.inr (Or.inl ⟨rfl, Or.inr (Or.inl (by omega))⟩)⟩
  · exact ⟨e (by omega), Or.inr (Or.inl ⟨rfl, Or.inr (Or.inr rfl)⟩)⟩
theorem CF_start (hts : ∀ w ∈ lw_tbl, w.before args s = true) (hn : ∀ w ∈ nAt, w.before args s = true) (hA : ∀ a : Nat, a < s.heap.size → ¬ A a) (had : ∀ a, 1000 ≤ a → a < 1500 → ad a = adC args s a) : CF ad A s s.heap := by
  have hob : ∀ a ci, cOk a ci → (tmC a).eval args s none [] s = some (.ref (ad a)) := fun a ci h => by
    rw [had a (cOk_lo h).1 (by have := (cOk_lo h).2; omega)]; exact ev_ob hn (obs_of h)
  have har : ∀ b t, cAr b t → (tmC b).eval args s none [] s = some (.ref (ad b)) := fun b t h => by
    rw [had b (cAr_lo h) (aas_lt (aas_of h))]; exact (ev_ar hn hA had h).1
  refine ⟨⟨?_, ?_⟩, trivial, ?_, ?_, ?_, ?_, ?_⟩
  · exact vx_Zqof (hts _ (by decide +kernel)) (hts _ (by decide +kernel)) (hn _ (nAt_at (p := 41) (by decide +kernel))) hA
  · exact vx_Zqof (hts _ (by decide +kernel)) (hts _ (by decide +kernel)) (hn _ (nAt_at (p := 42) (by decide +kernel))) hA
  · intro ci j o n d r hc a ha
    refine vk_OFof (hob a ci ha) ?_ hA
    rcases cF_j hc with hj | ⟨rfl, rfl⟩
    · have h5 := hn _ (allC_in (ca_fl (obs_of ha) hj))
      unfold fCond at h5
      rw [hc] at h5
      cases r with
      | true =>
        have h22 : ci ≠ 22 := by
          intro e
          subst e
          have hj : j = 1 := by simpa [fjs] using hj
          subst hj
          cases hc
        exact va_eqv h5 (hob _ 22 (cfr_ob ha h22))
      | false => exact va_eqt h5
    · cases hc
      obtain ⟨e, h6⟩ := cfr_st ha
      have h7 := har _ 1 h6
      have e2 : tmC (a + 60) = .field (tmC a) "java/lang/String" "value" "[B" := by
        have := cOk_lo ha
        have h8 : 1040 ≤ a := by
          have := cAr_lo h6
          rcases ha with ⟨h, -⟩ | ⟨h, -⟩ | ⟨-, h | h | h⟩
          · cases h
          · cases h
          · omega
          · omega
          · omega
        unfold tmC
        rw [Nat.blt_eq.mpr this.2, show Nat.blt (a + 60) 1100 = false from by
          cases y : Nat.blt (a + 60) 1100
          · rfl
          · have := blt_of y; omega, show Nat.blt (a + 60) 1200 = true from Nat.blt_eq.mpr (by omega)]
        show Term.field (tmS (a + 60 - 60)) _ _ _ = _
        rw [Nat.add_sub_cancel]
      rw [e2] at h7
      show _ = some (Value.ref (ad (cfr a)))
      rw [e]
      exact h7
  · intro ci a ha
    exact va_Oof (hn _ (allC_in (ca_ob (obs_of ha)))) (hob a ci ha) hA
  · intro t b hb9
    rw [had b (cAr_lo hb9) (aas_lt (aas_of hb9))]
    exact (ev_ar hn hA had hb9).2
  · intro i C n d hc
    unfold cSt at hc
    split at hc
    · cases hc
      exact va_Zof (hts _ (by decide +kernel)) (hts _ (by decide +kernel)) (va_eqi (hn _ (nAt_at (p := 21) (by decide +kernel)))) hA
    · cases hc
      exact va_Zof (hts _ (by decide +kernel)) (hts _ (by decide +kernel)) (har 1080 4 (Or.inr (Or.inr (Or.inl ⟨rfl, rfl⟩)))) hA
    · cases hc
      exact va_Zof (hts _ (by decide +kernel)) (hts _ (by decide +kernel)) (har 1082 0 (Or.inl ⟨rfl, Or.inl rfl⟩)) hA
    · cases hc
  · have h := hn _ (nAt_at (p := 22) (w := .isRef (.static cPre cFmt cBiF)) (by decide +kernel))
    have hl : (Cond.laysStatic cPre cFmt cBiF).before args s = true := hts _ (by decide +kernel)
    have hi : (Cond.initialized cPre).before args s = true := hts _ (by decide +kernel)
    cases hv : (Term.static cPre cFmt cBiF).eval args s none [] s with
    | none => simp [Cond.before, Cond.holds, Cond.value, hv] at h
    | some w =>
      simp only [Cond.before, Cond.holds, Cond.value, hv] at h
      cases w with
      | null => exact Or.inl (va_Zof hl hi hv hA)
      | ref t =>
        refine Or.inr ?_
        rw [had 1090 (by omega) (by omega)]
        exact va_Zof hl hi (adC_of (a := 1090) hv) hA
      | _ => simp at h
end
