/-! ===== the soundness of one step ===== -/
theorem mm_min : Cond.static Lib.Math.min.name ∈ tbG ∧ Cond.initialized "java/lang/Math" ∈ tbG ∧ Cond.code Lib.Math.min.name Lib.Math.min.code 2 (some .int) ∈ tbG := ⟨tbG_at (p := 697) (by decide +kernel), tbG_at (p := 10) (by decide +kernel), tbG_at (p := 698) (by decide +kernel)⟩
theorem mm_max : Cond.static Lib.Math.max.name ∈ tbG ∧ Cond.initialized "java/lang/Math" ∈ tbG ∧ Cond.code Lib.Math.max.name Lib.Math.max.code 2 (some .int) ∈ tbG := ⟨tbG_at (p := 928) (by decide +kernel), tbG_at (p := 10) (by decide +kernel), tbG_at (p := 929) (by decide +kernel)⟩
theorem mm_abs : Cond.static Lib.Math.abs.name ∈ tbG ∧ Cond.initialized "java/lang/Math" ∈ tbG ∧ Cond.code Lib.Math.abs.name Lib.Math.abs.code 1 (some .int) ∈ tbG := ⟨tbG_at (p := 572) (by decide +kernel), tbG_at (p := 10) (by decide +kernel), tbG_at (p := 573) (by decide +kernel)⟩
theorem mm_cpy : Cond.native arraycopyName ∈ tbG ∧ Cond.static arraycopyName ∈ tbG ∧ Cond.initialized "java/lang/System" ∈ tbG := ⟨tbG_at (p := 701) (by decide +kernel), tbG_at (p := 700) (by decide +kernel), tbG_at (p := 12) (by decide +kernel)⟩
theorem conk_inl {rt : Nat} {q : Nat → PH → Prop} {kk : List Value → PH → Prop} {v : Option Value} {h : PH} (hc : conk rt q kk (.inl v) h) : kk v.toList h := by
  unfold conk at hc
  split at hc
  · rcases v with _ | v
    · exact hc
    · cases hc
  · rcases v with _ | v
    · cases hc
    · cases v <;> first | exact hc | cases hc
  · rcases v with _ | v
    · cases hc
    · cases v <;> first | exact hc | cases hc
  · rcases v with _ | v
    · cases hc
    · cases v <;> first | exact hc | cases hc
  · rcases v with _ | v
    · cases hc
    · cases v <;> first | exact hc | cases hc
  · rcases v with _ | v
    · cases hc
    · cases v <;> first | exact hc | cases hc
theorem conk_inr {rt : Nat} {q : Nat → PH → Prop} {kk : List Value → PH → Prop} {x : Nat} {h : PH} (hc : conk rt q kk (.inr x) h) : q x h := by
  unfold conk at hc
  split at hc <;> exact hc
theorem tr_toList (ad : Nat → Nat) (v : Option Value) : (v.map (tr ad)).toList = v.toList.map (tr ad) := by cases v <;> rfl
theorem cat8_of {st : List Value} {P : Prop} (h : cat8 st P) : (st.map (fun v => v.category)).sum ≤ 8 ∧ P := by
  unfold cat8 at h
  split at h
  · rename_i hb; exact ⟨Nat.le_of_ble_eq_true hb, h⟩
  · cases h
theorem cat_tr (ad : Nat → Nat) (st : List Value) : (st.map (tr ad)).map (fun v => v.category) = st.map (fun v => v.category) := by
  rw [List.map_map]
  apply List.map_congr_left
  intro v _
  exact tr_cat ad v
theorem capk_of {c mcv cap : Nat} {P : Prop} (h : capk c mcv cap P) (hc : c ≤ cap) : c + mcv ≤ cap ∧ P := by
  unfold capk at h
  split at h
  · exact ⟨hc, h⟩
  · exact h
theorem retC_rt {rt : Nat} {r : Option FieldType} (h : retC rt r = true) : True := trivial
theorem calB_of {M M' : MI} {n mcv rt : Nat} (h : calB M M' n mcv rt = true) : mcv = M'.cap ∧ M'.fr + 1 ≤ M.fr ∧ 8 + (M'.nl + 11) + M'.lo ≤ M.lo ∧ M'.y.cls ≠ "java/lang/invoke/MethodHandle" ∧ M'.y.cls ≠ "java/lang/invoke/VarHandle" ∧ (parseMethodDescriptor M'.y.desc).map (fun d => d.parameters.length) = some n := by
  simp only [calB, Bool.and_eq_true, decide_eq_true_eq] at h
  obtain ⟨⟨⟨⟨h1, h2⟩, h3⟩, -⟩, h4⟩ := h
  exact ⟨Nat.eq_of_beq_eq_true h1, Nat.le_of_ble_eq_true h2, Nat.le_of_ble_eq_true h3, h4⟩
section
variable {M : MI} {Q : Res → PH → Prop} {Z : State → Prop} {p : Program} {l : Launch} {e : Env} {R : Room} {s : State} {m : MethodId} {args : Array Value} {below : List Frame} {meth : Method} {cc : Code} {ad : Nat → Nat} {cA : Nat → ClassId} {D : va_G} {A : Nat → Prop} {xs : PH} {L : Nat} {k : KT} {pc c : Nat} {ls : Lc} {st : List Value} {h : PH}
theorem ac_str (hC : Cx M Q Z p l e R s m args below meth cc ad cA D A xs L) {i : Instr} {rt : Nat} (hd : decode M.b pc = .ok (i, 1))
    (hok : ∀ v : Option Value, (match rt with
      | 0 => v = none
      | 1 => ∃ x, v = some (.int x)
      | 2 => ∃ x, v = some (.long x)
      | 3 => ∃ x, v = some (.float x)
      | 4 => ∃ x, v = some (.double x)
      | 5 => v = some .null ∨ ∃ a, v = some (.ref a)
      | 6 => ∃ x, v = some (.int x) ∧ isB x
      | 7 => ∃ x, v = some (.int x) ∧ narrow .byte (.int x) = .int x
      | _ => ∃ x, v = some (.int x) ∧ narrow .char (.int x) = .int x) → rtOk M.ret i v) (hs : str Q rt st h) : AtC M Z p l e R s m args below meth cc ad cA D A xs L pc c ls st h := by
  intro H locs cells slots lsA hW hl h1 h2 h3
  obtain ⟨-, -, -, -, -, -, -, -, -, hend, -, -⟩ := hC
  have fin : ∀ v : Option Value, st = v.toList → rtOk M.ret i v → Q (.inl v) h → W p l e R s m args below meth cc H locs cells slots Z (F0 m pc lsA (st.map (tr ad))) := by
    intro v hv hr hq
    have := hend v h H locs cells slots pc i lsA hd hr hq hW (by omega) (by omega)
    rw [tr_toList, ← hv] at this
    exact this
  unfold str at hs
  split at hs
  · split at hs
    · exact fin none rfl (hok none rfl) hs
    · cases hs
  · split at hs
    · exact fin (some _) rfl (hok _ ⟨_, rfl⟩) hs
    · cases hs
  · split at hs
    · exact fin (some _) rfl (hok _ ⟨_, rfl⟩) hs
    · cases hs
  · split at hs
    · exact fin (some _) rfl (hok _ ⟨_, rfl⟩) hs
    · cases hs
  · split at hs
    · exact fin (some _) rfl (hok _ ⟨_, rfl⟩) hs
    · cases hs
  · split at hs
    · exact fin (some _) rfl (hok _ (Or.inr ⟨_, rfl⟩)) hs
    · exact fin (some _) rfl (hok _ (Or.inl rfl)) hs
    · cases hs
  · split at hs
    · exact fin (some _) rfl (hok _ ⟨_, rfl, hs.1⟩) hs.2
    · cases hs
  · split at hs
    · exact fin (some _) rfl (hok _ ⟨_, rfl, hs.1⟩) hs.2
    · cases hs
  · rename_i r0 r1 r2 r3 r4 r5 r6 r7
    split at hs
    · exact fin (some _) rfl (hok _ (by
        split
        · exact absurd rfl r0
        · exact ⟨_, rfl⟩
        · exact absurd rfl r2
        · exact absurd rfl r3
        · exact absurd rfl r4
        · exact absurd rfl r5
        · exact absurd rfl r6
        · exact absurd rfl r7
        · exact ⟨_, rfl, hs.1⟩)) hs.2
    · cases hs
theorem ac_new (hC : Cx M Q Z p l e R s m args below meth cc ad cA D A xs L) {ik ic x : Nat} (hth : thOk M pc ik ic x) (h8 : (st.map (fun v => v.category)).sum ≤ 8) (hcap : c + 1 ≤ M.cap) (hq : Q (.inr x) h) : AtC M Z p l e R s m args below meth cc ad cA D A xs L pc c ls st h := by
  intro H locs cells slots lsA hW hl h1 h2 h3
  obtain ⟨-, -, -, -, -, -, -, -, -, -, hthr, -⟩ := hC
  exact hthr x h H locs cells slots pc ik ic lsA _ hth hq hW (by omega) (by omega) hl.1 (by rw [cat_tr]; exact h8)
theorem wl_mono {H : Heap} {locs : List Loc} {cells slots : Nat} {g : JFrame} (hk : ∀ (pc c : Nat) (ls : Lc) (st : List Value) (h : PH), k pc c ls st h → AtC M Z p l e R s m args below meth cc ad cA D A xs L pc c ls st h) : True := trivial
/-- an exception of a call: to the handler, or out -/
theorem ac_hnd (hC : Cx M Q Z p l e R s m args below meth cc ad cA D A xs L) {a : KT} (ha : ∀ pc c ls st h, a pc c ls st h → AtC M Z p l e R s m args below meth cc ad cA D A xs L pc c ls st h) {hs : List Nat} (hok : okI.hsOk M pc hs = true)
    {x c' : Nat} {h' : PH} (hh : hnd Q a c' ls hs x h') {H1 : Heap} {locs1 : List Loc} {cells1 slots1 : Nat} {lsA : Array Slot} {rest : List Value} {q : Addr} {ce : Cell} (hW : WH ad cA D xs L A h' s s.heap H1 locs1) (hl : lv_has lsA M.nl (tl ad ls)) (h1 : cells1 ≤ c') (h2 : slots1 ≤ 6 * c') (h3 : c' ≤ M.cap)
    (hce : H1[q]? = some ce) (hcv : ce.vm = .none) (hcl : s.vm.findClass (exN x) = some ce.cls) : vx_W p l e R s m args below meth cc H1 locs1 cells1 slots1 Z (F0 m pc lsA rest) q := by
  obtain ⟨⟨hx, hb, hml, hown, hts⟩, hK, hA, hCF, hxw, hsc, hst, hroom, htab, hend, hthr, hprop⟩ := hC
  have out : Q (.inr x) h' → vx_W p l e R s m args below meth cc H1 locs1 cells1 slots1 Z (F0 m pc lsA rest) q := fun hq =>
    hprop x h' H1 locs1 cells1 slots1 pc lsA rest q ce hq hW (by omega) (by omega) hce hcv hcl
  unfold hnd at hh
  split at hh
  · exact out hh
  · rename_i hne
    split at hh
    · exact out hh
    · rename_i hane
      cases hs with
      | nil => exact absurd rfl hne
      | cons _ _ => cases hok
end
