/-! ===== the law's head ===== -/
def mq_L_head : MI := (x, code, 4, some .boolean, 11, 288, 600000, [], 1)
def cq_L_head : Cd := [[(0, .aload_n 0, 1, [], []), (1, .invokestatic 192, 3, [1, 1, 6, 0, 40000, 721], [mq_X13_grown]), (4, .astore_n 1, 1, [], [])]]
theorem kq_L_head : CdQ mq_L_head cq_L_head := ⟨by decide +kernel, allQ_of ⟨oq_X13_grown, trivial⟩⟩
/-- n steps, then a ground of one's own -/
def vqk (C : Cd) (M : MI) (Q : Res → PH → Prop) (k0 : KT) : Nat → KT
  | 0 => k0
  | n + 1 => fun pc c ls st h => match lkE C pc with
    | some e => qst MetQ MetPM M Q (vqk C M Q k0 n) e c ls st h
    | none => False
section
variable {M : MI} {Q : Res → PH → Prop} {Z : State → Prop} {p : Program} {l : Launch} {e : Env} {R : Room} {s : State} {m : MethodId} {args : Array Value} {below : List Frame} {meth : Method} {cc : Code} {ad : Nat → Nat} {cA : Nat → ClassId} {D : va_G} {A : Nat → Prop} {X : PH → va_W} {h0 : PH}
theorem vqk_ok {C : Cd} (hC : CdQ M C) (hb : Cb M Q Z p l e R s m args below meth cc ad cA D A X h0) {k0 : KT} (hk0 : ∀ pc c ls st h, k0 pc c ls st h → BtC M Z p l e R s m args below meth cc ad cA D A X h0 pc c ls st h) : ∀ n pc c ls st h, vqk C M Q k0 n pc c ls st h → BtC M Z p l e R s m args below meth cc ad cA D A X h0 pc c ls st h := by
  intro n
  induction n with
  | zero => exact hk0
  | succ n ih =>
    intro pc c ls st h h9
    unfold vqk at h9
    split at h9
    · rename_i en he
      obtain ⟨⟨b, hb9, heb⟩, hpc⟩ := lkE_mem he
      have h1 := List.all_eq_true.mp (List.all_eq_true.mp hC.1 b hb9) en heb
      have h2 : ∀ M' ∈ en.2.2.2.2, MOQ M' := fun M' hm => hC.2 M' (List.mem_flatMap.mpr ⟨b, hb9, List.mem_flatMap.mpr ⟨en, heb, hm⟩⟩)
      rw [← hpc]
      exact qst_btC hb ih h1 h2 h9
    · exact h9.elim
end
/-- ahead of the class's making -/
def k5 : KT := fun pc c ls st h => pc = 5 ∧ c = 40000 ∧ st = [] ∧ ∃ w s', ls = [some (.ref 1500), some (.ref w), none, none] ∧ 2000 ≤ w ∧ GrF (clrS s0R) (fun _ => 0) w h s' ∧ 0 < nn (s' 0) ∧ nn (s' 2) ≤ 6 ∧ 1 ≤ nn (s' 5)
set_option maxRecDepth 100000 in
theorem head_run {h : PH} (hc : Kc h) (kb : qkd h 1500 = 48) (lb : qln h 1500 ≤ 260) : vqk cq_L_head mq_L_head (fun _ _ => False) k5 3 0 0 [some (.ref 1500), none, none, none] [] h := by
  have T : (40000 ≤ 600000 ∧ MetQ mq_X13_grown [.ref 1500] h (rR (fun b1 h1 => Lw h h1 → k5 5 40000 [some (.ref 1500), some (.ref b1), none, none] [] h1))) := ⟨by decide, c_grown (s := s0R) (nm0 := fun _ => 0) hc kb lb (by decide) (fun w w2 h' s' G v0 m6 f5 _ => ⟨rfl, rfl, rfl, w, s', rfl, w2, G, v0, m6, f5⟩)⟩
  exact T
theorem KdOk_start {xs : Nat → Int32} {L : Nat} : KdOk (hS xs L) [] := fun n hn => by
  by_cases c0 : n < 1000
  · exfalso
    apply hn
    unfold qkd
    rw [Nat.blt_eq.mpr c0]
  · rw [hS_k (by omega)] at hn ⊢
    unfold hSk at hn ⊢
    by_cases c1 : 1200 ≤ n ∧ n < 1220
    · rw [if_pos c1, if_pos rfl]; exact Or.inr ⟨by omega, by decide⟩
    · rw [if_neg c1] at hn ⊢
      by_cases c2 : (1300 ≤ n ∧ n < 1320) ∨ n = 1400 ∨ n = 1401
      · rw [if_pos c2, if_pos rfl]; exact Or.inr ⟨by omega, by decide⟩
      · rw [if_neg c2] at hn ⊢
        by_cases c3 : n = 1402
        · rw [if_pos c3, if_pos rfl]; exact Or.inr ⟨by omega, by decide⟩
        · rw [if_neg c3] at hn ⊢
          by_cases c4 : n = 1500
          · rw [if_pos c4, if_pos rfl]; exact Or.inr ⟨by omega, by decide⟩
          · rw [if_neg c4] at hn
            exact absurd rfl hn
