/-! ===== 'At' step by step; a method's contract out of its entry; what goes on behind a call ===== -/
theorem at_step {M : MI} {Q : Res → PH → Prop} {k : KT} {en : En} {c : Nat} {ls : Lc} {st : List Value} {h : PH} (hE : okE M en = true) (hms : ∀ M' ∈ en.2.2.2.2, MOK M') (hk : ∀ pc c ls st h, k pc c ls st h → At M Q pc c ls st h) (hs : stp MetPM M Q (At M Q) k en c ls st h) : At M Q en.1 c ls st h := by
  intro Z p l e R s m args below meth cc ad cA D A xs L hC
  exact stp_atC hC (fun pc c ls st h h9 => h9 Z p l e R s m args below meth cc ad cA D A xs L hC) (fun pc c ls st h h9 => hk pc c ls st h h9 Z p l e R s m args below meth cc ad cA D A xs L hC) hE hms hs
/-- a method's code, in blocks of rows by place / 16 -/
abbrev Cd : Type := List (List En)
def lkE (C : Cd) (pc : Nat) : Option En := (C.getD (pc / 16) []).find? (fun e => Nat.beq e.1 pc)
def okC (M : MI) (C : Cd) : Bool := C.all (fun b => b.all (fun e => okE M e))
def msC (C : Cd) : List MI := C.flatMap (fun b => b.flatMap (fun e => e.2.2.2.2))
theorem lkE_mem {C : Cd} {pc : Nat} {e : En} (h : lkE C pc = some e) : (∃ b ∈ C, e ∈ b) ∧ e.1 = pc := by
  unfold lkE at h
  refine ⟨?_, Nat.eq_of_beq_eq_true (List.find?_some (p := fun e : En => Nat.beq e.1 pc) h)⟩
  have hm := List.mem_of_find?_eq_some h
  rcases Nat.lt_or_ge (pc / 16) C.length with q | q
  · refine ⟨C[pc / 16], List.getElem_mem q, ?_⟩
    rw [List.getD_eq_getElem?_getD, List.getElem?_eq_getElem q] at hm
    exact hm
  · rw [List.getD_eq_getElem?_getD, List.getElem?_eq_none q] at hm
    cases hm
/-- the code is M's, and the tables know what it calls -/
def CdOk (M : MI) (C : Cd) : Prop := okC M C = true ∧ ∀ M' ∈ msC C, MOK M'
/-- n steps, or up to a place where to stop -/
def vc (C : Cd) (M : MI) (Q : Res → PH → Prop) (stops : List Nat) : Nat → KT
  | 0 => At M Q
  | n + 1 => fun pc c ls st h => match stops.elem pc with
    | true => At M Q pc c ls st h
    | false => match lkE C pc with
      | some e => stp MetPM M Q (At M Q) (vc C M Q stops n) e c ls st h
      | none => False
theorem step_of {C : Cd} {M : MI} (hC : CdOk M C) {Q : Res → PH → Prop} {k : KT} (hk : ∀ pc c ls st h, k pc c ls st h → At M Q pc c ls st h) {pc c : Nat} {ls : Lc} {st : List Value} {h : PH} {e : En} (he : lkE C pc = some e) (hs : stp MetPM M Q (At M Q) k e c ls st h) : At M Q pc c ls st h := by
  obtain ⟨⟨b, hb, heb⟩, hpc⟩ := lkE_mem he
  have h1 := List.all_eq_true.mp (List.all_eq_true.mp hC.1 b hb) e heb
  have h2 : ∀ M' ∈ e.2.2.2.2, MOK M' := fun M' hm => hC.2 M' (List.mem_flatMap.mpr ⟨b, hb, List.mem_flatMap.mpr ⟨e, heb, hm⟩⟩)
  rw [← hpc]
  exact at_step h1 h2 hk hs
theorem vc_ok {C : Cd} {M : MI} (hC : CdOk M C) {Q : Res → PH → Prop} {stops : List Nat} : ∀ (n pc c : Nat) (ls : Lc) (st : List Value) (h : PH), vc C M Q stops n pc c ls st h → At M Q pc c ls st h := by
  intro n
  induction n with
  | zero => intro pc c ls st h h9; exact h9
  | succ n ih =>
    intro pc c ls st h h9
    unfold vc at h9
    split at h9
    · exact h9
    · split at h9
      · rename_i e he
        exact step_of hC ih he h9
      · exact h9.elim
/-- from a stop on: the first step is taken -/
def vg (C : Cd) (M : MI) (Q : Res → PH → Prop) (stops : List Nat) (n : Nat) : KT := fun pc c ls st h => match lkE C pc with
  | some e => stp MetPM M Q (At M Q) (vc C M Q stops n) e c ls st h
  | none => False
theorem vg_ok {C : Cd} {M : MI} (hC : CdOk M C) {Q : Res → PH → Prop} {stops : List Nat} (n pc c : Nat) (ls : Lc) (st : List Value) (h : PH) (h9 : vg C M Q stops n pc c ls st h) : At M Q pc c ls st h := by
  unfold vg at h9
  split at h9
  · rename_i e he
    exact step_of hC (vc_ok hC n) he h9
  · exact h9.elim
/-- the locals at a method's entry -/
def ent : List Value → Lc
  | [] => []
  | v :: r => match v.category with
    | 2 => some v :: none :: ent r
    | _ => some v :: ent r
def entL (n : Nat) (as : List Value) : Lc := ent as ++ List.replicate (n - (ent as).length) none
