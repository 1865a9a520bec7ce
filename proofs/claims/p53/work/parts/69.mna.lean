/-! ===== new T[n][m] and the word on arrays of arrays, from the machine's own words: nothing of the library's shelf of JDK members is used ===== -/
section MG0
variable {s : State} {args : Array Value} {first : State} {o : Option Outcome} {idx : List Nat} {ty : FieldType}
/-- is this the table's row of an array over the component k? -/
def mg_is (k : ClassId) (x : Class) : Bool := match x.kind with
  | .array component _ => component == k
  | _ => false
/-- what the word says of the tables -/
def mg_ov (s : State) (ty : FieldType) (k c : ClassId) (r : Class) : Prop := s.vm.findClass (FieldType.array ty).toString = some k ∧ s.vm.classes.findIdx? (mg_is k) = some c ∧ s.vm.classes[c]? = some r ∧ r.kind = .array k (.array ty) ∧ s.vm.findClass ("[" ++ (FieldType.array ty).toString) = some c
theorem mg_ov_of (h : (Cond.arrayOver (.array ty)).holds args first o s idx = true) : ∃ k c r, mg_ov s ty k c r := by
  have h1 : Cond.value args first o s idx (Cond.arrayOver (.array ty)) = some true := by
    simpa only [Cond.holds, beq_iff_eq] using h
  simp only [Cond.value] at h1
  obtain ⟨k, hk, h2⟩ := Option.bind_eq_some_iff.mp h1
  obtain ⟨c, hc, h3⟩ := Option.bind_eq_some_iff.mp h2
  obtain ⟨r, hr, h4⟩ := Option.map_eq_some_iff.mp h3
  have hc2 : s.vm.classes.findIdx? (mg_is k) = some c := hc
  have h5 : mg_is k r = true := by
    obtain ⟨hlt, hp, -⟩ := Array.findIdx?_eq_some_iff_getElem.mp hc2
    rw [Array.getElem?_eq_getElem hlt] at hr
    cases hr
    exact hp
  unfold mg_is at h5
  cases hkd : r.kind with
  | array k2 t2 =>
    rw [hkd] at h4 h5
    simp only [Bool.and_eq_true, decide_eq_true_eq] at h4
    refine ⟨k, c, r, hk, hc2, hr, ?_, h4.2⟩
    rw [hkd, h4.1, eq_of_beq h5]
  | _ => rw [hkd] at h5; cases h5
theorem mg_ov_to {k c : ClassId} {r : Class} (h : mg_ov s ty k c r) : (Cond.arrayOver (.array ty)).holds args first o s idx = true := by
  obtain ⟨h1, h2, h3, h4, h5⟩ := h
  have e : Cond.value args first o s idx (Cond.arrayOver (.array ty)) = some true := by
    simp only [Cond.value]
    refine Option.bind_eq_some_iff.mpr ⟨k, h1, Option.bind_eq_some_iff.mpr ⟨c, h2, Option.map_eq_some_iff.mpr ⟨r, h3, ?_⟩⟩⟩
    rw [h4]
    simp only [h5, decide_true, Bool.and_self]
  simp only [Cond.holds, e, beq_self_eq_true]
theorem mg_ov.moved {U : State} {k c : ClassId} {r : Class} (hal : s.vm.Alike U.vm) (h : mg_ov s ty k c r) : ∃ r2, mg_ov U ty k c r2 := by
  obtain ⟨h1, h2, h3, h4, h5⟩ := h
  obtain ⟨r2, g3, g4⟩ := hal.2.2 _ _ h3
  exact ⟨r2, (hal.findClass _ _).trans h1, (hal.findIdx?_eqK (mg_is k) (fun _ => rfl)).trans h2, g3, by rw [g4]; exact h4, (hal.findClass _ _).trans h5⟩
theorem mg_over {args2 : Array Value} {U first2 : State} {o2 : Option Outcome} {idx2 : List Nat} (hal : s.vm.Alike U.vm) (h : (Cond.arrayOver (.array ty)).holds args first o s idx = true) : (Cond.arrayOver (.array ty)).holds args2 first2 o2 U idx2 = true := by
  obtain ⟨k, c, r, h1⟩ := mg_ov_of h
  obtain ⟨r2, h2⟩ := h1.moved hal
  exact mg_ov_to h2
end MG0
