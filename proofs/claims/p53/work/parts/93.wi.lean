/-! ===== the law's World: a plan starts ===== -/
section
variable {h h' h0 : PH} {w k v j : Nat} {W W0 : WN} {s s' t : RW} {C E : Nat} {Q : Res → PH → Prop} {x y z : Int32}
def lowI (n : Nat) : Int32 := match n with
  | 0 => nI 9
  | n + 1 => nI n
theorem lowI_t {a b : Nat} (hb : b ≤ 7) (ha : a ≤ 8) : (if nI b < lowI a then nI b else lowI a) = lowI (if a = 0 then b + 1 else if b + 1 < a then b + 1 else a) := by
  cases a with
  | zero =>
    show (if nI b < nI 9 then nI b else nI 9) = _
    rw [if_pos (nI_lt (show b < 9 by omega) (by decide)), if_pos rfl]; rfl
  | succ a =>
    rw [if_neg (show ¬ a + 1 = 0 by omega)]
    show (if nI b < nI a then nI b else nI a) = _
    by_cases q : b < a
    · rw [if_pos (nI_lt q (by omega)), if_pos (by omega)]; rfl
    · rw [if_neg (fun y => q ((nI_ltI (by omega) (by omega)).mp y)), if_neg (by omega)]; rfl
theorem pre1_t {a b : Nat} (hb : b ≤ 7) (ha : a ≤ 8) : (if pre1 a < nI b then nI b else pre1 a) = pre1 (if a < b + 1 then b + 1 else a) := by
  cases a with
  | zero =>
    have : (pre1 0 : Int32) < nI b := by
      show (-1 : Int32) < nI b
      rw [Int32.lt_iff_toInt_lt, qI_toInt (by omega)]
      have : (-1 : Int32).toInt = -1 := by decide
      omega
    rw [if_pos this, if_pos (by omega)]; rfl
  | succ a =>
    show (if nI a < nI b then nI b else nI a) = _
    by_cases q : a < b
    · rw [if_pos (nI_lt q (by omega)), if_pos (by omega)]; rfl
    · rw [if_neg (fun y => q ((nI_ltI (by omega) (by omega)).mp y)), if_neg (by omega)]; rfl
theorem l_wStart (X : WO h w W s) (R : Rk C E s) {c : Nat} (T : Bt mq_X13_start Q 8 c [some (.ref w), some (.int (nI j)), some (.int (lowI (loF s))), some (.int (pre1 (hiF s))), some (.int (nI (nn (s 2))))] [] h) :
    ∀ n cur, cur + n = nn (s 2) → Bt mq_X13_start Q 8 c [some (.ref w), some (.int (nI j)), some (.int (lowI (lo1 cur (free s) (cN s)))), some (.int (pre1 (hi1 cur (free s) (cN s)))), some (.int (nI cur))] [] h := by
  have hl := X.m.2.1
  have hle := X.al.le
  intro n
  induction n with
  | zero =>
    intro cur hc
    have e : cur = nn (s 2) := by omega
    rw [e]; exact T
  | succ n ih =>
    intro cur hc
    have hk : cur < W.ms.length := by omega
    have hk2 : cur < nn (s 2) := by omega
    have ihn := ih (cur + 1) (by omega)
    have no : free s cur = false → Bt mq_X13_start Q 98 c [some (.ref w), some (.int (nI j)), some (.int (lowI (lo1 cur (free s) (cN s)))), some (.int (pre1 (hi1 cur (free s) (cN s)))), some (.int (nI cur))] [] h := by
      intro z
      refine sq_X13_start_98 ?_
      rw [nI_add]
      rw [lo1, hi1, z] at ihn
      exact ihn
    refine sq_X13_start_8 ⟨X.kw, g3 X.r.2.2.2.2.2.1 ⟨X.al.rc, c_lsize X.al (fun _ => ⟨fun z => absurd z (nI_ge hk (by omega)), fun _ => ⟨X.rc, c_wWave X R.1 hk (fun _ => ⟨fun z => no ?_, fun z => ⟨X.kw, g3 X.r.2.2.2.2.2.1 ⟨X.al.rc, c_get X.al hk (fun _ => ⟨X.km hk, X.km hk, ?_⟩)⟩⟩⟩)⟩⟩)⟩⟩
    · unfold free; rw [(wv_c R hk2).1 z, Bool.false_and]
    · rw [X.f hk (show 5 < 6 by decide)]
      refine ⟨fun z2 => ⟨X.kw, g3 X.r.2.2.2.2.2.1 ⟨X.al.rc, c_get X.al hk (fun _ => ⟨X.km hk, Or.inl (X.km hk), c_wCom X R hk (fun _ => ⟨X.kw, g3 X.r.2.2.2.2.2.1 ⟨X.al.rc, c_get X.al hk (fun _ => ⟨X.km hk, Or.inl (X.km hk), c_wCom X R hk (fun _ => ?_)⟩)⟩⟩)⟩)⟩⟩, fun z2 => no ?_⟩
      · have hf : free s cur = true := by unfold free; rw [(wv_c R hk2).2 z, decide_eq_true z2]; rfl
        have hcn := (com_c R hk2).2
        have h8 := R.v.2
        have h1 : lo1 cur (free s) (cN s) ≤ 8 := Nat.le_trans (lo1_le (b := nn (s 0)) (fun i hi => (com_c R (by omega)).2)) h8
        have h2 : hi1 cur (free s) (cN s) ≤ 8 := Nat.le_trans (hi1_le (b := nn (s 0)) (fun i hi => (com_c R (by omega)).2)) h8
        rw [lowI_t (by omega) h1, pre1_t (by omega) h2]
        refine sq_X13_start_98 ?_
        rw [nI_add]
        rw [lo1, hi1, hf] at ihn
        exact ihn
      · unfold free; rw [decide_eq_false z2, Bool.and_false]
theorem c_wStart (X : WO h w W s) (R : Rk C E s) (hj : j < nn (s 0)) (hE : E + 2 < 2 ^ 31) (hes : W.es.length = nn (s 19)) (hcap : nn (s 19) + 2 ≤ 1200) (hne : W.ms ≠ []) (hc : Kc h)
    (K : ∀ h' W', WO h' w W' (staS s j) → W'.es.length = nn (staS s j 19) → nn (staS s j 19) ≤ nn (s 19) + 2 → W'.ms = W.ms → Lw h h' → Q (.inl (some (.int (staR s j)))) h') : MetQ mq_X13_start [.ref w, .int (nI j)] h Q := by
  have hl := X.m.2.1
  have hle := X.al.le
  have hw2 := X.i.1.2
  have lh := loF_le R
  have lhi := loF_hi (s := s)
  refine tq_X13_start (l_wStart X R ?_ (nn (s 2)) 0 (by omega))
  refine sq_X13_start_8 ⟨X.kw, g3 X.r.2.2.2.2.2.1 ⟨X.al.rc, c_lsize X.al (fun _ => ⟨fun _ => ⟨X.rc, by decide, c_wNote X hc (by omega) hne (fun h1 v1 q X' f' hlw' _ => ?_)⟩, fun z => ?_⟩)⟩⟩
  · have X1 := X'.evs (a := nI 2) (b := -(nI 1)) (c := nI j) R.1
    have R1 : Rk C (E + 1) (evS s (nI 2) (-(nI 1)) (nI j)) := R.evs (by omega)
    have hc1 := hc.md hlw'.md
    have e19 := isN_19 (t := evS s (nI 2) (-(nI 1)) (nI j)) R.2.2.2 (by omega) evS_19
    have hes1 : (W.ev v1 (W.es ++ [q])).es.length = nn (evS s (nI 2) (-(nI 1)) (nI j) 19) := by
      rw [e19.2]
      show (W.es ++ [q]).length = _
      rw [List.length_append, hes]; rfl
    have hms1 : (W.ev v1 (W.es ++ [q])).ms = W.ms := rfl
    generalize W.ev v1 (W.es ++ [q]) = W1 at X1 hes1 hms1 ⊢
    have g2 : ∀ i, i ≠ 8 → i ≠ 9 → i ≠ 11 → gi (si (si (si h1 w 9 (nI j)) w 11 (nI 0)) w 8 (nI 1)) w i = gi h1 w i := fun i a b c => (qsi_k a).trans ((qsi_k c).trans (qsi_k b))
    have g9 : gi (si (si (si h1 w 9 (nI j)) w 11 (nI 0)) w 8 (nI 1)) w 9 = nI j := (qsi_k (by decide)).trans ((qsi_k (by decide)).trans qsi_s)
    have g11 : gi (si (si (si h1 w 9 (nI j)) w 11 (nI 0)) w 8 (nI 1)) w 11 = nI 0 := (qsi_k (by decide)).trans qsi_s
    have g8 : gi (si (si (si h1 w 9 (nI j)) w 11 (nI 0)) w 8 (nI 1)) w 8 = nI 1 := qsi_s
    have l3 : Lw h1 (si (si (si h1 w 9 (nI j)) w 11 (nI 0)) w 8 (nI 1)) := ((Oth.si h1 w 9 _).lw hw2).trans (((Oth.si _ w 11 _).lw hw2).trans ((Oth.si _ w 8 _).lw hw2))
    have f3 : FmQ [w] h1 (si (si (si h1 w 9 (nI j)) w 11 (nI 0)) w 8 (nI 1)) := ((FmQ.si (a := w)).trans (FmQ.si (a := w)) (fun n hn _ => hn)).trans (FmQ.si (a := w)) (fun n hn _ => hn)
    have r3 : ∀ i, gr (si (si (si h1 w 9 (nI j)) w 11 (nI 0)) w 8 (nI 1)) w i = gr h1 w i := fun _ => rfl
    have k3 : qkd (si (si (si h1 w 9 (nI j)) w 11 (nI 0)) w 8 (nI 1)) w = 2 := X1.kw
    have p140 : staD s j → ∀ g, g = si (si (si h1 w 9 (nI j)) w 11 (nI 0)) w 8 (nI 1) → Bt mq_X13_start Q 140 (0 + 152) [some (.ref w), some (.int (nI j)), none, none, none] [] g := by
      intro d g eg
      rw [← eg] at g2 g9 g11 g8 l3 f3 r3 k3
      have en : staS s j = doneS (staU s (nI j)) := if_pos d
      have er : staR s j = -(nI 1) := if_pos d
      rw [en, er] at K
      have q12 : (ups (staU s (nI j)) 12 (nI 4)) 12 = nI 4 := ups_s
      have q : ∀ i, (i < 12 ∨ 18 < i) → (ups (staU s (nI j)) 12 (nI 4)) i = evS s (nI 2) (-(nI 1)) (nI j) i := fun i hi => (ups_n (by omega)).trans (staU_n (by omega))
      have hpf : hasP (ups (staU s (nI j)) 12 (nI 4)) = false := by unfold hasP; rw [q12]; decide
      have l4 : Lw h1 (si g w 8 (nI 4)) := l3.trans ((Oth.si g w 8 _).lw hw2)
      have X4 : WO (si g w 8 (nI 4)) w W1 (ups (staU s (nI j)) 12 (nI 4)) := X1.sc (f3.trans (FmQ.si (a := w)) (fun n hn _ => hn)) l4.md (fun i => r3 i) (X1.i.pl (k3.trans X1.kw.symm) (fun i hi => (qsi_k (by omega)).trans (g2 i (by omega) (by omega) (by omega))) (fun i hi => q i (Or.inl hi)) (qsi_s.trans q12.symm) (fun y => by rw [hpf] at y; cases y) (fun y => by rw [q12] at y; exact absurd y (by decide)) (fun y => by rw [q12] at y; exact absurd y n4_23)) (fun i hi => q i (by omega))
      have RL : RkL (ups (staU s (nI j)) 12 (nI 4)) := RkL.congr (fun i hi => q i (by omega)) R1.1
      have e19' : doneS (staU s (nI j)) 19 = evS s (nI 2) (-(nI 1)) (nI j) 19 + nI 1 := by
        unfold doneS
        rw [evS_19, q 19 (by decide)]
      have e19' := isN_19 (t := doneS (staU s (nI j))) R1.2.2.2 (by omega) e19'
      refine sq_X13_start_140 ⟨k3, X4.rc, by decide, c_wNote X4 ((hc1.md l4.md)) (by omega) (by rw [hms1]; exact hne) (fun h' v q X' f' hlw'' _ => ?_)⟩
      have e13 : staU s (nI j) 13 = nI j := by unfold staU; rw [ups_n (by omega), ups_s]
      refine K h' (W1.ev v (W1.es ++ [q])) (by
        unfold doneS
        rw [e13]
        exact X'.evs RL) ?_ (by rw [e19'.2]; omega) hms1 ((hlw'.trans l4).trans hlw'')
      rw [e19'.2]
      show (W1.es ++ [q]).length = _
      rw [List.length_append, hes1]; rfl
    have p155 : ¬ staD s j → loF s ≠ 0 → ∀ g, g = si (si (si h1 w 9 (nI j)) w 11 (nI 0)) w 8 (nI 1) → Bt mq_X13_start Q 155 (0 + 152) [some (.ref w), some (.int (nI j)), some (.int (lowI (loF s))), some (.int (pre1 (hiF s))), none] [] g := by
      intro d hnz g eg
      rw [← eg] at g2 g9 g11 g8 l3 f3 r3 k3
      have er : staR s j = staV s j := if_neg d
      rw [er] at K
      obtain ⟨l, el⟩ : ∃ l, loF s = l + 1 := ⟨loF s - 1, by omega⟩
      obtain ⟨u, eu⟩ : ∃ u, hiF s = u + 1 := ⟨hiF s - 1, by omega⟩
      have e12 : staS s j 12 = nI 1 := by unfold staS; rw [if_neg d, ups_s]
      have e14 : staS s j 14 = staV s j := by unfold staS; rw [if_neg d, ups_n (by omega), ups_s]
      have e17 : staS s j 17 = (if loF s < j + 1 then nI 1 else nI 0) := by unfold staS; rw [if_neg d, ups_n (by omega), ups_n (by omega), ups_s]
      have e15 : staS s j 15 = nI 0 := by unfold staS staU; rw [if_neg d, ups_n (by omega), ups_n (by omega), ups_n (by omega), ups_s]
      have e13 : staS s j 13 = nI j := by unfold staS staU; rw [if_neg d, ups_n (by omega), ups_n (by omega), ups_n (by omega), ups_n (by omega), ups_s]
      have fin : ∀ b y, (if loF s < j + 1 then nI 1 else nI 0) = b → staV s j = y → Q (.inl (some (.int (gi (si (si g w 14 b) w 10 y) w 10)))) (si (si g w 14 b) w 10 y) := by
        intro b y hb hy
        have l5 : Lw h1 (si (si g w 14 b) w 10 y) := l3.trans (((Oth.si g w 14 _).lw hw2).trans ((Oth.si _ w 10 _).lw hw2))
        rw [hy] at K
        rw [qsi_s]
        refine K _ W1 (X1.sc ((f3.trans (FmQ.si (a := w)) (fun n hn _ => hn)).trans (FmQ.si (a := w)) (fun n hn _ => hn)) l5.md (fun i => r3 i) (X1.i.pl (k3.trans X1.kw.symm) (fun i hi => ?_) (fun i hi => sta_n d (Or.inl hi)) ?_ (fun _ => ⟨?_, ?_, ?_, ?_⟩) (fun y => by rw [e12] at y; exact absurd y (by decide)) (fun y => by rw [e12] at y; exact absurd y n1_23)) (fun i hi => sta_n d (by omega))) (by rw [sta_n d (by omega)]; exact hes1) (by rw [sta_n d (by omega), e19.2]; omega) hms1 (hlw'.trans l5)
        · rw [qsi_k (by omega), qsi_k (by omega), g2 i (by omega) (by omega) (by omega)]
        · rw [qsi_k (by decide), qsi_k (by decide), g8, e12]
        · rw [qsi_k (by decide), qsi_k (by decide), g9, e13]
        · rw [qsi_s, e14, hy]
        · rw [qsi_k (by decide), qsi_k (by decide), g11, e15]
        · rw [qsi_k (by decide), qsi_s, e17, hb]
      have hlo : lowI (loF s) = nI l := by rw [el]; rfl
      have hhi : pre1 (hiF s) = nI u := by rw [eu]; rfl
      rw [hlo, hhi]
      refine sq_X13_start_155 ⟨fun z => ⟨k3, Or.inl rfl, k3, fun _ => ⟨k3, k3, ?_⟩, fun z2 => absurd qsi_s z2⟩, fun z => ⟨k3, Or.inr rfl, k3, fun z2 => ?_, fun _ => ⟨k3, k3, ?_⟩⟩⟩
      · have nd : ¬ loF s < j + 1 := fun q => nI_ge (a := l) (b := j) (by omega) (by omega) z
        have h2 : 1 ≤ u := by
          rcases Nat.lt_or_ge u 1 with q | q
          · exfalso
            apply d
            exact Or.inr ⟨by omega, by omega⟩
          · exact q
        refine fin _ _ (if_neg nd) ?_
        unfold staV
        rw [if_neg nd, eu, qI_sub h2]; rfl
      · rw [qsi_s] at z2; exact absurd z2 (by decide)
      · have nd : loF s < j + 1 := by
          rcases Nat.lt_or_ge (loF s) (j + 1) with q | q
          · exact q
          · exact absurd (nI_le (a := j) (b := l) (by omega) (by omega)) z
        refine fin _ _ (if_pos nd) ?_
        unfold staV
        rw [if_pos nd, el, nI_add]
    refine ⟨X1.kw, X1.kw, X1.kw, fun z => p140 (Or.inl ?_) _ rfl, fun z => ?_⟩
    · rcases Nat.eq_zero_or_pos (hiF s) with q | q
      · exact lhi.1.mpr q
      · exfalso
        obtain ⟨u, eu⟩ : ∃ u, hiF s = u + 1 := ⟨hiF s - 1, by omega⟩
        rw [eu] at z
        exact nI_pos (n := u) (by omega) z
    · have hnz : loF s ≠ 0 := by
        intro q
        have := lhi.1.mp q
        rw [this] at z
        exact z (by decide)
      obtain ⟨l, el⟩ : ∃ l, loF s = l + 1 := ⟨loF s - 1, by omega⟩
      obtain ⟨u, eu⟩ : ∃ u, hiF s = u + 1 := ⟨hiF s - 1, by omega⟩
      have q1 : lowI (loF s) = nI j ↔ loF s = j + 1 := by
        rw [el]
        show nI l = nI j ↔ _
        rw [nI_eq (by omega) (by omega)]
        omega
      have q2 : pre1 (hiF s) = nI j ↔ hiF s = j + 1 := by
        rw [eu]
        show nI u = nI j ↔ _
        rw [nI_eq (by omega) (by omega)]
        omega
      rw [q1, q2]
      refine ⟨fun a => p155 ?_ hnz _ rfl, fun a => ⟨fun b => p155 ?_ hnz _ rfl, fun b => p140 (Or.inr ⟨a, b⟩) _ rfl⟩⟩
      · rintro (q | q)
        · exact hnz q
        · exact a q.1
      · rintro (q | q)
        · exact hnz q
        · exact b q.2
  · exact absurd (nI_le (a := W.ms.length) (b := nn (s 2)) (by omega) (by omega)) z
end
