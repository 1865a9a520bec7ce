section
-- ===== PART A: goes FIRST, ahead of the names: the tables' words, and 'selects' of the private methods out of them =====
/-- a private method of a class that the tables say can be made, by its rows of tables_1 -/
def lw_okq (q : MethodName × Nat) : Prop := (q.1.cls ≠ "java/lang/invoke/MethodHandle" ∧ q.1.cls ≠ "java/lang/invoke/VarHandle") ∧ Cond.instantiable q.1.cls q.2 ∈ tables_1 ∧ Cond.privateMethod q.1 ∈ tables_1 ∧ Cond.instanceMethod q.1 ∈ tables_1
theorem lw_p0 : lw_okq (⟨"WaveUpgrade$Text", "scanWord", "()V"⟩, 9) := ⟨⟨by decide +kernel, by decide +kernel⟩, List.mem_of_getElem? (i := 47) (by decide +kernel), List.mem_of_getElem? (i := 413) (by decide +kernel), List.mem_of_getElem? (i := 414) (by decide +kernel)⟩
theorem lw_p1 : lw_okq (⟨"WaveUpgrade$Text", "scanNumber", "()V"⟩, 9) := ⟨⟨by decide +kernel, by decide +kernel⟩, List.mem_of_getElem? (i := 47) (by decide +kernel), List.mem_of_getElem? (i := 417) (by decide +kernel), List.mem_of_getElem? (i := 418) (by decide +kernel)⟩
theorem lw_p2 : lw_okq (⟨"WaveUpgrade$ClusterReader", "readStatement", "()Z"⟩, 4) := ⟨⟨by decide +kernel, by decide +kernel⟩, List.mem_of_getElem? (i := 303) (by decide +kernel), List.mem_of_getElem? (i := 421) (by decide +kernel), List.mem_of_getElem? (i := 422) (by decide +kernel)⟩
theorem lw_p3 : lw_okq (⟨"WaveUpgrade$ClusterReader", "errorOfFirstWord", "(LWaveUpgrade$Statement;)I"⟩, 4) := ⟨⟨by decide +kernel, by decide +kernel⟩, List.mem_of_getElem? (i := 303) (by decide +kernel), List.mem_of_getElem? (i := 486) (by decide +kernel), List.mem_of_getElem? (i := 487) (by decide +kernel)⟩
theorem lw_p4 : lw_okq (⟨"WaveUpgrade$ClusterReader", "readRest", "(LWaveUpgrade$Statement;)Z"⟩, 4) := ⟨⟨by decide +kernel, by decide +kernel⟩, List.mem_of_getElem? (i := 303) (by decide +kernel), List.mem_of_getElem? (i := 503) (by decide +kernel), List.mem_of_getElem? (i := 504) (by decide +kernel)⟩
theorem lw_p5 : lw_okq (⟨"WaveUpgrade$ClusterReader", "readVersion", "()Z"⟩, 4) := ⟨⟨by decide +kernel, by decide +kernel⟩, List.mem_of_getElem? (i := 303) (by decide +kernel), List.mem_of_getElem? (i := 507) (by decide +kernel), List.mem_of_getElem? (i := 508) (by decide +kernel)⟩
theorem lw_p6 : lw_okq (⟨"WaveUpgrade$ClusterReader", "readTalks", "()Z"⟩, 4) := ⟨⟨by decide +kernel, by decide +kernel⟩, List.mem_of_getElem? (i := 303) (by decide +kernel), List.mem_of_getElem? (i := 532) (by decide +kernel), List.mem_of_getElem? (i := 533) (by decide +kernel)⟩
theorem lw_p7 : lw_okq (⟨"WaveUpgrade$ClusterReader", "readPlace", "()Z"⟩, 4) := ⟨⟨by decide +kernel, by decide +kernel⟩, List.mem_of_getElem? (i := 303) (by decide +kernel), List.mem_of_getElem? (i := 551) (by decide +kernel), List.mem_of_getElem? (i := 552) (by decide +kernel)⟩
theorem lw_p8 : lw_okq (⟨"WaveUpgrade$ClusterReader", "readMember", "()Z"⟩, 4) := ⟨⟨by decide +kernel, by decide +kernel⟩, List.mem_of_getElem? (i := 303) (by decide +kernel), List.mem_of_getElem? (i := 559) (by decide +kernel), List.mem_of_getElem? (i := 560) (by decide +kernel)⟩
theorem lw_p9 : lw_okq (⟨"WaveUpgrade$Layout", "join", "(II)V"⟩, 18) := ⟨⟨by decide +kernel, by decide +kernel⟩, List.mem_of_getElem? (i := 86) (by decide +kernel), List.mem_of_getElem? (i := 586) (by decide +kernel), List.mem_of_getElem? (i := 587) (by decide +kernel)⟩
theorem lw_p10 : lw_okq (⟨"WaveUpgrade$ClusterReader", "readLink", "()Z"⟩, 4) := ⟨⟨by decide +kernel, by decide +kernel⟩, List.mem_of_getElem? (i := 303) (by decide +kernel), List.mem_of_getElem? (i := 590) (by decide +kernel), List.mem_of_getElem? (i := 591) (by decide +kernel)⟩
theorem lw_p11 : lw_okq (⟨"WaveUpgrade$ClusterReader", "readWave", "()Z"⟩, 4) := ⟨⟨by decide +kernel, by decide +kernel⟩, List.mem_of_getElem? (i := 303) (by decide +kernel), List.mem_of_getElem? (i := 598) (by decide +kernel), List.mem_of_getElem? (i := 599) (by decide +kernel)⟩
theorem lw_p12 : lw_okq (⟨"WaveUpgrade$ClusterReader", "readPlaceOfWave", "(I)Z"⟩, 4) := ⟨⟨by decide +kernel, by decide +kernel⟩, List.mem_of_getElem? (i := 303) (by decide +kernel), List.mem_of_getElem? (i := 606) (by decide +kernel), List.mem_of_getElem? (i := 607) (by decide +kernel)⟩
theorem lw_p13 : lw_okq (⟨"WaveUpgrade$ClusterReader", "readSetting", "(LWaveUpgrade$Statement;)Z"⟩, 4) := ⟨⟨by decide +kernel, by decide +kernel⟩, List.mem_of_getElem? (i := 303) (by decide +kernel), List.mem_of_getElem? (i := 614) (by decide +kernel), List.mem_of_getElem? (i := 615) (by decide +kernel)⟩
theorem lw_p14 : lw_okq (⟨"java/lang/Throwable", "fillInStackTrace", "(I)Ljava/lang/Throwable;"⟩, 6) := ⟨⟨by decide +kernel, by decide +kernel⟩, List.mem_of_getElem? (i := 660) (by decide +kernel), List.mem_of_getElem? (i := 658) (by decide +kernel), List.mem_of_getElem? (i := 659) (by decide +kernel)⟩
theorem lw_p15 : lw_okq (⟨"WaveUpgradeLaw$World", "next", "(I)I"⟩, 28) := ⟨⟨by decide +kernel, by decide +kernel⟩, List.mem_of_getElem? (i := 725) (by decide +kernel), List.mem_of_getElem? (i := 893) (by decide +kernel), List.mem_of_getElem? (i := 894) (by decide +kernel)⟩
def lw_privs_1 : List (MethodName × Nat) := [(⟨"WaveUpgrade$Text", "scanWord", "()V"⟩, 9), (⟨"WaveUpgrade$Text", "scanNumber", "()V"⟩, 9), (⟨"WaveUpgrade$ClusterReader", "readStatement", "()Z"⟩, 4), (⟨"WaveUpgrade$ClusterReader", "errorOfFirstWord", "(LWaveUpgrade$Statement;)I"⟩, 4), (⟨"WaveUpgrade$ClusterReader", "readRest", "(LWaveUpgrade$Statement;)Z"⟩, 4), (⟨"WaveUpgrade$ClusterReader", "readVersion", "()Z"⟩, 4), (⟨"WaveUpgrade$ClusterReader", "readTalks", "()Z"⟩, 4), (⟨"WaveUpgrade$ClusterReader", "readPlace", "()Z"⟩, 4), (⟨"WaveUpgrade$ClusterReader", "readMember", "()Z"⟩, 4), (⟨"WaveUpgrade$Layout", "join", "(II)V"⟩, 18), (⟨"WaveUpgrade$ClusterReader", "readLink", "()Z"⟩, 4), (⟨"WaveUpgrade$ClusterReader", "readWave", "()Z"⟩, 4), (⟨"WaveUpgrade$ClusterReader", "readPlaceOfWave", "(I)Z"⟩, 4), (⟨"WaveUpgrade$ClusterReader", "readSetting", "(LWaveUpgrade$Statement;)Z"⟩, 4), (⟨"java/lang/Throwable", "fillInStackTrace", "(I)Ljava/lang/Throwable;"⟩, 6), (⟨"WaveUpgradeLaw$World", "next", "(I)I"⟩, 28)]
theorem lw_r1 : ∀ q ∈ lw_privs_1, lw_okq q := List.forall_mem_cons.mpr ⟨lw_p0, List.forall_mem_cons.mpr ⟨lw_p1, List.forall_mem_cons.mpr ⟨lw_p2, List.forall_mem_cons.mpr ⟨lw_p3, List.forall_mem_cons.mpr ⟨lw_p4, List.forall_mem_cons.mpr ⟨lw_p5, List.forall_mem_cons.mpr ⟨lw_p6, List.forall_mem_cons.mpr ⟨lw_p7, List.forall_mem_cons.mpr ⟨lw_p8, List.forall_mem_cons.mpr ⟨lw_p9, List.forall_mem_cons.mpr ⟨lw_p10, List.forall_mem_cons.mpr ⟨lw_p11, List.forall_mem_cons.mpr ⟨lw_p12, List.forall_mem_cons.mpr ⟨lw_p13, List.forall_mem_cons.mpr ⟨lw_p14, List.forall_mem_cons.mpr ⟨lw_p15, fun _ h => absurd h List.not_mem_nil⟩⟩⟩⟩⟩⟩⟩⟩⟩⟩⟩⟩⟩⟩⟩⟩
theorem lw_p16 : lw_okq (⟨"WaveUpgradeLaw$World", "talk", "(Ljava/lang/StringBuilder;II)V"⟩, 28) := ⟨⟨by decide +kernel, by decide +kernel⟩, List.mem_of_getElem? (i := 725) (by decide +kernel), List.mem_of_getElem? (i := 1108) (by decide +kernel), List.mem_of_getElem? (i := 1109) (by decide +kernel)⟩
theorem lw_p17 : lw_okq (⟨"WaveUpgradeLaw$World", "member", "(Ljava/lang/StringBuilder;)V"⟩, 28) := ⟨⟨by decide +kernel, by decide +kernel⟩, List.mem_of_getElem? (i := 725) (by decide +kernel), List.mem_of_getElem? (i := 1115) (by decide +kernel), List.mem_of_getElem? (i := 1116) (by decide +kernel)⟩
theorem lw_p18 : lw_okq (⟨"java/util/ArrayList", "add", "(Ljava/lang/Object;[Ljava/lang/Object;I)V"⟩, 3) := ⟨⟨by decide +kernel, by decide +kernel⟩, List.mem_of_getElem? (i := 733) (by decide +kernel), List.mem_of_getElem? (i := 1235) (by decide +kernel), List.mem_of_getElem? (i := 1236) (by decide +kernel)⟩
theorem lw_p19 : lw_okq (⟨"java/util/ArrayList", "grow", "()[Ljava/lang/Object;"⟩, 3) := ⟨⟨by decide +kernel, by decide +kernel⟩, List.mem_of_getElem? (i := 733) (by decide +kernel), List.mem_of_getElem? (i := 1239) (by decide +kernel), List.mem_of_getElem? (i := 1240) (by decide +kernel)⟩
theorem lw_p20 : lw_okq (⟨"java/util/ArrayList", "grow", "(I)[Ljava/lang/Object;"⟩, 3) := ⟨⟨by decide +kernel, by decide +kernel⟩, List.mem_of_getElem? (i := 733) (by decide +kernel), List.mem_of_getElem? (i := 1243) (by decide +kernel), List.mem_of_getElem? (i := 1244) (by decide +kernel)⟩
theorem lw_p21 : lw_okq (⟨"WaveUpgradeLaw$World", "link", "(Ljava/lang/StringBuilder;)V"⟩, 28) := ⟨⟨by decide +kernel, by decide +kernel⟩, List.mem_of_getElem? (i := 725) (by decide +kernel), List.mem_of_getElem? (i := 1282) (by decide +kernel), List.mem_of_getElem? (i := 1283) (by decide +kernel)⟩
theorem lw_p22 : lw_okq (⟨"WaveUpgradeLaw$World", "inWave", "(Ljava/lang/StringBuilder;I)V"⟩, 28) := ⟨⟨by decide +kernel, by decide +kernel⟩, List.mem_of_getElem? (i := 725) (by decide +kernel), List.mem_of_getElem? (i := 1304) (by decide +kernel), List.mem_of_getElem? (i := 1305) (by decide +kernel)⟩
theorem lw_p23 : lw_okq (⟨"WaveUpgrade", "needMember", "(I)V"⟩, 11) := ⟨⟨by decide +kernel, by decide +kernel⟩, List.mem_of_getElem? (i := 39) (by decide +kernel), List.mem_of_getElem? (i := 1389) (by decide +kernel), List.mem_of_getElem? (i := 1390) (by decide +kernel)⟩
theorem lw_p24 : lw_okq (⟨"WaveUpgrade", "needVersion", "(I)V"⟩, 11) := ⟨⟨by decide +kernel, by decide +kernel⟩, List.mem_of_getElem? (i := 39) (by decide +kernel), List.mem_of_getElem? (i := 1437) (by decide +kernel), List.mem_of_getElem? (i := 1438) (by decide +kernel)⟩
theorem lw_p25 : lw_okq (⟨"WaveUpgrade$State", "finishPlan", "()V"⟩, 16) := ⟨⟨by decide +kernel, by decide +kernel⟩, List.mem_of_getElem? (i := 84) (by decide +kernel), List.mem_of_getElem? (i := 1478) (by decide +kernel), List.mem_of_getElem? (i := 1479) (by decide +kernel)⟩
theorem lw_p26 : lw_okq (⟨"WaveUpgradeLaw$World", "note", "(III)V"⟩, 28) := ⟨⟨by decide +kernel, by decide +kernel⟩, List.mem_of_getElem? (i := 725) (by decide +kernel), List.mem_of_getElem? (i := 1496) (by decide +kernel), List.mem_of_getElem? (i := 1497) (by decide +kernel)⟩
theorem lw_p27 : lw_okq (⟨"WaveUpgrade$State", "endChanges", "()V"⟩, 16) := ⟨⟨by decide +kernel, by decide +kernel⟩, List.mem_of_getElem? (i := 84) (by decide +kernel), List.mem_of_getElem? (i := 1667) (by decide +kernel), List.mem_of_getElem? (i := 1668) (by decide +kernel)⟩
theorem lw_p28 : lw_okq (⟨"WaveUpgrade$State", "isOverLimit", "()Z"⟩, 16) := ⟨⟨by decide +kernel, by decide +kernel⟩, List.mem_of_getElem? (i := 84) (by decide +kernel), List.mem_of_getElem? (i := 1671) (by decide +kernel), List.mem_of_getElem? (i := 1672) (by decide +kernel)⟩
theorem lw_p29 : lw_okq (⟨"WaveUpgrade$State", "reachedOf", "(I)I"⟩, 16) := ⟨⟨by decide +kernel, by decide +kernel⟩, List.mem_of_getElem? (i := 84) (by decide +kernel), List.mem_of_getElem? (i := 1679) (by decide +kernel), List.mem_of_getElem? (i := 1680) (by decide +kernel)⟩
theorem lw_p30 : lw_okq (⟨"WaveUpgrade$State", "leaveWave", "()V"⟩, 16) := ⟨⟨by decide +kernel, by decide +kernel⟩, List.mem_of_getElem? (i := 84) (by decide +kernel), List.mem_of_getElem? (i := 1688) (by decide +kernel), List.mem_of_getElem? (i := 1689) (by decide +kernel)⟩
theorem lw_p31 : lw_okq (⟨"WaveUpgrade$State", "beginChanges", "()I"⟩, 16) := ⟨⟨by decide +kernel, by decide +kernel⟩, List.mem_of_getElem? (i := 84) (by decide +kernel), List.mem_of_getElem? (i := 1692) (by decide +kernel), List.mem_of_getElem? (i := 1693) (by decide +kernel)⟩
def lw_privs_2 : List (MethodName × Nat) := [(⟨"WaveUpgradeLaw$World", "talk", "(Ljava/lang/StringBuilder;II)V"⟩, 28), (⟨"WaveUpgradeLaw$World", "member", "(Ljava/lang/StringBuilder;)V"⟩, 28), (⟨"java/util/ArrayList", "add", "(Ljava/lang/Object;[Ljava/lang/Object;I)V"⟩, 3), (⟨"java/util/ArrayList", "grow", "()[Ljava/lang/Object;"⟩, 3), (⟨"java/util/ArrayList", "grow", "(I)[Ljava/lang/Object;"⟩, 3), (⟨"WaveUpgradeLaw$World", "link", "(Ljava/lang/StringBuilder;)V"⟩, 28), (⟨"WaveUpgradeLaw$World", "inWave", "(Ljava/lang/StringBuilder;I)V"⟩, 28), (⟨"WaveUpgrade", "needMember", "(I)V"⟩, 11), (⟨"WaveUpgrade", "needVersion", "(I)V"⟩, 11), (⟨"WaveUpgrade$State", "finishPlan", "()V"⟩, 16), (⟨"WaveUpgradeLaw$World", "note", "(III)V"⟩, 28), (⟨"WaveUpgrade$State", "endChanges", "()V"⟩, 16), (⟨"WaveUpgrade$State", "isOverLimit", "()Z"⟩, 16), (⟨"WaveUpgrade$State", "reachedOf", "(I)I"⟩, 16), (⟨"WaveUpgrade$State", "leaveWave", "()V"⟩, 16), (⟨"WaveUpgrade$State", "beginChanges", "()I"⟩, 16)]
theorem lw_r2 : ∀ q ∈ lw_privs_2, lw_okq q := List.forall_mem_cons.mpr ⟨lw_p16, List.forall_mem_cons.mpr ⟨lw_p17, List.forall_mem_cons.mpr ⟨lw_p18, List.forall_mem_cons.mpr ⟨lw_p19, List.forall_mem_cons.mpr ⟨lw_p20, List.forall_mem_cons.mpr ⟨lw_p21, List.forall_mem_cons.mpr ⟨lw_p22, List.forall_mem_cons.mpr ⟨lw_p23, List.forall_mem_cons.mpr ⟨lw_p24, List.forall_mem_cons.mpr ⟨lw_p25, List.forall_mem_cons.mpr ⟨lw_p26, List.forall_mem_cons.mpr ⟨lw_p27, List.forall_mem_cons.mpr ⟨lw_p28, List.forall_mem_cons.mpr ⟨lw_p29, List.forall_mem_cons.mpr ⟨lw_p30, List.forall_mem_cons.mpr ⟨lw_p31, fun _ h => absurd h List.not_mem_nil⟩⟩⟩⟩⟩⟩⟩⟩⟩⟩⟩⟩⟩⟩⟩⟩
theorem lw_p32 : lw_okq (⟨"WaveUpgrade$State", "soakIfComplete", "()V"⟩, 16) := ⟨⟨by decide +kernel, by decide +kernel⟩, List.mem_of_getElem? (i := 84) (by decide +kernel), List.mem_of_getElem? (i := 1702) (by decide +kernel), List.mem_of_getElem? (i := 1703) (by decide +kernel)⟩
theorem lw_p33 : lw_okq (⟨"WaveUpgrade$State", "isStuck", "(I)Z"⟩, 16) := ⟨⟨by decide +kernel, by decide +kernel⟩, List.mem_of_getElem? (i := 84) (by decide +kernel), List.mem_of_getElem? (i := 1789) (by decide +kernel), List.mem_of_getElem? (i := 1790) (by decide +kernel)⟩
def lw_privs_3 : List (MethodName × Nat) := [(⟨"WaveUpgrade$State", "soakIfComplete", "()V"⟩, 16), (⟨"WaveUpgrade$State", "isStuck", "(I)Z"⟩, 16)]
theorem lw_r3 : ∀ q ∈ lw_privs_3, lw_okq q := List.forall_mem_cons.mpr ⟨lw_p32, List.forall_mem_cons.mpr ⟨lw_p33, fun _ h => absurd h List.not_mem_nil⟩⟩
def lw_privs : List (MethodName × Nat) := lw_privs_1 ++ (lw_privs_2 ++ (lw_privs_3))
def lw_tbl : List Cond := k2_sels lw_privs ++ tables_1
theorem lw_privs_ok : ∀ q ∈ lw_privs, lw_okq q := by
  show ∀ q ∈ lw_privs_1 ++ (lw_privs_2 ++ (lw_privs_3)), lw_okq q
  exact List.forall_mem_append.mpr ⟨lw_r1, List.forall_mem_append.mpr ⟨lw_r2, lw_r3⟩⟩
end
section
/-! ===== BEGIN words of one list among another's, by their places ===== -/
theorem goodIn_r {big : List Cond} (ws : List Cond) (ps : List Nat) (hp : ws = ps.filterMap (fun i => big[i]?)) (h : ws.all goodWord = true) : GoodIn big ws := by
  intro w hw
  have h1 := List.all_eq_true.mp h w hw
  rw [hp] at hw
  obtain ⟨i, -, hi⟩ := List.mem_filterMap.mp hw
  have hm : w ∈ big := by first | exact List.mem_of_getElem? hi | exact List.getElem?_mem hi
  exact ⟨hm, good_of_word h1⟩
theorem goodIn_app {big a b : List Cond} (ha : GoodIn big a) (hb : GoodIn big b) : GoodIn big (a ++ b) := fun w h => (List.mem_append.mp h).elim (ha w) (hb w)
theorem goodIn_ca {big a b : List Cond} {c : Cond} (ha : GoodIn big (c :: a)) (hb : GoodIn big b) : GoodIn big (c :: (a ++ b)) := fun w h => (List.mem_cons.mp h).elim (fun e => ha w (List.mem_cons.mpr (Or.inl e))) (fun h => (List.mem_append.mp h).elim (fun h => ha w (List.mem_cons.mpr (Or.inr h))) (hb w))
theorem goodIn_sub {big ws : List Cond} (hm : ∀ w ∈ ws, w ∈ big) (h : ws.all goodWord = true) : GoodIn big ws := fun w hw => ⟨hm w hw, good_of_word (List.all_eq_true.mp h w hw)⟩
/-! ===== END ===== -/
/-! ===== BEGIN exceptions that leave a method, and their catching by the caller (launches without stack traces) ===== -/
section VXA
/-! The laws vx_back, vx_callV, vx_callS, vx_callSW, vx_throw0, vx_throwS follow proofs of the library, with one case more: JvmDerived/Free/Laws.lean (Back.of_free), Shelf42/LK1.lean (callV, callS), Shelf/KitTraced.lean (throwNew0V, throwNewS). -/
/-- where a method has thrown q: the class by its name, the cell, what was written, the world -/
def vx_T (XC : String → State → State → Prop) (st : State) (q : Addr) (t : State) (mc ms : Nat) (free : Addr → Prop) : Prop :=
  ∃ (E : String) (ce : Cell) (L : List Loc), XC E st t ∧ t.heap[q]? = some ce ∧ ce.vm = .none ∧ st.vm.findClass E = some ce.cls ∧ st.WarmedH t.vm ∧ st.sameButNew ({ t with vm := st.vm } : State) L mc ms ∧ ∀ z ∈ L, free z.base
def vx_Q (Qc : Array Value → State → Outcome → State → Prop) (XC : String → State → State → Prop) (mc ms : Nat) (free : Addr → Prop) : Array Value → State → Outcome → State → Prop := fun a st o t =>
  (Qc a st o t ∧ ∃ L, FrameEnd st o t L mc ms ∧ ∀ q ∈ L, free q.base) ∨ ∃ q, o = .threw q ∧ vx_T XC st q t mc ms free
/-- a callee that returns or throws -/
def vx_Met (l : Launch) (y : MethodName) (ws : List Cond) (rm : Room) (Pc : Array Value → State → Prop) (Qc : Array Value → State → Outcome → State → Prop) (XC : String → State → State → Prop) (mc ms : Nat) (free : Addr → Prop) : Prop :=
  MetFree l y (headSpec ws rm) Pc (fun _ _ _ _ _ => True) (vx_Q Qc XC mc ms free)
def vx_Post (XC : String → State → State → Prop) (mc ms : Nat) (free : Addr → Prop) : Pt → Array Value → Addr → Pt → Prop := fun A a q B =>
  ∃ (g : JFrame) (mk : MethodId) (t : State) (L : List Loc) (E : String) (ce : Cell), B.U.heap = t.heap ∧ B.U.vm = t.vm ∧ XC E (A.U.calling g mk a) t ∧ t.heap[q]? = some ce ∧ ce.vm = .none ∧ A.U.vm.findClass E = some ce.cls ∧ B.locs = A.locs ++ L ∧ (∀ z ∈ L, free z.base) ∧ B.cells = A.cells + mc ∧ B.slots = A.slots + ms
def vx_Back (l : Launch) (R : Room) (p : Program) (e : Env) (below : List Frame) (s : State) (sargs : Array Value) (y : MethodName) (len W9 : Nat)
    (Pre : Pt → Array Value → Prop) (Post : Pt → Array Value → Option Value → Pt → Prop) (PostX : Pt → Array Value → Addr → Pt → Prop) : Prop :=
  ∀ (m : MethodId) (meth : Method) (c : Code) (A : Pt) (g : JFrame) (ig : Instr) (mk : MethodId) (a : Array Value),
    Stand p l e R s m sargs below meth c A.U A.locs A.cells A.slots → g.method = m → g.locals.size = c.maxLocals → decode c.code g.pc = .ok (ig, len) →
    2 * g.monitorRoom + (g.stack.map fun v => v.category).sum ≤ W9 → A.U.methodNamed? y = some mk → Pre A a →
    (∃ (v : Option Value) (B : Pt), Stand p l e R s m sargs below meth c B.U B.locs B.cells B.slots ∧ Post A a v B ∧
      Steps p.tables e below (doInvoke e (A.U.setTop g) [] mk a).1 (B.U.setTop { g with pc := g.pc + len, stack := v.toList ++ g.stack })) ∨
    (∃ (q : Addr) (B : Pt), Stand p l e R s m sargs below meth c B.U B.locs B.cells B.slots ∧ PostX A a q B ∧
      Steps p.tables e below (doInvoke e (A.U.setTop g) [] mk a).1 ((B.U.setTop g).pushFrame (.throwing q)))
section Payer
variable {l : Launch} {R : Room} {p : Program} {e : Env} {below : List Frame} {s : State} {sargs : Array Value} {y : MethodName} {len W9 : Nat}
theorem vx_back {ws : List Cond} {rm : Room} {Pc : Array Value → State → Prop} {Qc : Array Value → State → Outcome → State → Prop} {XC : String → State → State → Prop} {mc ms : Nat} {free : Addr → Prop} {bytes : ByteArray} {maxL : Nat} {ret : Option FieldType}
    (hM : vx_Met l y ws rm Pc Qc XC mc ms free) (hblind : FrameBlind Pc) (hrc : rm.cells = mc) (hrs : rm.slots = ms)
    (hframes : rm.frames + 1 ≤ R.frames) (hlocals : W9 + (maxL + 11) + rm.locals ≤ R.locals)
    (hws : ∀ w ∈ ws, ∀ a' U, s.WarmedH U.vm → w.before a' U = true) (hcode : Cond.code y bytes maxL ret ∈ ws) (hinit : ∀ a' U, s.WarmedH U.vm → (Cond.initialized y.cls).before a' U = true) :
    vx_Back l R p e below s sargs y len W9 (PreOf R mc ms Pc) (PostOf Qc mc ms free) (vx_Post XC mc ms free) := by
  intro m meth c A g ig mk a X hg hsize hdg hW hn hp
  have h1 : (headSpec ws rm).pre.before a A.U = true := atoms_intro fun w hw => hws w hw _ _ X.warmed
  have h2 : (Cond.code y bytes maxL ret).before a A.U = true := hws _ hcode _ _ X.warmed
  have h3 : (Cond.initialized y.cls).before a A.U = true := hinit _ _ X.warmed
  have h4 : A.cells + (headSpec ws rm).room.cells ≤ R.cells := by rw [show (headSpec ws rm).room.cells = mc from hrc]; exact hp.1
  have h5 : A.slots + (headSpec ws rm).room.slots ≤ R.slots := by rw [show (headSpec ws rm).room.slots = ms from hrs]; exact hp.2.1
  have hPc : Pc a (A.U.calling g mk a) := hblind _ _ _ _ hp.2.2
  obtain ⟨U, Ls, c0, s0⟩ := A
  dsimp only [Pt.U, Pt.locs, Pt.cells, Pt.slots] at h1 h2 h3 h4 h5 X hn hPc ⊢
  obtain ⟨methY, cY, hmY, hcY, -, hlY, -, -, -, -⟩ := Cond.code_spec hn h2
  obtain ⟨kY, hkY, -⟩ := className_of_methodNamed hn
  have hinitY : kY.init = .initialized := Cond.initialized_spec (findClass_of_methodNamed hn) hkY h3
  have h : At U g.method c below := by rw [hg]; exact X.here
  have hlocals9 : W9 + (maxL + 11) + (headSpec ws rm).room.locals ≤ R.locals := hlocals
  have happ : (headSpec ws rm).appliesLoose y e.platform (U.calling g mk a) = true :=
    Spec.appliesLoose_calling (g := g) h hdg hn hkY hinitY
      (X.room_calling (g := g) (R' := (headSpec ws rm).room) hsize hmY hcY hframes (by rw [hlY]; omega) h4 h5) h1
  obtain ⟨mid, hmid⟩ := h.above
  have hfr : (U.setTop g).frames = (.java g :: mid) ++ below := by rw [State.frames_setTop' g h.top, hmid]; rfl
  obtain ⟨o, s₂, hsteps, -, hend, hq⟩ := Steps.callFree hM p X.admits X.cas X.clock (acts := []) hfr happ hPc trivial
  have hq' : vx_Q Qc XC mc ms free a (U.calling g mk a) o s₂ := hq
  rw [State.frames_setTop' g h.top] at hend
  obtain ⟨g₀, hg0⟩ := Option.isSome_iff_exists.mp h.top
  obtain ⟨r, hr⟩ := State.topJava?_eq_some.mp hg0
  have hr' : (({ U with heap := s₂.heap, slotsUsed := s₂.slotsUsed } : State).setVm s₂.vm).frames = .java g₀ :: r := hr
  rcases hq' with ⟨hqc, L, hfe, hL⟩ | ⟨q, rfl, E, ce, L, hx, hce, hcv, hcl, hW₂, hsm, hL⟩
  · obtain ⟨⟨v, rfl⟩, hW₂, e2, q2, q3, q4, q5, q6⟩ := id hfe
    have e3 : s₂ = ({ (U.calling g mk a).setFrames s₂.frames with heap := s₂.heap, slotsUsed := s₂.slotsUsed } : State).setVm s₂.vm := by
      have : s₂ = ({ s₂ with vm := (U.calling g mk a).vm } : State).setVm s₂.vm := rfl
      rw [e2] at this
      exact this
    obtain ⟨c₂, i₂, len₂, hc₂, hd₂, hf₂⟩ := hend
    have hW' : U.WarmedH s₂.vm := hW₂
    have hcc : c₂ = c := by
      have h1 : s₂.code? g.method = U.code? g.method := by
        rw [State.code?_eq, State.code?_eq, hW'.alike.method?]
      exact Option.some.inj (hc₂.symm.trans (h1.trans h.code))
    subst hcc
    have hlen : len₂ = len := by rw [hdg] at hd₂; cases hd₂; rfl
    subst hlen
    have hs₂ : s₂ = (({ U with heap := s₂.heap, slotsUsed := s₂.slotsUsed } : State).setVm s₂.vm).setTop { g with pc := g.pc + len₂, stack := v.toList ++ g.stack } := by
      refine e3.trans ?_
      rw [hf₂, State.calling_eq h.top, State.setFrames_setFrames, State.setTop_of_frames _ hr', hr]
      rfl
    have hsame : U.sameButNew ({ U with heap := s₂.heap, slotsUsed := s₂.slotsUsed } : State) L mc ms := by
      refine ⟨?_, q2, q3, q4, q5, q6⟩
      obtain ⟨t, ht, -⟩ := State.frames_cons hr
      show ({ U with heap := s₂.heap, slotsUsed := s₂.slotsUsed } : State) = { U.setFrames U.frames with heap := s₂.heap, slotsUsed := s₂.slotsUsed }
      rw [State.setFrames_self ht]
    subst hg
    refine Or.inl ⟨v, ⟨(({ U with heap := s₂.heap, slotsUsed := s₂.slotsUsed } : State).setVm s₂.vm), Ls ++ L, c0 + mc, s0 + ms⟩,
      ⟨X.admits, X.cas, X.clock, X.frames, X.room, X.hears, X.method, X.code, (X.here.setHeapUsed s₂.heap s₂.slotsUsed).setVm hW'.alike, X.tail, State.WarmedH.trans X.warmed hW', X.limits, X.bytes, X.same.trans (hsame.setVm s.vm)⟩,
      ⟨g, mk, s₂, L, rfl, rfl, hqc, rfl, hL, rfl, rfl⟩, ?_⟩
    show Steps p.tables e below _ ((({ U with heap := s₂.heap, slotsUsed := s₂.slotsUsed } : State).setVm s₂.vm).setTop { g with pc := g.pc + len₂, stack := v.toList ++ g.stack })
    rw [← hs₂]
    exact hsteps
  · obtain ⟨e2, q2, q3, q4, q5, q6⟩ := id hsm
    have e3 : s₂ = ({ (U.calling g mk a).setFrames s₂.frames with heap := s₂.heap, slotsUsed := s₂.slotsUsed } : State).setVm s₂.vm := by
      have : s₂ = ({ s₂ with vm := (U.calling g mk a).vm } : State).setVm s₂.vm := rfl
      rw [e2] at this
      exact this
    have hf₂ : s₂.frames = .throwing q :: .java g :: U.frames.tail := hend
    have hW' : U.WarmedH s₂.vm := hW₂
    have hs₂ : s₂ = ((({ U with heap := s₂.heap, slotsUsed := s₂.slotsUsed } : State).setVm s₂.vm).setTop g).pushFrame (.throwing q) := by
      refine e3.trans ?_
      rw [hf₂, State.calling_eq h.top, State.setFrames_setFrames, State.pushFrame, State.frames_setTop _ hr', State.setTop_of_frames _ hr', State.setFrames_setFrames, hr]
      rfl
    have hsame : U.sameButNew ({ U with heap := s₂.heap, slotsUsed := s₂.slotsUsed } : State) L mc ms := by
      refine ⟨?_, q2, q3, q4, q5, q6⟩
      obtain ⟨t, ht, -⟩ := State.frames_cons hr
      show ({ U with heap := s₂.heap, slotsUsed := s₂.slotsUsed } : State) = { U.setFrames U.frames with heap := s₂.heap, slotsUsed := s₂.slotsUsed }
      rw [State.setFrames_self ht]
    subst hg
    refine Or.inr ⟨q, ⟨(({ U with heap := s₂.heap, slotsUsed := s₂.slotsUsed } : State).setVm s₂.vm), Ls ++ L, c0 + mc, s0 + ms⟩,
      ⟨X.admits, X.cas, X.clock, X.frames, X.room, X.hears, X.method, X.code, (X.here.setHeapUsed s₂.heap s₂.slotsUsed).setVm hW'.alike, X.tail, State.WarmedH.trans X.warmed hW', X.limits, X.bytes, X.same.trans (hsame.setVm s.vm)⟩,
      ⟨g, mk, s₂, L, E, ce, rfl, rfl, hx, hce, hcv, hcl, rfl, hL, rfl, rfl⟩, ?_⟩
    show Steps p.tables e below _ (((({ U with heap := s₂.heap, slotsUsed := s₂.slotsUsed } : State).setVm s₂.vm).setTop g).pushFrame (.throwing q))
    rw [← hs₂]
    exact hsteps
end Payer
section Calls
variable {p : Program} {l : Launch} {e : Env} {R : Room} {s : State} {m : MethodId} {args : Array Value} {below : List Frame} {meth : Method} {c : Code} {T : State} {locs : List Loc} {cells slots : Nat}
theorem vx_callV (X : Stand p l e R s m args below meth c T locs cells slots) (hexec : p.tables.exec = Jvm.exec) {own C : String} {index : Nat} {y : MethodName} {bytes : ByteArray} {maxL : Nat} {ret : Option FieldType}
    (hown : s.vm.findClass own = some m.cls) (hlink : (Cond.methodLink own index y).before args s = true) (hinst : (Cond.instanceMethod y).before args s = true) (hsel : (Cond.selects C y y).before args s = true)
    (hcode : (Cond.code y bytes maxL ret).before args s = true) (hy : y.cls ≠ "java/lang/invoke/MethodHandle" ∧ y.cls ≠ "java/lang/invoke/VarHandle")
    {W9 : Nat} {Pre : Pt → Array Value → Prop} {Post : Pt → Array Value → Option Value → Pt → Prop} {PostX : Pt → Array Value → Addr → Pt → Prop} (hK : vx_Back l R p e below s args y 3 W9 Pre Post PostX)
    {b : Addr} {cellB : Cell} (hcell : T.heap[b]? = some cellB) (hobj : cellB.vm.isStatics = false) (hcls : s.vm.findClass C = some cellB.cls)
    {g : JFrame} (hg : g.method = m) (hsize : g.locals.size = c.maxLocals) {argsL rest : List Value} (hlen : ∀ sig, parseMethodDescriptor y.desc = some sig → argsL.length = sig.parameters.length)
    (hstack : g.stack = argsL.reverse ++ .ref b :: rest) (hW : 2 * g.monitorRoom + (rest.map fun v => v.category).sum ≤ W9) (hdg : decode c.code g.pc = .ok (.invokevirtual index, 3))
    (hpre : ∀ vm₁, s.WarmedH vm₁ → Pre ⟨T.setVm vm₁, locs, cells, slots⟩ (Value.ref b :: argsL).toArray) :
    (∃ (v : Option Value) (vm₁ : Vm) (B : Pt), s.WarmedH vm₁ ∧ Stand p l e R s m args below meth c B.U B.locs B.cells B.slots ∧ Post ⟨T.setVm vm₁, locs, cells, slots⟩ (Value.ref b :: argsL).toArray v B ∧
      ∀ target, Steps p.tables e below (B.U.setTop { g with pc := g.pc + 3, stack := v.toList ++ rest }) target → Steps p.tables e below (T.setTop g) target) ∨
    (∃ (q : Addr) (vm₁ : Vm) (B : Pt), s.WarmedH vm₁ ∧ Stand p l e R s m args below meth c B.U B.locs B.cells B.slots ∧ PostX ⟨T.setVm vm₁, locs, cells, slots⟩ (Value.ref b :: argsL).toArray q B ∧
      Steps p.tables e below (T.setTop g) ((B.U.setTop { g with stack := rest }).pushFrame (.throwing q))) := by
  obtain ⟨mk, methM, hnamed, hmethM, hstM, habM⟩ := Cond.instanceMethod_spec hinst
  obtain ⟨methM', cM, hmethM', -, -, -, -, -, -, hsigM⟩ := Cond.code_spec hnamed hcode
  cases hmethM.symm.trans hmethM'
  obtain ⟨c2, r2, m2, q1, q2, q3, q4, kP, hkP, hkPi⟩ := Cond.selects_spec hsel
  cases hcls.symm.trans q1
  cases (State.methodFound?_of_named hnamed hy).symm.trans q2
  cases hnamed.symm.trans q3
  have hselP : selectMethod e.platform s.vm cellB.cls mk = .method mk := by rw [Launch.admits_selectMethod X.admits]; exact q4
  obtain ⟨vm₁, X₁, hstep₁⟩ := X.invokevirtual hexec hown hlink hnamed hmethM hstM hkP hkPi hy (a := b) (cell := cellB) hcell
    (fun z h => by rw [h] at hobj; cases hobj) hselP hmethM habM hkP hkPi (g := g) hg (argsL := argsL) (rest := rest) (hlen _ hsigM) hstack hdg
  rcases hK m meth c ⟨T.setVm vm₁, locs, cells, slots⟩ { g with stack := rest } (.invokevirtual index) mk (Value.ref b :: argsL).toArray X₁ hg hsize hdg hW (X₁.named hnamed) (hpre vm₁ X₁.warmed) with ⟨v, B, X', hpost, hsteps⟩ | ⟨q, B, X', hpost, hsteps⟩
  · exact Or.inl ⟨v, vm₁, B, X₁.warmed, X', hpost, fun target h => hstep₁ _ fun acts => by rw [doInvoke_state]; exact hsteps.trans h⟩
  · exact Or.inr ⟨q, vm₁, B, X₁.warmed, X', hpost, hstep₁ _ fun acts => by rw [doInvoke_state]; exact hsteps⟩
theorem vx_callS (X : Stand p l e R s m args below meth c T locs cells slots) (hexec : p.tables.exec = Jvm.exec) {own : String} {index : Nat} {y : MethodName} {bytes : ByteArray} {maxL : Nat} {ret : Option FieldType}
    (hown : s.vm.findClass own = some m.cls) (hlink : (Cond.methodLink own index y).before args s = true) (hstat : (Cond.static y).before args s = true) (hinit : (Cond.initialized y.cls).before args s = true)
    (hcode : (Cond.code y bytes maxL ret).before args s = true) (hy : y.cls ≠ "java/lang/invoke/MethodHandle" ∧ y.cls ≠ "java/lang/invoke/VarHandle")
    {W9 : Nat} {Pre : Pt → Array Value → Prop} {Post : Pt → Array Value → Option Value → Pt → Prop} {PostX : Pt → Array Value → Addr → Pt → Prop} (hK : vx_Back l R p e below s args y 3 W9 Pre Post PostX)
    {g : JFrame} (hg : g.method = m) (hsize : g.locals.size = c.maxLocals) {argsL rest : List Value} (hlen : ∀ sig, parseMethodDescriptor y.desc = some sig → argsL.length = sig.parameters.length)
    (hstack : g.stack = argsL.reverse ++ rest) (hW : 2 * g.monitorRoom + (rest.map fun v => v.category).sum ≤ W9) (hdg : decode c.code g.pc = .ok (.invokestatic index, 3))
    (hpre : ∀ vm₁, s.WarmedH vm₁ → Pre ⟨T.setVm vm₁, locs, cells, slots⟩ argsL.toArray) :
    (∃ (v : Option Value) (vm₁ : Vm) (B : Pt), s.WarmedH vm₁ ∧ Stand p l e R s m args below meth c B.U B.locs B.cells B.slots ∧ Post ⟨T.setVm vm₁, locs, cells, slots⟩ argsL.toArray v B ∧
      ∀ target, Steps p.tables e below (B.U.setTop { g with pc := g.pc + 3, stack := v.toList ++ rest }) target → Steps p.tables e below (T.setTop g) target) ∨
    (∃ (q : Addr) (vm₁ : Vm) (B : Pt), s.WarmedH vm₁ ∧ Stand p l e R s m args below meth c B.U B.locs B.cells B.slots ∧ PostX ⟨T.setVm vm₁, locs, cells, slots⟩ argsL.toArray q B ∧
      Steps p.tables e below (T.setTop g) ((B.U.setTop { g with stack := rest }).pushFrame (.throwing q))) := by
  obtain ⟨mk, hnamed⟩ := Cond.code_named hcode
  obtain ⟨methM, cM, hmethM, -, -, -, -, -, -, hsigM⟩ := Cond.code_spec hnamed hcode
  have hstatic : methM.isStatic = true := Cond.static_spec hnamed hmethM hstat
  obtain ⟨kP, hkP, -⟩ := className_of_methodNamed hnamed
  have hinitP : kP.init = .initialized := Cond.initialized_spec (findClass_of_methodNamed hnamed) hkP hinit
  obtain ⟨vm₁, X₁, hstep₁⟩ := X.invokestatic hexec hown hlink hnamed hmethM hstatic hkP hinitP hy (g := g) hg (argsL := argsL) (rest := rest) (hlen _ hsigM) hstack hdg
  rcases hK m meth c ⟨T.setVm vm₁, locs, cells, slots⟩ { g with stack := rest } (.invokestatic index) mk argsL.toArray X₁ hg hsize hdg hW (X₁.named hnamed) (hpre vm₁ X₁.warmed) with ⟨v, B, X', hpost, hsteps⟩ | ⟨q, B, X', hpost, hsteps⟩
  · exact Or.inl ⟨v, vm₁, B, X₁.warmed, X', hpost, fun target h => hstep₁ _ fun acts => by rw [doInvoke_state]; exact hsteps.trans h⟩
  · exact Or.inr ⟨q, vm₁, B, X₁.warmed, X', hpost, hstep₁ _ fun acts => by rw [doInvoke_state]; exact hsteps⟩
end Calls
theorem vx_cls {s : State} {T : State} {vm₁ : Vm} {E : String} {k : ClassId} (hW : s.WarmedH vm₁) (h : (T.setVm vm₁).vm.findClass E = some k) : s.vm.findClass E = some k := by
  have h1 : vm₁.findClass E = some k := h
  rw [hW.alike.findClass] at h1
  exact h1
/-- the method's frame g, with q thrown over it -/
def vx_W (p : Program) (l : Launch) (e : Env) (R : Room) (s : State) (m : MethodId) (args : Array Value) (below : List Frame) (meth : Method) (c : Code) (H : Heap) (locs : List Loc) (cells slots : Nat) (Q : State → Prop) (g : JFrame) (q : Addr) : Prop :=
  ∀ T : State, T.heap = H → Stand p l e R s m args below meth c T locs cells slots → ∃ t, Steps p.tables e below ((T.setTop g).pushFrame (.throwing q)) t ∧ Q t
def vx_Run (p : Program) (l : Launch) (e : Env) (R : Room) (s : State) (m : MethodId) (args : Array Value) (below : List Frame) (meth : Method) (c : Code) (H : Heap) (locs : List Loc) (cells slots mc ms : Nat) (g : JFrame) (rest : List Value) (Qa : State → Outcome → State → Prop) (XC : String → State → State → Prop) (free : Addr → Prop) : Prop :=
  ∀ T : State, T.heap = H → Stand p l e R s m args below meth c T locs cells slots →
    (∃ (v : Option Value) (st₀ t T' : State) (L : List Loc), st₀.heap = H ∧ Stand p l e R s m args below meth c T' (locs ++ L) (cells + mc) (slots + ms) ∧ (∀ q ∈ L, free q.base) ∧ T'.heap = t.heap ∧ T'.vm = t.vm ∧ Qa st₀ (.returned v) t ∧
      Goes p e below T g T' { g with pc := g.pc + 3, stack := v.toList ++ rest }) ∨
    (∃ (q : Addr) (st₀ t T' : State) (L : List Loc) (E : String) (ce : Cell), st₀.heap = H ∧ Stand p l e R s m args below meth c T' (locs ++ L) (cells + mc) (slots + ms) ∧ (∀ z ∈ L, free z.base) ∧ T'.heap = t.heap ∧ T'.vm = t.vm ∧ XC E st₀ t ∧ t.heap[q]? = some ce ∧ ce.vm = .none ∧ s.vm.findClass E = some ce.cls ∧
      Steps p.tables e below (T.setTop g) ((T'.setTop { g with stack := rest }).pushFrame (.throwing q)))
def vx_X {S : Type} (px : S → Prop) (B : String → S → State → Prop) (A : Nat → Prop) : String → State → State → Prop := fun E st t => ∃ u : S, px u ∧ B E u t ∧ va_F A st t
section Runs
variable {p : Program} {l : Launch} {e : Env} {R : Room} {s : State} {m : MethodId} {args : Array Value} {below : List Frame} {meth : Method} {c : Code} {H : Heap} {locs : List Loc} {cells slots : Nat}
variable {y : MethodName} {bytes cc : ByteArray} {maxL nL mc ms n index : Nat} {ret : Option FieldType} {ws : List Cond} {rm : Room} {Pc : Array Value → State → Prop} {Qc : Array Value → State → Outcome → State → Prop} {XC : String → State → State → Prop} {free : Addr → Prop} {Ts : List Cond} {own C : String} {b : Addr} {As rest : List Value} {g : JFrame}
theorem vx_callBack (cb : CallB R s args own index y bytes maxL ret ws rm mc ms n) (hM : vx_Met l y ws rm Pc Qc XC mc ms free) (hbl : FrameBlind Pc) : vx_Back l R p e below s args y 3 8 (PreOf R mc ms Pc) (PostOf Qc mc ms free) (vx_Post XC mc ms free) := by
  obtain ⟨hrc, hrs, hfr, hlo, hws, hcw, -, hini, -⟩ := cb
  exact vx_back (bytes := bytes) (maxL := maxL) (ret := ret) hM hbl hrc hrs hfr hlo hws hcw (fun a' U hW => word_at hW (Or.inl (by first | rfl | simp [Cond.onTables, Cond.keeps, Cond.steady])) hini)
theorem vx_runV (S : CallFix p m c cc nL s args Ts own) (hM : vx_Met l y ws rm Pc Qc XC mc ms free) (cw : CallW R s args own C index y bytes maxL ret ws rm mc ms n) (hp : PreV s H C b Pc As)
    (hg : g.method = m) (hn : As.length = n) (hsize : g.locals.size = nL) (hstack : g.stack = As.reverse ++ .ref b :: rest) (hW : 2 * g.monitorRoom + (rest.map fun v => v.category).sum ≤ 8) (hdg : decode cc g.pc = .ok (.invokevirtual index, 3)) (hf : cells + mc ≤ R.cells ∧ slots + ms ≤ R.slots) :
    vx_Run p l e R s m args below meth c H locs cells slots mc ms g rest (Qc (Value.ref b :: As).toArray) XC free := by
  have hK : vx_Back l R p e below s args y 3 8 (PreOf R mc ms Pc) (PostOf Qc mc ms free) (vx_Post XC mc ms free) := vx_callBack cw.1 hM hp.1
  obtain ⟨⟨-, -, -, -, -, -, hcode, -, hy, hlen, hl⟩, hin, hse⟩ := cw
  obtain ⟨hx, hb, hml, ho, -⟩ := S
  obtain ⟨-, ⟨cellB, hcB, hoB, hclB⟩, hPc⟩ := hp
  intro T hT X
  rcases vx_callV X hx (C := C) (bytes := bytes) (maxL := maxL) (ret := ret) ho hl hin hse hcode hy hK (by rw [hT]; exact hcB) hoB hclB hg (hsize.trans hml.symm) (argsL := As) (rest := rest) (fun sig h => hn.trans (hlen sig h)) hstack hW (by rw [hb]; exact hdg)
    (fun vm₁ hW₁ => ⟨hf.1, hf.2, hPc (T.setVm vm₁) hT hW₁⟩) with ⟨v, vm₁, ⟨U', l2, c2, s2⟩, hW₁, X', ⟨g', mk, t, L, e1, e2, hq, h1, hL, h2, h3⟩, st⟩ | ⟨q, vm₁, ⟨U', l2, c2, s2⟩, hW₁, X', ⟨g', mk, t, L, E, ce, e1, e2, hq, hce, hcv, hcl, h1, hL, h2, h3⟩, st⟩
  · dsimp only [Pt.U, Pt.locs, Pt.cells, Pt.slots] at X' e1 e2 h1 h2 h3 st
    subst h1; subst h2; subst h3
    exact Or.inl ⟨v, (T.setVm vm₁).calling g' mk (Value.ref b :: As).toArray, t, U', L, hT, X', hL, e1, e2, hq, st⟩
  · dsimp only [Pt.U, Pt.locs, Pt.cells, Pt.slots] at X' e1 e2 h1 h2 h3 st hcl
    subst h1; subst h2; subst h3
    exact Or.inr ⟨q, (T.setVm vm₁).calling g' mk (Value.ref b :: As).toArray, t, U', L, E, ce, hT, X', hL, e1, e2, hq, hce, hcv, vx_cls hW₁ hcl, st⟩
theorem vx_runS (S : CallFix p m c cc nL s args Ts own) (hM : vx_Met l y ws rm Pc Qc XC mc ms free) (cw : CallB R s args own index y bytes maxL ret ws rm mc ms n ∧ (Cond.static y).before args s = true) (hp : PreS s H Pc As)
    (hg : g.method = m) (hn : As.length = n) (hsize : g.locals.size = nL) (hstack : g.stack = As.reverse ++ rest) (hW : 2 * g.monitorRoom + (rest.map fun v => v.category).sum ≤ 8) (hdg : decode cc g.pc = .ok (.invokestatic index, 3)) (hf : cells + mc ≤ R.cells ∧ slots + ms ≤ R.slots) :
    vx_Run p l e R s m args below meth c H locs cells slots mc ms g rest (Qc As.toArray) XC free := by
  have hK : vx_Back l R p e below s args y 3 8 (PreOf R mc ms Pc) (PostOf Qc mc ms free) (vx_Post XC mc ms free) := vx_callBack cw.1 hM hp.1
  obtain ⟨⟨-, -, -, -, -, -, hcode, hini, hy, hlen, hl⟩, hstt⟩ := cw
  obtain ⟨hx, hb, hml, ho, -⟩ := S
  intro T hT X
  rcases vx_callS X hx (bytes := bytes) (maxL := maxL) (ret := ret) ho hl hstt hini hcode hy hK hg (hsize.trans hml.symm) (argsL := As) (rest := rest) (fun sig h => hn.trans (hlen sig h)) hstack hW (by rw [hb]; exact hdg)
    (fun vm₁ hW₁ => ⟨hf.1, hf.2, hp.2 (T.setVm vm₁) hT hW₁⟩) with ⟨v, vm₁, ⟨U', l2, c2, s2⟩, hW₁, X', ⟨g', mk, t, L, e1, e2, hq, h1, hL, h2, h3⟩, st⟩ | ⟨q, vm₁, ⟨U', l2, c2, s2⟩, hW₁, X', ⟨g', mk, t, L, E, ce, e1, e2, hq, hce, hcv, hcl, h1, hL, h2, h3⟩, st⟩
  · dsimp only [Pt.U, Pt.locs, Pt.cells, Pt.slots] at X' e1 e2 h1 h2 h3 st
    subst h1; subst h2; subst h3
    exact Or.inl ⟨v, (T.setVm vm₁).calling g' mk As.toArray, t, U', L, hT, X', hL, e1, e2, hq, st⟩
  · dsimp only [Pt.U, Pt.locs, Pt.cells, Pt.slots] at X' e1 e2 h1 h2 h3 st hcl
    subst h1; subst h2; subst h3
    exact Or.inr ⟨q, (T.setVm vm₁).calling g' mk As.toArray, t, U', L, E, ce, hT, X', hL, e1, e2, hq, hce, hcv, vx_cls hW₁ hcl, st⟩
end Runs
section Rows
variable {p : Program} {l : Launch} {e : Env} {R : Room} {s : State} {m : MethodId} {args : Array Value} {below : List Frame} {meth : Method} {c : Code} {H : Heap} {locs : List Loc} {cells slots : Nat} {Q : State → Prop}
variable {mc ms : Nat} {free : Addr → Prop} {A0 A1 : Nat → Prop} {H0 : Heap} {a : Array Value} {pc : Nat} {ls : Array Slot} {st0 rest : List Value}
theorem vx_keep {st₀ t T' : State} {L : List Loc} (h0 : st₀.heap = H) (e1 : T'.heap = t.heap) (hS : va_S A0 H0 H locs) (hA : ∀ q, q < H.size → A1 q → A0 q) (hf : ∀ q, free q → A0 q) (hL : ∀ q ∈ L, free q.base) (hF : va_F A1 st₀ t) :
    H.size ≤ T'.heap.size ∧ (∀ q : Nat, q < H.size → ¬ A1 q → T'.heap[q]? = H[q]?) ∧ va_S A0 H0 T'.heap (locs ++ L) := by
  obtain ⟨hz, hk⟩ := hF
  rw [h0] at hz hk
  exact ⟨by rw [e1]; exact hz, fun q h1 h2 => by rw [e1]; exact hk q h1 h2,
    ⟨Nat.le_trans hS.1 (by rw [e1]; exact hz), fun q h1 h2 => by rw [e1, hk q (Nat.lt_of_lt_of_le h1 hS.1) (fun z => h2 (hA q (Nat.lt_of_lt_of_le h1 hS.1) z))]; exact hS.2.1 q h1 h2, fun q hq => by
      rcases List.mem_append.mp hq with h | h
      · exact hS.2.2 q h
      · exact hf _ (hL q h)⟩⟩
theorem vx_calli {S SX : Type} {post : Int32 → S → Prop} {px : SX → Prop} {B : S → State → Prop} {BX : String → SX → State → Prop} {AX : Nat → Prop} (hr : vx_Run p l e R s m args below meth c H locs cells slots mc ms (F0 m pc ls st0) rest (va_Qi post B A1 a) (vx_X px BX AX) free) (hS : va_S A0 H0 H locs) (hA : ∀ q, q < H.size → A1 q → A0 q) (hf : ∀ q, free q → A0 q) (hAX : ∀ q, q < H.size → AX q → A0 q)
    (kx : ∀ (E : String) (ce : Cell) (q9 : Addr) (u : SX) (t : State) (H1 : Heap) (locs1 : List Loc), t.heap = H1 → s.vm.Alike t.vm → px u → BX E u t → H.size ≤ H1.size → (∀ q : Nat, q < H.size → ¬ AX q → H1[q]? = H[q]?) → va_S A0 H0 H1 locs1 → H1[q9]? = some ce → ce.vm = .none → s.vm.findClass E = some ce.cls → vx_W p l e R s m args below meth c H1 locs1 (cells + mc) (slots + ms) Q (F0 m pc ls rest) q9)
    (kk : ∀ (r : Int32) (u : S) (t : State) (H1 : Heap) (locs1 : List Loc), t.heap = H1 → s.vm.Alike t.vm → post r u → B u t → H.size ≤ H1.size → (∀ q : Nat, q < H.size → ¬ A1 q → H1[q]? = H[q]?) → va_S A0 H0 H1 locs1 → W p l e R s m args below meth c H1 locs1 (cells + mc) (slots + ms) Q (F0 m (pc + 3) ls (.int r :: rest))) : W p l e R s m args below meth c H locs cells slots Q (F0 m pc ls st0) := by
  intro T hT X
  rcases hr T hT X with ⟨v, st₀, t, T', L, h0, X', hL, e1, e2, ⟨⟨r, u, hv, hp, hb⟩, hF⟩, st⟩ | ⟨q, st₀, t, T', L, E, ce, h0, X', hL, e1, e2, ⟨u, hp, hb, hF⟩, hce, hcv, hcl, st⟩
  · cases hv
    obtain ⟨k1, k2, k3⟩ := vx_keep h0 e1 hS hA hf hL hF
    obtain ⟨t2, a1, b1⟩ := kk r u t T'.heap (locs ++ L) e1.symm (by rw [← e2]; exact X'.warmed.alike) hp hb k1 k2 k3 T' rfl X'
    exact ⟨t2, st t2 a1, b1⟩
  · obtain ⟨k1, k2, k3⟩ := vx_keep h0 e1 hS hAX hf hL hF
    obtain ⟨t2, a1, b1⟩ := kx E ce q u t T'.heap (locs ++ L) e1.symm (by rw [← e2]; exact X'.warmed.alike) hp hb k1 k2 k3 (by rw [e1]; exact hce) hcv hcl T' rfl X'
    exact ⟨t2, st.trans a1, b1⟩
theorem vx_calll {S SX : Type} {post : Int64 → S → Prop} {px : SX → Prop} {B : S → State → Prop} {BX : String → SX → State → Prop} {AX : Nat → Prop} (hr : vx_Run p l e R s m args below meth c H locs cells slots mc ms (F0 m pc ls st0) rest (va_Ql post B A1 a) (vx_X px BX AX) free) (hS : va_S A0 H0 H locs) (hA : ∀ q, q < H.size → A1 q → A0 q) (hf : ∀ q, free q → A0 q) (hAX : ∀ q, q < H.size → AX q → A0 q)
    (kx : ∀ (E : String) (ce : Cell) (q9 : Addr) (u : SX) (t : State) (H1 : Heap) (locs1 : List Loc), t.heap = H1 → s.vm.Alike t.vm → px u → BX E u t → H.size ≤ H1.size → (∀ q : Nat, q < H.size → ¬ AX q → H1[q]? = H[q]?) → va_S A0 H0 H1 locs1 → H1[q9]? = some ce → ce.vm = .none → s.vm.findClass E = some ce.cls → vx_W p l e R s m args below meth c H1 locs1 (cells + mc) (slots + ms) Q (F0 m pc ls rest) q9)
    (kk : ∀ (r : Int64) (u : S) (t : State) (H1 : Heap) (locs1 : List Loc), t.heap = H1 → s.vm.Alike t.vm → post r u → B u t → H.size ≤ H1.size → (∀ q : Nat, q < H.size → ¬ A1 q → H1[q]? = H[q]?) → va_S A0 H0 H1 locs1 → W p l e R s m args below meth c H1 locs1 (cells + mc) (slots + ms) Q (F0 m (pc + 3) ls (.long r :: rest))) : W p l e R s m args below meth c H locs cells slots Q (F0 m pc ls st0) := by
  intro T hT X
  rcases hr T hT X with ⟨v, st₀, t, T', L, h0, X', hL, e1, e2, ⟨⟨r, u, hv, hp, hb⟩, hF⟩, st⟩ | ⟨q, st₀, t, T', L, E, ce, h0, X', hL, e1, e2, ⟨u, hp, hb, hF⟩, hce, hcv, hcl, st⟩
  · cases hv
    obtain ⟨k1, k2, k3⟩ := vx_keep h0 e1 hS hA hf hL hF
    obtain ⟨t2, a1, b1⟩ := kk r u t T'.heap (locs ++ L) e1.symm (by rw [← e2]; exact X'.warmed.alike) hp hb k1 k2 k3 T' rfl X'
    exact ⟨t2, st t2 a1, b1⟩
  · obtain ⟨k1, k2, k3⟩ := vx_keep h0 e1 hS hAX hf hL hF
    obtain ⟨t2, a1, b1⟩ := kx E ce q u t T'.heap (locs ++ L) e1.symm (by rw [← e2]; exact X'.warmed.alike) hp hb k1 k2 k3 (by rw [e1]; exact hce) hcv hcl T' rfl X'
    exact ⟨t2, st.trans a1, b1⟩
theorem vx_callf {S SX : Type} {post : UInt32 → S → Prop} {px : SX → Prop} {B : S → State → Prop} {BX : String → SX → State → Prop} {AX : Nat → Prop} (hr : vx_Run p l e R s m args below meth c H locs cells slots mc ms (F0 m pc ls st0) rest (va_Qf post B A1 a) (vx_X px BX AX) free) (hS : va_S A0 H0 H locs) (hA : ∀ q, q < H.size → A1 q → A0 q) (hf : ∀ q, free q → A0 q) (hAX : ∀ q, q < H.size → AX q → A0 q)
    (kx : ∀ (E : String) (ce : Cell) (q9 : Addr) (u : SX) (t : State) (H1 : Heap) (locs1 : List Loc), t.heap = H1 → s.vm.Alike t.vm → px u → BX E u t → H.size ≤ H1.size → (∀ q : Nat, q < H.size → ¬ AX q → H1[q]? = H[q]?) → va_S A0 H0 H1 locs1 → H1[q9]? = some ce → ce.vm = .none → s.vm.findClass E = some ce.cls → vx_W p l e R s m args below meth c H1 locs1 (cells + mc) (slots + ms) Q (F0 m pc ls rest) q9)
    (kk : ∀ (r : UInt32) (u : S) (t : State) (H1 : Heap) (locs1 : List Loc), t.heap = H1 → s.vm.Alike t.vm → post r u → B u t → H.size ≤ H1.size → (∀ q : Nat, q < H.size → ¬ A1 q → H1[q]? = H[q]?) → va_S A0 H0 H1 locs1 → W p l e R s m args below meth c H1 locs1 (cells + mc) (slots + ms) Q (F0 m (pc + 3) ls (.float r :: rest))) : W p l e R s m args below meth c H locs cells slots Q (F0 m pc ls st0) := by
  intro T hT X
  rcases hr T hT X with ⟨v, st₀, t, T', L, h0, X', hL, e1, e2, ⟨⟨r, u, hv, hp, hb⟩, hF⟩, st⟩ | ⟨q, st₀, t, T', L, E, ce, h0, X', hL, e1, e2, ⟨u, hp, hb, hF⟩, hce, hcv, hcl, st⟩
  · cases hv
    obtain ⟨k1, k2, k3⟩ := vx_keep h0 e1 hS hA hf hL hF
    obtain ⟨t2, a1, b1⟩ := kk r u t T'.heap (locs ++ L) e1.symm (by rw [← e2]; exact X'.warmed.alike) hp hb k1 k2 k3 T' rfl X'
    exact ⟨t2, st t2 a1, b1⟩
  · obtain ⟨k1, k2, k3⟩ := vx_keep h0 e1 hS hAX hf hL hF
    obtain ⟨t2, a1, b1⟩ := kx E ce q u t T'.heap (locs ++ L) e1.symm (by rw [← e2]; exact X'.warmed.alike) hp hb k1 k2 k3 (by rw [e1]; exact hce) hcv hcl T' rfl X'
    exact ⟨t2, st.trans a1, b1⟩
theorem vx_calld {S SX : Type} {post : UInt64 → S → Prop} {px : SX → Prop} {B : S → State → Prop} {BX : String → SX → State → Prop} {AX : Nat → Prop} (hr : vx_Run p l e R s m args below meth c H locs cells slots mc ms (F0 m pc ls st0) rest (va_Qd post B A1 a) (vx_X px BX AX) free) (hS : va_S A0 H0 H locs) (hA : ∀ q, q < H.size → A1 q → A0 q) (hf : ∀ q, free q → A0 q) (hAX : ∀ q, q < H.size → AX q → A0 q)
    (kx : ∀ (E : String) (ce : Cell) (q9 : Addr) (u : SX) (t : State) (H1 : Heap) (locs1 : List Loc), t.heap = H1 → s.vm.Alike t.vm → px u → BX E u t → H.size ≤ H1.size → (∀ q : Nat, q < H.size → ¬ AX q → H1[q]? = H[q]?) → va_S A0 H0 H1 locs1 → H1[q9]? = some ce → ce.vm = .none → s.vm.findClass E = some ce.cls → vx_W p l e R s m args below meth c H1 locs1 (cells + mc) (slots + ms) Q (F0 m pc ls rest) q9)
    (kk : ∀ (r : UInt64) (u : S) (t : State) (H1 : Heap) (locs1 : List Loc), t.heap = H1 → s.vm.Alike t.vm → post r u → B u t → H.size ≤ H1.size → (∀ q : Nat, q < H.size → ¬ A1 q → H1[q]? = H[q]?) → va_S A0 H0 H1 locs1 → W p l e R s m args below meth c H1 locs1 (cells + mc) (slots + ms) Q (F0 m (pc + 3) ls (.double r :: rest))) : W p l e R s m args below meth c H locs cells slots Q (F0 m pc ls st0) := by
  intro T hT X
  rcases hr T hT X with ⟨v, st₀, t, T', L, h0, X', hL, e1, e2, ⟨⟨r, u, hv, hp, hb⟩, hF⟩, st⟩ | ⟨q, st₀, t, T', L, E, ce, h0, X', hL, e1, e2, ⟨u, hp, hb, hF⟩, hce, hcv, hcl, st⟩
  · cases hv
    obtain ⟨k1, k2, k3⟩ := vx_keep h0 e1 hS hA hf hL hF
    obtain ⟨t2, a1, b1⟩ := kk r u t T'.heap (locs ++ L) e1.symm (by rw [← e2]; exact X'.warmed.alike) hp hb k1 k2 k3 T' rfl X'
    exact ⟨t2, st t2 a1, b1⟩
  · obtain ⟨k1, k2, k3⟩ := vx_keep h0 e1 hS hAX hf hL hF
    obtain ⟨t2, a1, b1⟩ := kx E ce q u t T'.heap (locs ++ L) e1.symm (by rw [← e2]; exact X'.warmed.alike) hp hb k1 k2 k3 (by rw [e1]; exact hce) hcv hcl T' rfl X'
    exact ⟨t2, st.trans a1, b1⟩
theorem vx_callv {S SX : Type} {post : S → Prop} {px : SX → Prop} {B : S → State → Prop} {BX : String → SX → State → Prop} {AX : Nat → Prop} (hr : vx_Run p l e R s m args below meth c H locs cells slots mc ms (F0 m pc ls st0) rest (va_Qv post B A1 a) (vx_X px BX AX) free) (hS : va_S A0 H0 H locs) (hA : ∀ q, q < H.size → A1 q → A0 q) (hf : ∀ q, free q → A0 q) (hAX : ∀ q, q < H.size → AX q → A0 q)
    (kx : ∀ (E : String) (ce : Cell) (q9 : Addr) (u : SX) (t : State) (H1 : Heap) (locs1 : List Loc), t.heap = H1 → s.vm.Alike t.vm → px u → BX E u t → H.size ≤ H1.size → (∀ q : Nat, q < H.size → ¬ AX q → H1[q]? = H[q]?) → va_S A0 H0 H1 locs1 → H1[q9]? = some ce → ce.vm = .none → s.vm.findClass E = some ce.cls → vx_W p l e R s m args below meth c H1 locs1 (cells + mc) (slots + ms) Q (F0 m pc ls rest) q9)
    (kk : ∀ (u : S) (t : State) (H1 : Heap) (locs1 : List Loc), t.heap = H1 → s.vm.Alike t.vm → post u → B u t → H.size ≤ H1.size → (∀ q : Nat, q < H.size → ¬ A1 q → H1[q]? = H[q]?) → va_S A0 H0 H1 locs1 → W p l e R s m args below meth c H1 locs1 (cells + mc) (slots + ms) Q (F0 m (pc + 3) ls (rest))) : W p l e R s m args below meth c H locs cells slots Q (F0 m pc ls st0) := by
  intro T hT X
  rcases hr T hT X with ⟨v, st₀, t, T', L, h0, X', hL, e1, e2, ⟨⟨u, hv, hp, hb⟩, hF⟩, st⟩ | ⟨q, st₀, t, T', L, E, ce, h0, X', hL, e1, e2, ⟨u, hp, hb, hF⟩, hce, hcv, hcl, st⟩
  · cases hv
    obtain ⟨k1, k2, k3⟩ := vx_keep h0 e1 hS hA hf hL hF
    obtain ⟨t2, a1, b1⟩ := kk u t T'.heap (locs ++ L) e1.symm (by rw [← e2]; exact X'.warmed.alike) hp hb k1 k2 k3 T' rfl X'
    exact ⟨t2, st t2 a1, b1⟩
  · obtain ⟨k1, k2, k3⟩ := vx_keep h0 e1 hS hAX hf hL hF
    obtain ⟨t2, a1, b1⟩ := kx E ce q u t T'.heap (locs ++ L) e1.symm (by rw [← e2]; exact X'.warmed.alike) hp hb k1 k2 k3 (by rw [e1]; exact hce) hcv hcl T' rfl X'
    exact ⟨t2, st.trans a1, b1⟩
/-- caught by the row x of this method's table; the rows ahead don't take it -/
theorem vx_catch {own name : String} {E : String} {ce : Cell} {q : Addr} (hown : s.vm.findClass own = some m.cls) (pre : List ExceptionTableEntry) (x : ExceptionTableEntry) (suf : List ExceptionTableEntry) (hsplit : c.exceptionTable.toList = pre ++ x :: suf)
    (hpass : ∀ z ∈ pre, covers z pc = false ∨ (z.catchType ≠ 0 ∧ ∃ nm : String, (Cond.classLink own z.catchType nm).before args s = true ∧ va_Nc E nm s)) (hx : covers x pc = true) (h0 : x.catchType ≠ 0)
    (hlink : (Cond.classLink own x.catchType name).before args s = true) (hcast : (Cond.castable E name).before args s = true) (hcell : H[q]? = some ce) (hv : ce.vm = .none) (hcl : s.vm.findClass E = some ce.cls)
    (kk : W p l e R s m args below meth c H locs cells slots Q (F0 m x.handlerPc ls [.ref q])) : vx_W p l e R s m args below meth c H locs cells slots Q (F0 m pc ls rest) q := by
  intro T hT X
  have hpl : e.platform.magicAccessors = ({} : Platform).magicAccessors := by rw [X.admits.platform]
  obtain ⟨c3, c4, hc3, hc4, hasg⟩ := Cond.castable_spec hcast
  cases Option.some.inj (hc3.symm.trans hcl)
  obtain ⟨c5, hc5, hcl5⟩ := Cond.classLink_spec hown hlink e.platform hpl
  cases Option.some.inj (hc4.symm.trans hc5)
  obtain ⟨vm', X', st⟩ := X.thenCaughtThrough q (g := F0 m pc ls rest) rfl (Steps.refl _) (by rw [hT]; exact hcell) (by rw [hv]; rfl) (by obtain ⟨k9, h9, -⟩ := Vm.findClass_spec hcl; exact ⟨k9, h9⟩) pre x suf hsplit
    (fun z hz => by
      rcases hpass z hz with h | ⟨hz0, nm, hl1, hn1⟩
      · exact Or.inl h
      · obtain ⟨c6, hc6, hcl6⟩ := Cond.classLink_spec hown hl1 e.platform hpl
        obtain ⟨a8, b8, h1, h2, h3⟩ := hn1
        cases Option.some.inj (h1.symm.trans hcl)
        cases Option.some.inj (h2.symm.trans hc6)
        exact Or.inr ⟨hz0, _, hcl6, h3⟩) hx (Or.inr ⟨h0, c4, hcl5, hasg⟩)
  obtain ⟨t, a1, b1⟩ := kk (T.setVm vm') hT X'
  exact ⟨t, st.trans a1, b1⟩
end Rows
section Ends
variable {p : Program} {l : Launch} {e : Env} {R : Room} {s : State} {m : MethodId} {args : Array Value} {below : List Frame} {meth : Method} {c : Code} {H : Heap} {locs : List Loc} {cells slots : Nat} {Q : State → Prop}
variable {mc ms : Nat} {free : Addr → Prop} {A0 A1 : Nat → Prop} {H0 : Heap} {a : Array Value} {ls : Array Slot} {st0 rest : List Value}
variable {Qc : Array Value → State → Outcome → State → Prop} {XC : String → State → State → Prop}
/-- what a body that may throw owes at its end -/
def vx_MQ (below : List Frame) (Qc : Array Value → State → Outcome → State → Prop) (XC : String → State → State → Prop) (a : Array Value) (s : State) (mc ms : Nat) (free : Addr → Prop) : State → Prop := fun t =>
  ∃ o, t.status = .running ∧ Ended t below o ∧ vx_Q Qc XC mc ms free a s o t
theorem vx_ret {g : JFrame} {mc ms : Nat} (k : W p l e R s m args below meth c H locs cells slots (MQ below Qc args s mc ms free) g) : W p l e R s m args below meth c H locs cells slots (vx_MQ below Qc XC args s mc ms free) g := by
  intro T hT X
  obtain ⟨t, a1, o, b1, b2, b3, b4⟩ := k T hT X
  exact ⟨t, a1, o, b1, b2, Or.inl ⟨b3, b4⟩⟩
/-- not caught here: it goes on to the caller -/
theorem vx_widen {g : JFrame} {q : Addr} {k n : Nat} (h1 : cells ≤ k) (h2 : slots ≤ n) (kk : vx_W p l e R s m args below meth c H locs k n Q g q) : vx_W p l e R s m args below meth c H locs cells slots Q g q := fun T hT X => kk T hT (stand_widen X h1 h2)
theorem vx_out {pc : Nat} {E : String} {ce : Cell} {q : Addr} {mc ms : Nat} (hout : ∀ x ∈ c.exceptionTable.toList, covers x pc = false) (hlocks : meth.locks = false) (hcell : H[q]? = some ce) (hv : ce.vm = .none) (hcl : s.vm.findClass E = some ce.cls)
    (hx : ∀ t : State, t.heap = H → s.vm.Alike t.vm → XC E s t) (hf : ∀ z ∈ locs, free z.base) (hc : cells ≤ mc) (hs : slots ≤ ms) :
    vx_W p l e R s m args below meth c H locs cells slots (vx_MQ below Qc XC args s mc ms free) (F0 m pc ls rest) q := by
  intro T hT X
  obtain ⟨st1, hrun, hend, hW, hsm⟩ := X.leaveThrown q (g := F0 m pc ls rest) rfl rfl rfl hout hlocks
  have hcell9 : (T.setFrames (.throwing q :: below)).heap[q]? = some ce := by
    show T.heap[q]? = some ce
    rw [hT]; exact hcell
  exact ⟨_, st1, .threw q, hrun, hend, Or.inr ⟨q, rfl, E, ce, locs, hx _ hT hW.alike, hcell9, hv, hcl, hW, hsm.mono hc hs, hf⟩⟩
theorem vx_frame {U : State} {k n : Nat} (h : s.sameButNew ({ U with vm := s.vm } : State) locs k n) : s.heap.size ≤ U.heap.size ∧ ∀ q : Nat, q < s.heap.size → (∀ z ∈ locs, z.base ≠ q) → U.heap[q]? = s.heap[q]? := by
  obtain ⟨-, h2, -, -, -, h6⟩ := h
  refine ⟨h2, fun q hq hz => ?_⟩
  obtain ⟨c9, e1, e2, e3, e4⟩ := h6 q _ (Array.getElem?_eq_getElem hq)
  have hs : c9.slots = (s.heap[q]).slots := Array.ext_getElem? fun i => e4 i fun hm => hz _ hm rfl
  have h9 : c9 = s.heap[q] := by
    rw [hs] at e2
    exact e2
  have e5 : U.heap[q]? = some c9 := e1
  rw [e5, h9, Array.getElem?_eq_getElem hq]
/-- the words of a throw but the four that speak of the heap -/
def vx_no (w : Cond) : Bool := decide (w ≠ .isRef (.static Bundle.tN "UNASSIGNED_STACK" Bundle.steD)) && decide (w ≠ .isRef (.static Bundle.tN "SUPPRESSED_SENTINEL" Bundle.listD)) && decide (w ≠ .laysStatic Bundle.tN "UNASSIGNED_STACK" Bundle.steD) && decide (w ≠ .laysStatic Bundle.tN "SUPPRESSED_SENTINEL" Bundle.listD)
def vx_at0 (own : String) (ic : Nat) (X : String) (names : List String) : List Cond := (Bundle.ownAtoms0 own ic X names).filter vx_no
def vx_atS (own : String) (ic : Nat) (X : String) (names : List String) : List Cond := (Bundle.ownAtoms own ic X names).filter vx_no
/-- a word that the tables alone decide, or a good one -/
def vx_ot (w : Cond) : Bool := w.onTables || goodWord w
theorem vx_ot_at {args a' : Array Value} {s U : State} {w : Cond} (hW : s.WarmedH U.vm) (hvm : s.vm = U.vm) (hg : vx_ot w = true) (h : w.before args s = true) : w.before a' U = true := by
  simp only [vx_ot, Bool.or_eq_true] at hg
  rcases hg with hg | hg
  · exact va_tabs hg hvm h
  · exact word_at hW (good_of_word hg) h
/-- a list's words: the good ones out of the method's own list, the others by premises of their own -/
theorem vx_hat {args : Array Value} {s : State} {L B : List Cond} (h1 : ∀ w ∈ L.filter goodWord, w.before args s = true) (h2 : ∀ w ∈ L.filter (fun w => !goodWord w), w ∈ B) (h3 : ∀ w ∈ B, w.before args s = true) : ∀ w ∈ L, w.before args s = true := by
  intro w hw
  by_cases g : goodWord w = true
  · exact h1 w (List.mem_filter.mpr ⟨hw, g⟩)
  · refine h3 w (h2 w (List.mem_filter.mpr ⟨hw, ?_⟩))
    show (!goodWord w) = true
    cases hgw : goodWord w
    · rfl
    · exact absurd hgw g
theorem vx_c {args : Array Value} {s : State} {w : Cond} {B : List Cond} (h : w.before args s = true) (t : ∀ w ∈ B, w.before args s = true) : ∀ w' ∈ w :: B, w'.before args s = true := fun w' h' => (List.mem_cons.mp h').elim (fun e => by rw [e]; exact h) (t w')
theorem vx_n {args : Array Value} {s : State} : ∀ w ∈ ([] : List Cond), w.before args s = true := fun _ h => nomatch h
theorem vx_own {args : Array Value} {s : State} {L : List Cond} (h1 : ∀ w ∈ L.filter vx_no, w.before args s = true)
    (hU : (Cond.isRef (.static Bundle.tN "UNASSIGNED_STACK" Bundle.steD)).before args s = true) (hN : (Cond.isRef (.static Bundle.tN "SUPPRESSED_SENTINEL" Bundle.listD)).before args s = true)
    (lU : (Cond.laysStatic Bundle.tN "UNASSIGNED_STACK" Bundle.steD).before args s = true) (lN : (Cond.laysStatic Bundle.tN "SUPPRESSED_SENTINEL" Bundle.listD).before args s = true) : ∀ w ∈ L, w.before args s = true := by
  intro w hw
  by_cases e1 : w = .isRef (.static Bundle.tN "UNASSIGNED_STACK" Bundle.steD)
  · rw [e1]; exact hU
  · by_cases e2 : w = .isRef (.static Bundle.tN "SUPPRESSED_SENTINEL" Bundle.listD)
    · rw [e2]; exact hN
    · by_cases e3 : w = .laysStatic Bundle.tN "UNASSIGNED_STACK" Bundle.steD
      · rw [e3]; exact lU
      · by_cases e4 : w = .laysStatic Bundle.tN "SUPPRESSED_SENTINEL" Bundle.listD
        · rw [e4]; exact lN
        · exact h1 w (List.mem_filter.mpr ⟨hw, by unfold vx_no; rw [decide_eq_true e1, decide_eq_true e2, decide_eq_true e3, decide_eq_true e4]; rfl⟩)
/-- where a static field lies, its class's statics cell in H -/
def vx_L (C n d : String) (A : Nat → Prop) (U : State) (H : Heap) : Prop := ∃ (c : ClassId) (k : Class) (i : Nat) (f : Field) (a : Nat) (cell : Cell), U.vm.findClass C = some c ∧ U.fieldFound? C n d = some (c, k, i, f) ∧ f.isStatic = true ∧ k.statics = some a ∧ H[a]? = some cell ∧ cell.vm.isStatics = true ∧ cell.cls = c ∧ f.slot < cell.slots.size ∧ k.staticTypes[f.slot]? = some f.type ∧ ¬ A a
theorem vx_L.moved {C n d : String} {A : Nat → Prop} {u U : State} {H : Heap} (hvm : u.vm.Alike U.vm) (h : vx_L C n d A u H) : vx_L C n d A U H := by
  obtain ⟨c, k, i, f, a, cell, h1, h2, h3, h4, h5, h6, h7, h8, h9, h10⟩ := h
  obtain ⟨k', hi', he⟩ := State.fieldFound?_setVm hvm h2
  exact ⟨c, k', i, f, a, cell, by rw [hvm.findClass]; exact h1, hi', h3, by rw [he]; exact h4, h5, h6, h7, h8, by rw [he]; exact h9, h10⟩
theorem vx_L.kept {C n d : String} {A : Nat → Prop} {U : State} {H H1 : Heap} (h : vx_L C n d A U H) (hq : ∀ a : Nat, a < H.size → ¬ A a → H1[a]? = H[a]?) : vx_L C n d A U H1 := by
  obtain ⟨c, k, i, f, a, cell, h1, h2, h3, h4, h5, h6, h7, h8, h9, h10⟩ := h
  exact ⟨c, k, i, f, a, cell, h1, h2, h3, h4, by rw [hq a (Array.getElem?_eq_some_iff.mp h5).1 h10]; exact h5, h6, h7, h8, h9, h10⟩
theorem vx_L.narrow {C n d : String} {A B : Nat → Prop} {U : State} {H : Heap} (h : vx_L C n d A U H) (hAB : ∀ q, B q → A q) : vx_L C n d B U H := by
  obtain ⟨c, k, i, f, a, cell, h1, h2, h3, h4, h5, h6, h7, h8, h9, h10⟩ := h
  exact ⟨c, k, i, f, a, cell, h1, h2, h3, h4, h5, h6, h7, h8, h9, fun z => h10 (hAB _ z)⟩
theorem vx_L.word {C n d : String} {A : Nat → Prop} {s : State} {args : Array Value} (h : vx_L C n d A s s.heap) : (Cond.laysStatic C n d).before args s = true := by
  obtain ⟨c, k, i, f, a, cell, h1, h2, h3, h4, h5, h6, h7, h8, h9, -⟩ := h
  show (Cond.laysStatic C n d).holds args s none s [] = true
  exact Cond.laysStatic_of h1 h2 h3 h4 h5 h6 h7 h8 h9
/-- .. and what it holds: null or some reference -/
def vx_Zq (C n d : String) (A : Nat → Prop) (U : State) (H : Heap) : Prop := va_Zq C n d A U H ∧ vx_L C n d A U H
theorem vx_Zq.moved {C n d : String} {A : Nat → Prop} {u U : State} {H : Heap} (hvm : u.vm.Alike U.vm) (h : vx_Zq C n d A u H) : vx_Zq C n d A U H := ⟨va_Zq.moved hvm h.1, vx_L.moved hvm h.2⟩
theorem vx_Zq.kept {C n d : String} {A : Nat → Prop} {U : State} {H H1 : Heap} (h : vx_Zq C n d A U H) (hq : ∀ a : Nat, a < H.size → ¬ A a → H1[a]? = H[a]?) : vx_Zq C n d A U H1 := ⟨va_Zq.kept h.1 hq, vx_L.kept h.2 hq⟩
theorem vx_Zq.narrow {C n d : String} {A B : Nat → Prop} {U : State} {H : Heap} (h : vx_Zq C n d A U H) (hAB : ∀ q, B q → A q) : vx_Zq C n d B U H := ⟨va_Zq.narrow h.1 hAB, vx_L.narrow h.2 hAB⟩
theorem vx_Zqof {args : Array Value} {s : State} {C n d : String} {A : Nat → Prop} (hl : (Cond.laysStatic C n d).before args s = true) (hini : (Cond.initialized C).before args s = true) (h : (Cond.isRef (.static C n d)).before args s = true) (hA : ∀ a : Nat, a < s.heap.size → ¬ A a) : vx_Zq C n d A s s.heap := by
  refine ⟨va_Zqof hl hini h hA, ?_⟩
  obtain ⟨c, k, i, f, a, cell, h1, h2, h3, h4, h5, h6, h7, h8, h9⟩ := Cond.laysStatic_spec hl
  exact ⟨c, k, i, f, a, cell, h1, h2, h3, h4, h5, h6, h7, h8, h9, hA a (Array.getElem?_eq_some_iff.mp h5).1⟩
theorem vx_isRef {C n d : String} {v : Value} {A : Nat → Prop} {s : State} {args : Array Value} (h : va_Z C n d v A s s.heap) (hv : v.isRef = true) : (Cond.isRef (.static C n d)).before args s = true := by
  obtain ⟨cf, kf, fi, f, a, cell, h1, h2, h3, h4, h5, h6, h7, -⟩ := h
  have he : (Term.static C n d).eval args s none [] s = some v := by
    simp [Term.eval, State.fieldNamed?, h1, h2, h4, h5, h6, h7]
  simp only [Cond.before, Cond.holds, Cond.value, he]
  cases v <;> simp_all [Value.isRef]
theorem vx_isRefq {C n d : String} {A : Nat → Prop} {s : State} {args : Array Value} (h : va_Zq C n d A s s.heap) : (Cond.isRef (.static C n d)).before args s = true := by
  rcases h with h | ⟨t, h⟩
  · exact vx_isRef h rfl
  · exact vx_isRef h rfl
/-- the same frame, seen from here: as if the method were called anew in this heap -/
theorem vx_rebase {T : State} (X : Stand p l e R s m args below meth c T locs cells slots) {R' : Room} (hf : R'.frames ≤ R.frames) (hl : R'.locals ≤ R.locals) (hc : cells + R'.cells ≤ R.cells) (hs : slots + R'.slots ≤ R.slots) :
    Stand p l e R' ((T.setVm s.vm).setFrames (.invoking m args :: below)) m args below meth c T [] 0 0 := by
  have htop : (T.setVm s.vm).topJava?.isSome := X.here.top
  have hF : ((T.setVm s.vm).setFrames (.invoking m args :: below)).frames = .invoking m args :: below := State.frames_setFrames _ (State.cur_lt_of_top htop)
  obtain ⟨g₀, hg0⟩ := Option.isSome_iff_exists.mp htop
  obtain ⟨r, hr⟩ := State.topJava?_eq_some.mp hg0
  have hl9 : e.platform.stackLimits (T.setVm s.vm).me = e.platform.stackLimits s.me := X.limits
  have hb9 : (T.setVm s.vm).me.stackBytes = s.me.stackBytes := X.bytes
  refine ⟨X.admits, X.cas, X.clock, hF, ?_, X.hears, X.method, X.code, X.here, X.tail, X.warmed, ?_, ?_, ?_⟩
  · have h := X.room
    have hU : ((T.setVm s.vm).setFrames (.invoking m args :: below)).localsInUse = s.localsInUse := by
      rw [State.localsInUse_invoking hF (meth := meth) (c := c) X.method X.code, State.localsInUse_invoking X.frames X.method X.code]
    simp only [State.hasRoom, Bool.and_eq_true, decide_eq_true_eq] at h ⊢
    obtain ⟨⟨⟨⟨h1, h2, h3, h4, h5, h6⟩, h7⟩, h8⟩, h9⟩ := h
    rw [X.frames, List.length_cons] at h2 h3
    have q1 := X.heapSize
    have q2 := X.used
    simp only [hF, hU, List.length_cons, State.stackLimits_setFrames, State.stackBytes_setFrames, hl9, hb9]
    refine ⟨⟨⟨⟨by omega, by omega, by omega, by omega, by omega, h6⟩, ?_⟩, ?_⟩, X.book⟩
    · show T.heap.size + R'.cells ≤ e.platform.maxCells
      omega
    · show T.slotsUsed + R'.slots ≤ e.platform.maxSlots
      omega
  · rw [State.stackLimits_setFrames]; rfl
  · rw [State.stackBytes_setFrames]; rfl
  · refine ⟨?_, Nat.le_refl _, Nat.le_refl _, ?_, ?_, fun a c9 h9 => ⟨c9, h9, rfl, rfl, fun _ _ => rfl⟩⟩
    · obtain ⟨t, ht, -⟩ := State.frames_cons hr
      show T.setVm s.vm = { ((T.setVm s.vm).setFrames (.invoking m args :: below)).setFrames (T.setVm s.vm).frames with heap := T.heap, slotsUsed := T.slotsUsed }
      rw [State.setFrames_setFrames, State.setFrames_self ht]
      rfl
    · show T.slotsUsed = T.slotsUsed + ((T.heap.toList.drop T.heap.size).map (·.slots.size)).sum
      rw [List.drop_eq_nil_of_le (Nat.le_of_eq Array.length_toList)]
      rfl
    · show ((T.heap.toList.drop T.heap.size).map (·.slots.size)).sum ≤ 0
      rw [List.drop_eq_nil_of_le (Nat.le_of_eq Array.length_toList)]
      exact Nat.le_refl _
/-- 'throw new E()': new; dup; invokespecial; athrow -/
theorem vx_throw0 {cc : ByteArray} {pc : Nat} (hexec : p.tables.exec = Jvm.exec) (hb : c.code = cc) (hl : l.stackTraces = false) {own cls : String} {names : List String} {ik ic mc ms : Nat} {A : Nat → Prop}
    (hown : s.vm.findClass own = some m.cls) (hcls : Bundle.fit cls = true) (hnames : ∀ n ∈ names, Bundle.fit n = true)
    (hk : (Cond.classLink own ik cls).before args s = true) (hini : (Cond.initialized cls).before args s = true) (hat : ∀ w ∈ vx_at0 own ic cls names, w.before args s = true)
    (hgood : ∀ w ∈ Cond.classLink own ik cls :: Cond.initialized cls :: vx_at0 own ic cls names, vx_ot w = true)
    (hU : vx_Zq Bundle.tN "UNASSIGNED_STACK" Bundle.steD A s s.heap) (hN : vx_Zq Bundle.tN "SUPPRESSED_SENTINEL" Bundle.listD A s s.heap) (hS : va_S A s.heap H locs) (hsize : ls.size = c.maxLocals)
    (d0 : decode cc pc = .ok (.new ik, 3)) (d3 : decode cc (pc + 3) = .ok (.dup, 1)) (d4 : decode cc (pc + 4) = .ok (.invokespecial ic, 3)) (d7 : decode cc (pc + 7) = .ok (.athrow, 1))
    (hout : ∀ x ∈ c.exceptionTable.toList, covers x (pc + 7) = false)
    (hRframes : names.length + 3 < R.frames) (hRlocals : (rest.map fun v => v.category).sum + (13 * (names.length + 1) + 42) ≤ R.locals) (hRcells : cells + 1 ≤ R.cells) (hRslots : slots + 6 ≤ R.slots) (hlocks : meth.locks = false)
    (hx : ∀ t : State, s.vm.Alike t.vm → H.size ≤ t.heap.size → (∀ q : Nat, q < H.size → t.heap[q]? = H[q]?) → XC cls s t)
    (hf : ∀ z ∈ locs, free z.base) (hc : cells + 1 ≤ mc) (hs : slots + 6 ≤ ms) :
    W p l e R s m args below meth c H locs cells slots (vx_MQ below Qc XC args s mc ms free) (F0 m pc ls rest) := by
  intro T hT X
  have htr : e.platform.stackTraces = false := (show e.platform.stackTraces = l.stackTraces by rw [X.admits.platform]).trans hl
  have Y := vx_rebase X (R' := { frames := R.frames, locals := R.locals, cells := 1, slots := 6 }) (Nat.le_refl _) (Nat.le_refl _) hRcells hRslots
  obtain ⟨s', hA⟩ : ∃ z, z = (T.setVm s.vm).setFrames (.invoking m args :: below) := ⟨_, rfl⟩
  rw [← hA] at Y
  have hvm : s'.vm = s.vm := by rw [hA]; rfl
  have hhp : s'.heap = H := by rw [hA]; exact hT
  have hW0 : s.WarmedH s'.vm := by rw [hvm]; exact State.WarmedH.refl s
  have hat' : ∀ w ∈ vx_at0 own ic cls names, w.before args s' = true := fun w hw => vx_ot_at hW0 hvm.symm (hgood w (List.mem_cons_of_mem _ (List.mem_cons_of_mem _ hw))) (hat w hw)
  have hk' : (Cond.classLink own ik cls).before args s' = true := vx_ot_at hW0 hvm.symm (hgood _ List.mem_cons_self) hk
  have hini' : (Cond.initialized cls).before args s' = true := vx_ot_at hW0 hvm.symm (hgood _ (List.mem_cons_of_mem _ List.mem_cons_self)) hini
  have hU' : vx_Zq Bundle.tN "UNASSIGNED_STACK" Bundle.steD A s' s'.heap := by rw [hhp]; exact vx_Zq.moved hW0.alike (hU.kept hS.2.1)
  have hN' : vx_Zq Bundle.tN "SUPPRESSED_SENTINEL" Bundle.listD A s' s'.heap := by rw [hhp]; exact vx_Zq.moved hW0.alike (hN.kept hS.2.1)
  have h : ∀ w ∈ Bundle.ownAtoms0 own ic cls names, w.before args s' = true := vx_own hat' (vx_isRefq hU'.1) (vx_isRefq hN'.1) hU'.2.word hN'.2.word
  have hown' : s'.vm.findClass own = some m.cls := by rw [hvm]; exact hown
  have hins : (Cond.instantiable cls 6).before args s' = true := h _ (by simp [Bundle.ownAtoms0])
  obtain ⟨vm₁, cX, kX, hfX, hkX, -, -, X₁, st1⟩ := Y.newCold hexec (own := own) (C := cls) (index := ik) (n := 6) hown' hk' hins hini'
    (g := F0 m pc ls rest) rfl (by rw [hb]; exact d0) (Nat.le_refl _) (Nat.le_refl _)
  generalize hT1 : (T.setVm vm₁).pushCell { cls := cX, slots := kX.instanceTypes.map defaultValue, vm := .none } = T1 at X₁ st1
  have hcat : (Value.ref T.heap.size).category = 1 := rfl
  have hcellA : T1.heap[T.heap.size]? = some (freshCell cX kX) := by rw [← hT1]; exact State.heap_pushCell_size _ _
  have d3' : decode c.code (pc + 3) = .ok (.dup, 1) := by rw [hb]; exact d3
  obtain ⟨U, hsteps, hrun, hend, hW, hsame, ce, hce, hO⟩ := X₁.ctorThrow0 hexec htr (own := own) (cls := cls) (names := names) (ic := ic) hown' hcls hnames h (fun x hx => nomatch hx) hfX hkX hcellA (by rw [hhp, hT]; exact Nat.le_refl _)
    (g := { method := m, pc := pc + 4, locals := ls, stack := .ref T.heap.size :: .ref T.heap.size :: rest, locked := none }) rfl hsize rfl rfl (rest := rest) rfl
    (by rw [hb]; exact d4) (by rw [hb]; exact d7) hout hRframes (by simp only [List.map_cons, List.sum_cons, hcat]; omega) hlocks
  obtain ⟨f1, f2⟩ := vx_frame hsame
  rw [hhp] at f1 f2
  have hWs : s.WarmedH U.vm := State.WarmedH.trans hW0 hW
  have hcl : s.vm.findClass cls = some ce.cls := by
    have h9 := hO.cls
    rw [hvm] at h9
    exact h9
  have hall : s.sameButNew ({ U with vm := s.vm } : State) locs mc ms := by
    subst hA
    obtain ⟨e1, e2⟩ := hsame
    rw [State.setFrames_setFrames] at e1
    have h2 : (T.setVm s.vm).sameButNew ({ U with vm := s.vm } : State) [] (0 + 1) (0 + 6) := ⟨e1, e2⟩
    have h3 := X.same.trans h2
    rw [List.append_nil] at h3
    exact h3.mono hc hs
  refine ⟨U, ?_, .threw T.heap.size, hrun, hend, Or.inr ⟨T.heap.size, rfl, cls, ce, locs, hx U hWs.alike f1 (fun q hq => f2 q hq (fun z hz => nomatch hz)), hce, hO.vm, hcl, hWs, hall, hf⟩⟩
  refine st1 _ ?_
  show Steps p.tables e below (T1.setTop { method := m, pc := pc + 3, locals := ls, stack := .ref T.heap.size :: rest, locked := none }) _
  jvm_step X₁.here [X₁.here.top, hexec, d3', Value.category]
  exact hsteps
/-- 'throw new E("text")': new; dup; ldc; invokespecial; athrow -/
theorem vx_throwS {cc : ByteArray} {pc : Nat} (hexec : p.tables.exec = Jvm.exec) (hb : c.code = cc) (hl : l.stackTraces = false) {own cls text : String} {names : List String} {ik is ic mc ms sa : Nat} {A : Nat → Prop}
    (hown : s.vm.findClass own = some m.cls) (hcls : Bundle.fit cls = true) (hnames : ∀ n ∈ names, Bundle.fit n = true)
    (hk : (Cond.classLink own ik cls).before args s = true) (hini : (Cond.initialized cls).before args s = true) (hstr : vk_R own is text sa s) (hat : ∀ w ∈ vx_atS own ic cls names, w.before args s = true)
    (hgood : ∀ w ∈ Cond.classLink own ik cls :: Cond.initialized cls :: vx_atS own ic cls names, vx_ot w = true)
    (hU : vx_Zq Bundle.tN "UNASSIGNED_STACK" Bundle.steD A s s.heap) (hN : vx_Zq Bundle.tN "SUPPRESSED_SENTINEL" Bundle.listD A s s.heap) (hS : va_S A s.heap H locs) (hsize : ls.size = c.maxLocals)
    (d0 : decode cc pc = .ok (.new ik, 3)) (d3 : decode cc (pc + 3) = .ok (.dup, 1)) (d4 : decode cc (pc + 4) = .ok (.ldc is, 2)) (d6 : decode cc (pc + 6) = .ok (.invokespecial ic, 3)) (d9 : decode cc (pc + 9) = .ok (.athrow, 1))
    (hout : ∀ x ∈ c.exceptionTable.toList, covers x (pc + 9) = false)
    (hRframes : names.length + 3 < R.frames) (hRlocals : (rest.map fun v => v.category).sum + (13 * (names.length + 1) + 43) ≤ R.locals) (hRcells : cells + 1 ≤ R.cells) (hRslots : slots + 6 ≤ R.slots) (hlocks : meth.locks = false)
    (hx : ∀ t : State, s.vm.Alike t.vm → H.size ≤ t.heap.size → (∀ q : Nat, q < H.size → t.heap[q]? = H[q]?) → XC cls s t)
    (hf : ∀ z ∈ locs, free z.base) (hc : cells + 1 ≤ mc) (hs : slots + 6 ≤ ms) :
    W p l e R s m args below meth c H locs cells slots (vx_MQ below Qc XC args s mc ms free) (F0 m pc ls rest) := by
  intro T hT X
  have htr : e.platform.stackTraces = false := (show e.platform.stackTraces = l.stackTraces by rw [X.admits.platform]).trans hl
  have Y := vx_rebase X (R' := { frames := R.frames, locals := R.locals, cells := 1, slots := 6 }) (Nat.le_refl _) (Nat.le_refl _) hRcells hRslots
  obtain ⟨s', hA⟩ : ∃ z, z = (T.setVm s.vm).setFrames (.invoking m args :: below) := ⟨_, rfl⟩
  rw [← hA] at Y
  have hvm : s'.vm = s.vm := by rw [hA]; rfl
  have hhp : s'.heap = H := by rw [hA]; exact hT
  have hW0 : s.WarmedH s'.vm := by rw [hvm]; exact State.WarmedH.refl s
  have hat' : ∀ w ∈ vx_atS own ic cls names, w.before args s' = true := fun w hw => vx_ot_at hW0 hvm.symm (hgood w (List.mem_cons_of_mem _ (List.mem_cons_of_mem _ hw))) (hat w hw)
  have hk' : (Cond.classLink own ik cls).before args s' = true := vx_ot_at hW0 hvm.symm (hgood _ List.mem_cons_self) hk
  have hini' : (Cond.initialized cls).before args s' = true := vx_ot_at hW0 hvm.symm (hgood _ (List.mem_cons_of_mem _ List.mem_cons_self)) hini
  have hU' : vx_Zq Bundle.tN "UNASSIGNED_STACK" Bundle.steD A s' s'.heap := by rw [hhp]; exact vx_Zq.moved hW0.alike (hU.kept hS.2.1)
  have hN' : vx_Zq Bundle.tN "SUPPRESSED_SENTINEL" Bundle.listD A s' s'.heap := by rw [hhp]; exact vx_Zq.moved hW0.alike (hN.kept hS.2.1)
  have h : ∀ w ∈ Bundle.ownAtoms own ic cls names, w.before args s' = true := vx_own hat' (vx_isRefq hU'.1) (vx_isRefq hN'.1) hU'.2.word hN'.2.word
  have hown' : s'.vm.findClass own = some m.cls := by rw [hvm]; exact hown
  have hins : (Cond.instantiable cls 6).before args s' = true := h _ (by simp [Bundle.ownAtoms])
  obtain ⟨vm₁, cX, kX, hfX, hkX, -, -, X₁, st1⟩ := Y.newCold hexec (own := own) (C := cls) (index := ik) (n := 6) hown' hk' hins hini'
    (g := F0 m pc ls rest) rfl (by rw [hb]; exact d0) (Nat.le_refl _) (Nat.le_refl _)
  generalize hT1 : (T.setVm vm₁).pushCell { cls := cX, slots := kX.instanceTypes.map defaultValue, vm := .none } = T1 at X₁ st1
  have hcat : (Value.ref T.heap.size).category = 1 := rfl
  have hcellA : T1.heap[T.heap.size]? = some (freshCell cX kX) := by rw [← hT1]; exact State.heap_pushCell_size _ _
  have d3' : decode c.code (pc + 3) = .ok (.dup, 1) := by rw [hb]; exact d3
  have d4' : decode c.code (pc + 4) = .ok (.ldc is, 2) := by rw [hb]; exact d4
  have hstr' : vk_R own is text sa s' := vk_R.warm hW0 hstr
  obtain ⟨U, hsteps, hrun, hend, hW, hsame, ce, hce, hO⟩ := X₁.ctorThrowS hexec htr (own := own) (cls := cls) (names := names) (ic := ic) hown' hcls hnames h (fun x hx => nomatch hx) hfX hkX hcellA (by rw [hhp, hT]; exact Nat.le_refl _) (msg := .ref sa) rfl
    (g := { method := m, pc := pc + 6, locals := ls, stack := .ref sa :: .ref T.heap.size :: .ref T.heap.size :: rest, locked := none }) rfl hsize rfl rfl (rest := rest) rfl
    (by rw [hb]; exact d6) (by rw [hb]; exact d9) hout hRframes (by simp only [List.map_cons, List.sum_cons, hcat]; omega) hlocks
  obtain ⟨f1, f2⟩ := vx_frame hsame
  rw [hhp] at f1 f2
  have hWs : s.WarmedH U.vm := State.WarmedH.trans hW0 hW
  have hcl : s.vm.findClass cls = some ce.cls := by
    have h9 := hO.cls
    rw [hvm] at h9
    exact h9
  have hall : s.sameButNew ({ U with vm := s.vm } : State) locs mc ms := by
    subst hA
    obtain ⟨e1, e2⟩ := hsame
    rw [State.setFrames_setFrames] at e1
    have h2 : (T.setVm s.vm).sameButNew ({ U with vm := s.vm } : State) [] (0 + 1) (0 + 6) := ⟨e1, e2⟩
    have h3 := X.same.trans h2
    rw [List.append_nil] at h3
    exact h3.mono hc hs
  refine ⟨U, ?_, .threw T.heap.size, hrun, hend, Or.inr ⟨T.heap.size, rfl, cls, ce, locs, hx U hWs.alike f1 (fun q hq => f2 q hq (fun z hz => nomatch hz)), hce, hO.vm, hcl, hWs, hall, hf⟩⟩
  refine st1 _ ?_
  show Steps p.tables e below (T1.setTop { method := m, pc := pc + 3, locals := ls, stack := .ref T.heap.size :: rest, locked := none }) _
  jvm_step X₁.here [X₁.here.top, hexec, d3', Value.category]
  exact X₁.ldcString hexec (own := own) (text := text) (index := is) (a := sa) hown' hstr'.1 hstr'.2
    (g := { method := m, pc := pc + 4, locals := ls, stack := .ref T.heap.size :: .ref T.heap.size :: rest, locked := none }) rfl d4' _ hsteps
/-- 'throw new E("text")', the text by a wide index -/
theorem vx_throwSW {cc : ByteArray} {pc : Nat} (hexec : p.tables.exec = Jvm.exec) (hb : c.code = cc) (hl : l.stackTraces = false) {own cls text : String} {names : List String} {ik is ic mc ms sa : Nat} {A : Nat → Prop}
    (hown : s.vm.findClass own = some m.cls) (hcls : Bundle.fit cls = true) (hnames : ∀ n ∈ names, Bundle.fit n = true)
    (hk : (Cond.classLink own ik cls).before args s = true) (hini : (Cond.initialized cls).before args s = true) (hstr : vk_R own is text sa s) (hat : ∀ w ∈ vx_atS own ic cls names, w.before args s = true)
    (hgood : ∀ w ∈ Cond.classLink own ik cls :: Cond.initialized cls :: vx_atS own ic cls names, vx_ot w = true)
    (hU : vx_Zq Bundle.tN "UNASSIGNED_STACK" Bundle.steD A s s.heap) (hN : vx_Zq Bundle.tN "SUPPRESSED_SENTINEL" Bundle.listD A s s.heap) (hS : va_S A s.heap H locs) (hsize : ls.size = c.maxLocals)
    (d0 : decode cc pc = .ok (.new ik, 3)) (d3 : decode cc (pc + 3) = .ok (.dup, 1)) (d4 : decode cc (pc + 4) = .ok (.ldc_w is, 3)) (d7 : decode cc (pc + 7) = .ok (.invokespecial ic, 3)) (d10 : decode cc (pc + 10) = .ok (.athrow, 1))
    (hout : ∀ x ∈ c.exceptionTable.toList, covers x (pc + 10) = false)
    (hRframes : names.length + 3 < R.frames) (hRlocals : (rest.map fun v => v.category).sum + (13 * (names.length + 1) + 43) ≤ R.locals) (hRcells : cells + 1 ≤ R.cells) (hRslots : slots + 6 ≤ R.slots) (hlocks : meth.locks = false)
    (hx : ∀ t : State, s.vm.Alike t.vm → H.size ≤ t.heap.size → (∀ q : Nat, q < H.size → t.heap[q]? = H[q]?) → XC cls s t)
    (hf : ∀ z ∈ locs, free z.base) (hc : cells + 1 ≤ mc) (hs : slots + 6 ≤ ms) :
    W p l e R s m args below meth c H locs cells slots (vx_MQ below Qc XC args s mc ms free) (F0 m pc ls rest) := by
  intro T hT X
  have htr : e.platform.stackTraces = false := (show e.platform.stackTraces = l.stackTraces by rw [X.admits.platform]).trans hl
  have Y := vx_rebase X (R' := { frames := R.frames, locals := R.locals, cells := 1, slots := 6 }) (Nat.le_refl _) (Nat.le_refl _) hRcells hRslots
  obtain ⟨s', hA⟩ : ∃ z, z = (T.setVm s.vm).setFrames (.invoking m args :: below) := ⟨_, rfl⟩
  rw [← hA] at Y
  have hvm : s'.vm = s.vm := by rw [hA]; rfl
  have hhp : s'.heap = H := by rw [hA]; exact hT
  have hW0 : s.WarmedH s'.vm := by rw [hvm]; exact State.WarmedH.refl s
  have hat' : ∀ w ∈ vx_atS own ic cls names, w.before args s' = true := fun w hw => vx_ot_at hW0 hvm.symm (hgood w (List.mem_cons_of_mem _ (List.mem_cons_of_mem _ hw))) (hat w hw)
  have hk' : (Cond.classLink own ik cls).before args s' = true := vx_ot_at hW0 hvm.symm (hgood _ List.mem_cons_self) hk
  have hini' : (Cond.initialized cls).before args s' = true := vx_ot_at hW0 hvm.symm (hgood _ (List.mem_cons_of_mem _ List.mem_cons_self)) hini
  have hU' : vx_Zq Bundle.tN "UNASSIGNED_STACK" Bundle.steD A s' s'.heap := by rw [hhp]; exact vx_Zq.moved hW0.alike (hU.kept hS.2.1)
  have hN' : vx_Zq Bundle.tN "SUPPRESSED_SENTINEL" Bundle.listD A s' s'.heap := by rw [hhp]; exact vx_Zq.moved hW0.alike (hN.kept hS.2.1)
  have h : ∀ w ∈ Bundle.ownAtoms own ic cls names, w.before args s' = true := vx_own hat' (vx_isRefq hU'.1) (vx_isRefq hN'.1) hU'.2.word hN'.2.word
  have hown' : s'.vm.findClass own = some m.cls := by rw [hvm]; exact hown
  have hins : (Cond.instantiable cls 6).before args s' = true := h _ (by simp [Bundle.ownAtoms])
  obtain ⟨vm₁, cX, kX, hfX, hkX, -, -, X₁, st1⟩ := Y.newCold hexec (own := own) (C := cls) (index := ik) (n := 6) hown' hk' hins hini'
    (g := F0 m pc ls rest) rfl (by rw [hb]; exact d0) (Nat.le_refl _) (Nat.le_refl _)
  generalize hT1 : (T.setVm vm₁).pushCell { cls := cX, slots := kX.instanceTypes.map defaultValue, vm := .none } = T1 at X₁ st1
  have hcat : (Value.ref T.heap.size).category = 1 := rfl
  have hcellA : T1.heap[T.heap.size]? = some (freshCell cX kX) := by rw [← hT1]; exact State.heap_pushCell_size _ _
  have d3' : decode c.code (pc + 3) = .ok (.dup, 1) := by rw [hb]; exact d3
  have d4' : decode c.code (pc + 4) = .ok (.ldc_w is, 3) := by rw [hb]; exact d4
  have hstr' : vk_R own is text sa s' := vk_R.warm hW0 hstr
  obtain ⟨U, hsteps, hrun, hend, hW, hsame, ce, hce, hO⟩ := X₁.ctorThrowS hexec htr (own := own) (cls := cls) (names := names) (ic := ic) hown' hcls hnames h (fun x hx => nomatch hx) hfX hkX hcellA (by rw [hhp, hT]; exact Nat.le_refl _) (msg := .ref sa) rfl
    (g := { method := m, pc := pc + 7, locals := ls, stack := .ref sa :: .ref T.heap.size :: .ref T.heap.size :: rest, locked := none }) rfl hsize rfl rfl (rest := rest) rfl
    (by rw [hb]; exact d7) (by rw [hb]; exact d10) hout hRframes (by simp only [List.map_cons, List.sum_cons, hcat]; omega) hlocks
  obtain ⟨f1, f2⟩ := vx_frame hsame
  rw [hhp] at f1 f2
  have hWs : s.WarmedH U.vm := State.WarmedH.trans hW0 hW
  have hcl : s.vm.findClass cls = some ce.cls := by
    have h9 := hO.cls
    rw [hvm] at h9
    exact h9
  have hall : s.sameButNew ({ U with vm := s.vm } : State) locs mc ms := by
    subst hA
    obtain ⟨e1, e2⟩ := hsame
    rw [State.setFrames_setFrames] at e1
    have h2 : (T.setVm s.vm).sameButNew ({ U with vm := s.vm } : State) [] (0 + 1) (0 + 6) := ⟨e1, e2⟩
    have h3 := X.same.trans h2
    rw [List.append_nil] at h3
    exact h3.mono hc hs
  refine ⟨U, ?_, .threw T.heap.size, hrun, hend, Or.inr ⟨T.heap.size, rfl, cls, ce, locs, hx U hWs.alike f1 (fun q hq => f2 q hq (fun z hz => nomatch hz)), hce, hO.vm, hcl, hWs, hall, hf⟩⟩
  refine st1 _ ?_
  show Steps p.tables e below (T1.setTop { method := m, pc := pc + 3, locals := ls, stack := .ref T.heap.size :: rest, locked := none }) _
  jvm_step X₁.here [X₁.here.top, hexec, d3', Value.category]
  exact X₁.ldcStringW hexec (own := own) (text := text) (index := is) (a := sa) hown' hstr'.1 hstr'.2
    (g := { method := m, pc := pc + 4, locals := ls, stack := .ref T.heap.size :: .ref T.heap.size :: rest, locked := none }) rfl d4' _ hsteps
end Ends
section Bodies
variable {l : Launch}
theorem vx_ofW {y : MethodName} {ws ws' : List Cond} {rm : Room} {Pc : Array Value → State → Prop} {Qc : Array Value → State → Outcome → State → Prop} {XC : String → State → State → Prop} {mc ms : Nat} {free : Addr → Prop} {cc : ByteArray} {maxL : Nat} {ret : Option FieldType}
    (hy : plainName y.cls = true) (hw : ws = Cond.code y cc maxL ret :: ws')
    (body : ∀ p e s m args below meth c s₁, BodyLoose p l y (headSpec ws rm) cc maxL ret e s m args below meth c s₁ → c.maxLocals = maxL → (∀ x ∈ c.exceptionTable.toList, False) → Pc args s →
      W p l e (headSpec ws rm).room s m args below meth c s.heap [] 0 0 (vx_MQ below Qc XC args s mc ms free) (entryFrame m args maxL)) : vx_Met l y ws rm Pc Qc XC mc ms free := by
  refine MetFree.of_bodyS (code := cc) (maxLocals := maxL) (ret := ret) hy ?_ ?_
  · intro args s m h hn
    obtain ⟨meth, c, h1, h2, h3, h4, h5, h6, -, -⟩ := Cond.code_spec hn (atoms_spec (ws := ws) h _ (by rw [hw]; exact List.mem_cons_self))
    exact ⟨meth, c, h1, h2, h3, h4, h5, h6⟩
  · intro p e s m args below meth c s₁ B hml hP _
    have hh0 : s₁.heap = s.heap := by rw [B.state]; rfl
    have ht : ∀ x ∈ c.exceptionTable.toList, False := by
      obtain ⟨meth9, c9, h1, h2, -, -, -, -, h7, -⟩ := Cond.code_spec B.named (atoms_spec (ws := ws) B.pre _ (by rw [hw]; exact List.mem_cons_self))
      cases Option.some.inj (h1.symm.trans B.method)
      cases Option.some.inj (h2.symm.trans (Stand.of_body B).code)
      intro x hx
      rw [Array.isEmpty_iff.mp h7] at hx
      cases hx
    obtain ⟨t, a1, o, b1, b2, b3⟩ := body p e s m args below meth c s₁ B hml ht hP s₁ hh0 (Stand.of_body B)
    exact ⟨t, o, a1, b1, b2, b3⟩
/-- the table of a body with handlers -/
theorem vx_table {p : Program} {x y : MethodName} {S : Spec} {cc bytes : ByteArray} {maxL maxL' : Nat} {ret ret' : Option FieldType} {e : Env} {s s₁ : State} {m : MethodId} {args : Array Value} {below : List Frame} {meth : Method} {c : Code} {hh : List (Nat × Nat × Nat × Nat)}
    (B : BodyLoose p l y S cc maxL ret e s m args below meth c s₁) (h : (Cond.codeWith y bytes maxL' ret' hh).before args s = true) : c.exceptionTable.toList = tableOf hh := by
  obtain ⟨m9, meth9, c9, hn9, h1, h2, -, -, h6, -⟩ := Cond.codeWith_spec h
  cases Option.some.inj (hn9.symm.trans B.named)
  cases Option.some.inj (h1.symm.trans B.method)
  cases Option.some.inj (h2.symm.trans (Stand.of_body B).code)
  rw [← h6, table_eq]
end Bodies
end VXA
/-! ===== END ===== -/
/-! ===== BEGIN a static call of a method with an exception table ===== -/
section VXS
variable {p : Program} {l : Launch} {e : Env} {R : Room} {s : State} {m : MethodId} {args : Array Value} {below : List Frame} {meth : Method} {c : Code} {T : State} {H : Heap} {locs : List Loc} {cells slots : Nat}
abbrev vx_CSW (R : Room) (s : State) (args : Array Value) (own : String) (index : Nat) (y : MethodName) (bytes : ByteArray) (maxL : Nat) (ret : Option FieldType) (hh : List (Nat × Nat × Nat × Nat)) (ws : List Cond) (rm : Room) (mc ms n : Nat) : Prop :=
  (rm.cells = mc ∧ rm.slots = ms ∧ rm.frames + 1 ≤ R.frames ∧ 8 + (maxL + 11) + rm.locals ≤ R.locals ∧ (∀ w ∈ ws, ∀ (a' : Array Value) (U : State), s.WarmedH U.vm → w.before a' U = true) ∧ Cond.codeWith y bytes maxL ret hh ∈ ws) ∧
  (Cond.codeWith y bytes maxL ret hh).before args s = true ∧ (Cond.initialized y.cls).before args s = true ∧ (y.cls ≠ "java/lang/invoke/MethodHandle" ∧ y.cls ≠ "java/lang/invoke/VarHandle") ∧
  (∀ sig, parseMethodDescriptor y.desc = some sig → n = sig.parameters.length) ∧ (Cond.methodLink own index y).before args s = true ∧ (Cond.static y).before args s = true
theorem vx_cwSW {own : String} {index maxL mc ms : Nat} {y : MethodName} {bytes : ByteArray} {ret : Option FieldType} {hh : List (Nat × Nat × Nat × Nat)} {Ts ws ws' : List Cond} {rm : Room} (n : Nat) (ht : ∀ w ∈ Ts, w.before args s = true) (hT : GoodIn Ts (va_wsS own index y ws)) (hw : ws = Cond.codeWith y bytes maxL ret hh :: ws') (hrc : rm.cells = mc) (hrs : rm.slots = ms)
    (hd : y.cls ≠ "java/lang/invoke/MethodHandle" ∧ y.cls ≠ "java/lang/invoke/VarHandle" ∧ (parseMethodDescriptor y.desc).map (fun d => d.parameters.length) = some n) (hR : rm.frames + 1 ≤ R.frames ∧ 8 + (maxL + 11) + rm.locals ≤ R.locals) :
    vx_CSW R s args own index y bytes maxL ret hh ws rm mc ms n := by
  have ok : ∀ w ∈ va_wsS own index y ws, w.before args s = true := fun w h => ht w (hT w h).1
  have hG : GoodIn Ts ws := fun w h => hT w (by unfold va_wsS; exact List.mem_append_right _ h)
  have hc : Cond.codeWith y bytes maxL ret hh ∈ ws := by rw [hw]; exact List.mem_cons_self
  refine ⟨⟨hrc, hrs, hR.1, hR.2, pay_in ht hG, hc⟩, ht _ (hG _ hc).1, ok _ (by simp [va_wsS]), ⟨hd.1, hd.2.1⟩, fun sig h => ?_, ok _ (by simp [va_wsS]), ok _ (by simp [va_wsS])⟩
  have h2 := hd.2.2
  rw [h] at h2
  exact (Option.some.inj h2).symm
theorem vx_callSW (X : Stand p l e R s m args below meth c T locs cells slots) (hexec : p.tables.exec = Jvm.exec) {own : String} {index : Nat} {y : MethodName} {bytes : ByteArray} {maxL : Nat} {ret : Option FieldType} {hh : List (Nat × Nat × Nat × Nat)}
    (hown : s.vm.findClass own = some m.cls) (hlink : (Cond.methodLink own index y).before args s = true) (hstat : (Cond.static y).before args s = true) (hinit : (Cond.initialized y.cls).before args s = true)
    (hcode : (Cond.codeWith y bytes maxL ret hh).before args s = true) (hy : y.cls ≠ "java/lang/invoke/MethodHandle" ∧ y.cls ≠ "java/lang/invoke/VarHandle")
    {W9 : Nat} {Pre : Pt → Array Value → Prop} {Post : Pt → Array Value → Option Value → Pt → Prop} (hK : Back l R p e below s args y 3 W9 Pre Post)
    {g : JFrame} (hg : g.method = m) (hsize : g.locals.size = c.maxLocals) {argsL rest : List Value} (hlen : ∀ sig, parseMethodDescriptor y.desc = some sig → argsL.length = sig.parameters.length)
    (hstack : g.stack = argsL.reverse ++ rest) (hW : 2 * g.monitorRoom + (rest.map fun v => v.category).sum ≤ W9) (hdg : decode c.code g.pc = .ok (.invokestatic index, 3))
    (hpre : ∀ vm₁, s.WarmedH vm₁ → Pre ⟨T.setVm vm₁, locs, cells, slots⟩ argsL.toArray) :
    ∃ (v : Option Value) (vm₁ : Vm) (B : Pt), s.WarmedH vm₁ ∧ Stand p l e R s m args below meth c B.U B.locs B.cells B.slots ∧ Post ⟨T.setVm vm₁, locs, cells, slots⟩ argsL.toArray v B ∧
      ∀ target, Steps p.tables e below (B.U.setTop { g with pc := g.pc + 3, stack := v.toList ++ rest }) target → Steps p.tables e below (T.setTop g) target := by
  obtain ⟨mk, methM, cM, hnamed, hmethM, -, -, -, -, -, -, hsigM⟩ := Cond.codeWith_spec hcode
  have hstatic : methM.isStatic = true := Cond.static_spec hnamed hmethM hstat
  obtain ⟨kP, hkP, -⟩ := className_of_methodNamed hnamed
  have hinitP : kP.init = .initialized := Cond.initialized_spec (findClass_of_methodNamed hnamed) hkP hinit
  obtain ⟨vm₁, X₁, hstep₁⟩ := X.invokestatic hexec hown hlink hnamed hmethM hstatic hkP hinitP hy (g := g) hg (argsL := argsL) (rest := rest) (hlen _ hsigM) hstack hdg
  obtain ⟨v, B, X', hpost, hsteps⟩ := hK m meth c ⟨T.setVm vm₁, locs, cells, slots⟩ { g with stack := rest } (.invokestatic index) mk argsL.toArray X₁ hg hsize hdg hW (X₁.named hnamed) (hpre vm₁ X₁.warmed)
  exact ⟨v, vm₁, B, X₁.warmed, X', hpost, fun target h => hstep₁ _ fun acts => by rw [doInvoke_state]; exact hsteps.trans h⟩
theorem vx_runSW {y : MethodName} {bytes cc : ByteArray} {maxL nL mc ms n index : Nat} {ret : Option FieldType} {hh : List (Nat × Nat × Nat × Nat)} {ws : List Cond} {rm : Room} {Pc : Array Value → State → Prop} {Qc : Array Value → State → Outcome → State → Prop} {free : Addr → Prop} {Ts : List Cond} {own : String} {As rest : List Value} {g : JFrame}
    (S : CallFix p m c cc nL s args Ts own) (hM : Met l y ws rm Pc Qc mc ms free) (cw : vx_CSW R s args own index y bytes maxL ret hh ws rm mc ms n) (hp : PreS s H Pc As)
    (hg : g.method = m) (hn : As.length = n) (hsize : g.locals.size = nL) (hstack : g.stack = As.reverse ++ rest) (hW : 2 * g.monitorRoom + (rest.map fun v => v.category).sum ≤ 8) (hdg : decode cc g.pc = .ok (.invokestatic index, 3)) (hf : cells + mc ≤ R.cells ∧ slots + ms ≤ R.slots) :
    va_Run p l e R s m args below meth c H locs cells slots mc ms g rest (Qc As.toArray) (free) := by
  obtain ⟨⟨hrc, hrs, hfr, hlo, hws, hcw⟩, hcode, hini, hy, hlen, hl, hstt⟩ := cw
  have hK : Back l R p e below s args y 3 8 (PreOf R mc ms Pc) (PostOf Qc mc ms free) := va_backW (hh := hh) (bytes := bytes) (maxL := maxL) (ret := ret) hM hp.1 hrc hrs hfr hlo hws hcw (fun a' U hW => word_at hW (Or.inl (by first | rfl | simp [Cond.onTables, Cond.keeps, Cond.steady])) hini)
  obtain ⟨hx, hb, hml, ho, -⟩ := S
  intro T hT X
  obtain ⟨v, vm₁, ⟨U', l2, c2, s2⟩, hW₁, X', ⟨g', mk, t, L, e1, e2, hq, h1, hL, h2, h3⟩, st⟩ := vx_callSW X hx (hh := hh) (bytes := bytes) (maxL := maxL) (ret := ret) ho hl hstt hini hcode hy hK hg (hsize.trans hml.symm) (argsL := As) (rest := rest) (fun sig h => hn.trans (hlen sig h)) hstack hW (by rw [hb]; exact hdg)
    (fun vm₁ hW₁ => ⟨hf.1, hf.2, hp.2 (T.setVm vm₁) hT hW₁⟩)
  dsimp only [Pt.U, Pt.locs, Pt.cells, Pt.slots] at X' e1 e2 h1 h2 h3 st
  subst h1; subst h2; subst h3
  exact ⟨v, (T.setVm vm₁).calling g' mk As.toArray, t, U', L, hT, X', hL, e1, e2, hq, st⟩
/-- not caught here, past rows that name other classes: it goes on to the caller -/
theorem vx_outP {p : Program} {l : Launch} {e : Env} {R : Room} {s : State} {m : MethodId} {args : Array Value} {below : List Frame} {meth : Method} {c : Code} {H : Heap} {locs : List Loc} {cells slots : Nat} {free : Addr → Prop} {ls : Array Slot} {rest : List Value} {Qc : Array Value → State → Outcome → State → Prop} {XC : String → State → State → Prop}
    {pc : Nat} {own E : String} {ce : Cell} {q : Addr} {mc ms : Nat} (hown : s.vm.findClass own = some m.cls) (hlocks : meth.locks = false)
    (hpass : ∀ z ∈ c.exceptionTable.toList, covers z pc = false ∨ (z.catchType ≠ 0 ∧ ∃ nm : String, (Cond.classLink own z.catchType nm).before args s = true ∧ va_Nc E nm s)) (hcell : H[q]? = some ce) (hv : ce.vm = .none) (hcl : s.vm.findClass E = some ce.cls)
    (hx : ∀ t : State, t.heap = H → s.vm.Alike t.vm → XC E s t) (hf : ∀ z ∈ locs, free z.base) (hc : cells ≤ mc) (hs : slots ≤ ms) :
    vx_W p l e R s m args below meth c H locs cells slots (vx_MQ below Qc XC args s mc ms free) (F0 m pc ls rest) q := by
  intro T hT X
  have hpl : e.platform.magicAccessors = ({} : Platform).magicAccessors := by rw [X.admits.platform]
  obtain ⟨vm', hW', X', st⟩ := X.outThrough hlocks q (g := F0 m pc ls rest) rfl rfl rfl (cell := ce) (by rw [hT]; exact hcell) (by rw [hv]; rfl)
    (by obtain ⟨k9, h9, -⟩ := Vm.findClass_spec hcl; exact ⟨k9, h9⟩) (fun z hz => by
      rcases hpass z hz with h | ⟨hz0, nm, hl1, hn1⟩
      · exact Or.inl h
      · obtain ⟨c6, hc6, hcl6⟩ := Cond.classLink_spec hown hl1 e.platform hpl
        obtain ⟨a8, b8, h1, h2, h3⟩ := hn1
        cases Option.some.inj (h1.symm.trans hcl)
        cases Option.some.inj (h2.symm.trans hc6)
        exact Or.inr ⟨hz0, _, hcl6, h3⟩)
  obtain ⟨g₀, hfr⟩ := X'.frames_eq
  have hcell9 : ((T.setVm vm').setFrames (.throwing q :: below)).heap[q]? = some ce := by
    show T.heap[q]? = some ce
    rw [hT]; exact hcell
  have hend : Ended ((T.setVm vm').setFrames (.throwing q :: below)) below (.threw q) := State.frames_setFrames _ (State.cur_lt_of_frames hfr)
  refine ⟨(T.setVm vm').setFrames (.throwing q :: below), ?_, .threw q, X'.here.running, hend, Or.inr ⟨q, rfl, E, ce, locs, hx _ hT (X'.ends _).1.alike, hcell9, hv, hcl, (X'.ends _).1, (X'.ends _).2.mono hc hs, hf⟩⟩
  rw [X.pushThrowing_eq]
  exact st
/-- a thing of a world lies in the heap -/
theorem vx_lt {D : va_G} {cl : List vw_C} {ws : va_W} {H1 : Heap} (h : va_P D cl ws H1) {k : Nat} {q : Nat × va_E} (hk : ws[k]? = some q) : q.1 < H1.size := (h k q hk).lt
end VXS
/-! ===== END ===== -/
/-! ===== BEGIN methods with a table of their own: called by a name, returning or throwing ===== -/
section VXH
/-! vx_backW, vx_callVX, vx_callSX, vx_callVW, vx_runVW, vx_runVX, vx_runSX, vx_ofWH follow the same proofs as their sisters above (Free/Laws.lean, Shelf42/LK1.lean); vx_outP calls Shelf42/NT130.lean (outThrough). -/
section
variable {l : Launch} {R : Room} {p : Program} {e : Env} {below : List Frame} {s : State} {sargs : Array Value} {y : MethodName} {len W9 : Nat}
theorem vx_backW {ws : List Cond} {rm : Room} {Pc : Array Value → State → Prop} {Qc : Array Value → State → Outcome → State → Prop} {XC : String → State → State → Prop} {mc ms : Nat} {free : Addr → Prop} {bytes : ByteArray} {maxL : Nat} {ret : Option FieldType} {hh : List (Nat × Nat × Nat × Nat)}
    (hM : vx_Met l y ws rm Pc Qc XC mc ms free) (hblind : FrameBlind Pc) (hrc : rm.cells = mc) (hrs : rm.slots = ms)
    (hframes : rm.frames + 1 ≤ R.frames) (hlocals : W9 + (maxL + 11) + rm.locals ≤ R.locals)
    (hws : ∀ w ∈ ws, ∀ a' U, s.WarmedH U.vm → w.before a' U = true) (hcode : Cond.codeWith y bytes maxL ret hh ∈ ws) (hinit : ∀ a' U, s.WarmedH U.vm → (Cond.initialized y.cls).before a' U = true) :
    vx_Back l R p e below s sargs y len W9 (PreOf R mc ms Pc) (PostOf Qc mc ms free) (vx_Post XC mc ms free) := by
  intro m meth c A g ig mk a X hg hsize hdg hW hn hp
  have h1 : (headSpec ws rm).pre.before a A.U = true := atoms_intro fun w hw => hws w hw _ _ X.warmed
  have h2 : (Cond.codeWith y bytes maxL ret hh).before a A.U = true := hws _ hcode _ _ X.warmed
  have h3 : (Cond.initialized y.cls).before a A.U = true := hinit _ _ X.warmed
  have h4 : A.cells + (headSpec ws rm).room.cells ≤ R.cells := by rw [show (headSpec ws rm).room.cells = mc from hrc]; exact hp.1
  have h5 : A.slots + (headSpec ws rm).room.slots ≤ R.slots := by rw [show (headSpec ws rm).room.slots = ms from hrs]; exact hp.2.1
  have hPc : Pc a (A.U.calling g mk a) := hblind _ _ _ _ hp.2.2
  obtain ⟨U, Ls, c0, s0⟩ := A
  dsimp only [Pt.U, Pt.locs, Pt.cells, Pt.slots] at h1 h2 h3 h4 h5 X hn hPc ⊢
  obtain ⟨m9, methY, cY, hn9, hmY, hcY, -, hlY, -⟩ := Cond.codeWith_spec h2
  cases Option.some.inj (hn9.symm.trans hn)
  obtain ⟨kY, hkY, -⟩ := className_of_methodNamed hn
  have hinitY : kY.init = .initialized := Cond.initialized_spec (findClass_of_methodNamed hn) hkY h3
  have h : At U g.method c below := by rw [hg]; exact X.here
  have hlocals9 : W9 + (maxL + 11) + (headSpec ws rm).room.locals ≤ R.locals := hlocals
  have happ : (headSpec ws rm).appliesLoose y e.platform (U.calling g mk a) = true :=
    Spec.appliesLoose_calling (g := g) h hdg hn hkY hinitY
      (X.room_calling (g := g) (R' := (headSpec ws rm).room) hsize hmY hcY hframes (by rw [hlY]; omega) h4 h5) h1
  obtain ⟨mid, hmid⟩ := h.above
  have hfr : (U.setTop g).frames = (.java g :: mid) ++ below := by rw [State.frames_setTop' g h.top, hmid]; rfl
  obtain ⟨o, s₂, hsteps, -, hend, hq⟩ := Steps.callFree hM p X.admits X.cas X.clock (acts := []) hfr happ hPc trivial
  have hq' : vx_Q Qc XC mc ms free a (U.calling g mk a) o s₂ := hq
  rw [State.frames_setTop' g h.top] at hend
  obtain ⟨g₀, hg0⟩ := Option.isSome_iff_exists.mp h.top
  obtain ⟨r, hr⟩ := State.topJava?_eq_some.mp hg0
  have hr' : (({ U with heap := s₂.heap, slotsUsed := s₂.slotsUsed } : State).setVm s₂.vm).frames = .java g₀ :: r := hr
  rcases hq' with ⟨hqc, L, hfe, hL⟩ | ⟨q, rfl, E, ce, L, hx, hce, hcv, hcl, hW₂, hsm, hL⟩
  · obtain ⟨⟨v, rfl⟩, hW₂, e2, q2, q3, q4, q5, q6⟩ := id hfe
    have e3 : s₂ = ({ (U.calling g mk a).setFrames s₂.frames with heap := s₂.heap, slotsUsed := s₂.slotsUsed } : State).setVm s₂.vm := by
      have : s₂ = ({ s₂ with vm := (U.calling g mk a).vm } : State).setVm s₂.vm := rfl
      rw [e2] at this
      exact this
    obtain ⟨c₂, i₂, len₂, hc₂, hd₂, hf₂⟩ := hend
    have hW' : U.WarmedH s₂.vm := hW₂
    have hcc : c₂ = c := by
      have h1 : s₂.code? g.method = U.code? g.method := by
        rw [State.code?_eq, State.code?_eq, hW'.alike.method?]
      exact Option.some.inj (hc₂.symm.trans (h1.trans h.code))
    subst hcc
    have hlen : len₂ = len := by rw [hdg] at hd₂; cases hd₂; rfl
    subst hlen
    have hs₂ : s₂ = (({ U with heap := s₂.heap, slotsUsed := s₂.slotsUsed } : State).setVm s₂.vm).setTop { g with pc := g.pc + len₂, stack := v.toList ++ g.stack } := by
      refine e3.trans ?_
      rw [hf₂, State.calling_eq h.top, State.setFrames_setFrames, State.setTop_of_frames _ hr', hr]
      rfl
    have hsame : U.sameButNew ({ U with heap := s₂.heap, slotsUsed := s₂.slotsUsed } : State) L mc ms := by
      refine ⟨?_, q2, q3, q4, q5, q6⟩
      obtain ⟨t, ht, -⟩ := State.frames_cons hr
      show ({ U with heap := s₂.heap, slotsUsed := s₂.slotsUsed } : State) = { U.setFrames U.frames with heap := s₂.heap, slotsUsed := s₂.slotsUsed }
      rw [State.setFrames_self ht]
    subst hg
    refine Or.inl ⟨v, ⟨(({ U with heap := s₂.heap, slotsUsed := s₂.slotsUsed } : State).setVm s₂.vm), Ls ++ L, c0 + mc, s0 + ms⟩,
      ⟨X.admits, X.cas, X.clock, X.frames, X.room, X.hears, X.method, X.code, (X.here.setHeapUsed s₂.heap s₂.slotsUsed).setVm hW'.alike, X.tail, State.WarmedH.trans X.warmed hW', X.limits, X.bytes, X.same.trans (hsame.setVm s.vm)⟩,
      ⟨g, mk, s₂, L, rfl, rfl, hqc, rfl, hL, rfl, rfl⟩, ?_⟩
    show Steps p.tables e below _ ((({ U with heap := s₂.heap, slotsUsed := s₂.slotsUsed } : State).setVm s₂.vm).setTop { g with pc := g.pc + len₂, stack := v.toList ++ g.stack })
    rw [← hs₂]
    exact hsteps
  · obtain ⟨e2, q2, q3, q4, q5, q6⟩ := id hsm
    have e3 : s₂ = ({ (U.calling g mk a).setFrames s₂.frames with heap := s₂.heap, slotsUsed := s₂.slotsUsed } : State).setVm s₂.vm := by
      have : s₂ = ({ s₂ with vm := (U.calling g mk a).vm } : State).setVm s₂.vm := rfl
      rw [e2] at this
      exact this
    have hf₂ : s₂.frames = .throwing q :: .java g :: U.frames.tail := hend
    have hW' : U.WarmedH s₂.vm := hW₂
    have hs₂ : s₂ = ((({ U with heap := s₂.heap, slotsUsed := s₂.slotsUsed } : State).setVm s₂.vm).setTop g).pushFrame (.throwing q) := by
      refine e3.trans ?_
      rw [hf₂, State.calling_eq h.top, State.setFrames_setFrames, State.pushFrame, State.frames_setTop _ hr', State.setTop_of_frames _ hr', State.setFrames_setFrames, hr]
      rfl
    have hsame : U.sameButNew ({ U with heap := s₂.heap, slotsUsed := s₂.slotsUsed } : State) L mc ms := by
      refine ⟨?_, q2, q3, q4, q5, q6⟩
      obtain ⟨t, ht, -⟩ := State.frames_cons hr
      show ({ U with heap := s₂.heap, slotsUsed := s₂.slotsUsed } : State) = { U.setFrames U.frames with heap := s₂.heap, slotsUsed := s₂.slotsUsed }
      rw [State.setFrames_self ht]
    subst hg
    refine Or.inr ⟨q, ⟨(({ U with heap := s₂.heap, slotsUsed := s₂.slotsUsed } : State).setVm s₂.vm), Ls ++ L, c0 + mc, s0 + ms⟩,
      ⟨X.admits, X.cas, X.clock, X.frames, X.room, X.hears, X.method, X.code, (X.here.setHeapUsed s₂.heap s₂.slotsUsed).setVm hW'.alike, X.tail, State.WarmedH.trans X.warmed hW', X.limits, X.bytes, X.same.trans (hsame.setVm s.vm)⟩,
      ⟨g, mk, s₂, L, E, ce, rfl, rfl, hx, hce, hcv, hcl, rfl, hL, rfl, rfl⟩, ?_⟩
    show Steps p.tables e below _ (((({ U with heap := s₂.heap, slotsUsed := s₂.slotsUsed } : State).setVm s₂.vm).setTop g).pushFrame (.throwing q))
    rw [← hs₂]
    exact hsteps
end
variable {p : Program} {l : Launch} {e : Env} {R : Room} {s : State} {m : MethodId} {args : Array Value} {below : List Frame} {meth : Method} {c : Code} {T : State} {H : Heap} {locs : List Loc} {cells slots : Nat}
theorem vx_callVX (X : Stand p l e R s m args below meth c T locs cells slots) (hexec : p.tables.exec = Jvm.exec) {own C : String} {index : Nat} {y : MethodName} {bytes : ByteArray} {maxL : Nat} {ret : Option FieldType} {hh : List (Nat × Nat × Nat × Nat)}
    (hown : s.vm.findClass own = some m.cls) (hlink : (Cond.methodLink own index y).before args s = true) (hinst : (Cond.instanceMethod y).before args s = true) (hsel : (Cond.selects C y y).before args s = true)
    (hcode : (Cond.codeWith y bytes maxL ret hh).before args s = true) (hy : y.cls ≠ "java/lang/invoke/MethodHandle" ∧ y.cls ≠ "java/lang/invoke/VarHandle")
    {W9 : Nat} {Pre : Pt → Array Value → Prop} {Post : Pt → Array Value → Option Value → Pt → Prop} {PostX : Pt → Array Value → Addr → Pt → Prop} (hK : vx_Back l R p e below s args y 3 W9 Pre Post PostX)
    {b : Addr} {cellB : Cell} (hcell : T.heap[b]? = some cellB) (hobj : cellB.vm.isStatics = false) (hcls : s.vm.findClass C = some cellB.cls)
    {g : JFrame} (hg : g.method = m) (hsize : g.locals.size = c.maxLocals) {argsL rest : List Value} (hlen : ∀ sig, parseMethodDescriptor y.desc = some sig → argsL.length = sig.parameters.length)
    (hstack : g.stack = argsL.reverse ++ .ref b :: rest) (hW : 2 * g.monitorRoom + (rest.map fun v => v.category).sum ≤ W9) (hdg : decode c.code g.pc = .ok (.invokevirtual index, 3))
    (hpre : ∀ vm₁, s.WarmedH vm₁ → Pre ⟨T.setVm vm₁, locs, cells, slots⟩ (Value.ref b :: argsL).toArray) :
    (∃ (v : Option Value) (vm₁ : Vm) (B : Pt), s.WarmedH vm₁ ∧ Stand p l e R s m args below meth c B.U B.locs B.cells B.slots ∧ Post ⟨T.setVm vm₁, locs, cells, slots⟩ (Value.ref b :: argsL).toArray v B ∧
      ∀ target, Steps p.tables e below (B.U.setTop { g with pc := g.pc + 3, stack := v.toList ++ rest }) target → Steps p.tables e below (T.setTop g) target) ∨
    (∃ (q : Addr) (vm₁ : Vm) (B : Pt), s.WarmedH vm₁ ∧ Stand p l e R s m args below meth c B.U B.locs B.cells B.slots ∧ PostX ⟨T.setVm vm₁, locs, cells, slots⟩ (Value.ref b :: argsL).toArray q B ∧
      Steps p.tables e below (T.setTop g) ((B.U.setTop { g with stack := rest }).pushFrame (.throwing q))) := by
  obtain ⟨mk, methM, hnamed, hmethM, hstM, habM⟩ := Cond.instanceMethod_spec hinst
  obtain ⟨m8, methM', cM, hn8, hmethM', -, -, -, -, -, -, hsigM⟩ := Cond.codeWith_spec hcode
  cases Option.some.inj (hn8.symm.trans hnamed)
  cases hmethM.symm.trans hmethM'
  obtain ⟨c2, r2, m2, q1, q2, q3, q4, kP, hkP, hkPi⟩ := Cond.selects_spec hsel
  cases hcls.symm.trans q1
  cases (State.methodFound?_of_named hnamed hy).symm.trans q2
  cases hnamed.symm.trans q3
  have hselP : selectMethod e.platform s.vm cellB.cls mk = .method mk := by rw [Launch.admits_selectMethod X.admits]; exact q4
  obtain ⟨vm₁, X₁, hstep₁⟩ := X.invokevirtual hexec hown hlink hnamed hmethM hstM hkP hkPi hy (a := b) (cell := cellB) hcell
    (fun z h => by rw [h] at hobj; cases hobj) hselP hmethM habM hkP hkPi (g := g) hg (argsL := argsL) (rest := rest) (hlen _ hsigM) hstack hdg
  rcases hK m meth c ⟨T.setVm vm₁, locs, cells, slots⟩ { g with stack := rest } (.invokevirtual index) mk (Value.ref b :: argsL).toArray X₁ hg hsize hdg hW (X₁.named hnamed) (hpre vm₁ X₁.warmed) with ⟨v, B, X', hpost, hsteps⟩ | ⟨q, B, X', hpost, hsteps⟩
  · exact Or.inl ⟨v, vm₁, B, X₁.warmed, X', hpost, fun target h => hstep₁ _ fun acts => by rw [doInvoke_state]; exact hsteps.trans h⟩
  · exact Or.inr ⟨q, vm₁, B, X₁.warmed, X', hpost, hstep₁ _ fun acts => by rw [doInvoke_state]; exact hsteps⟩
theorem vx_callSX (X : Stand p l e R s m args below meth c T locs cells slots) (hexec : p.tables.exec = Jvm.exec) {own : String} {index : Nat} {y : MethodName} {bytes : ByteArray} {maxL : Nat} {ret : Option FieldType} {hh : List (Nat × Nat × Nat × Nat)}
    (hown : s.vm.findClass own = some m.cls) (hlink : (Cond.methodLink own index y).before args s = true) (hstat : (Cond.static y).before args s = true) (hinit : (Cond.initialized y.cls).before args s = true)
    (hcode : (Cond.codeWith y bytes maxL ret hh).before args s = true) (hy : y.cls ≠ "java/lang/invoke/MethodHandle" ∧ y.cls ≠ "java/lang/invoke/VarHandle")
    {W9 : Nat} {Pre : Pt → Array Value → Prop} {Post : Pt → Array Value → Option Value → Pt → Prop} {PostX : Pt → Array Value → Addr → Pt → Prop} (hK : vx_Back l R p e below s args y 3 W9 Pre Post PostX)
    {g : JFrame} (hg : g.method = m) (hsize : g.locals.size = c.maxLocals) {argsL rest : List Value} (hlen : ∀ sig, parseMethodDescriptor y.desc = some sig → argsL.length = sig.parameters.length)
    (hstack : g.stack = argsL.reverse ++ rest) (hW : 2 * g.monitorRoom + (rest.map fun v => v.category).sum ≤ W9) (hdg : decode c.code g.pc = .ok (.invokestatic index, 3))
    (hpre : ∀ vm₁, s.WarmedH vm₁ → Pre ⟨T.setVm vm₁, locs, cells, slots⟩ argsL.toArray) :
    (∃ (v : Option Value) (vm₁ : Vm) (B : Pt), s.WarmedH vm₁ ∧ Stand p l e R s m args below meth c B.U B.locs B.cells B.slots ∧ Post ⟨T.setVm vm₁, locs, cells, slots⟩ argsL.toArray v B ∧
      ∀ target, Steps p.tables e below (B.U.setTop { g with pc := g.pc + 3, stack := v.toList ++ rest }) target → Steps p.tables e below (T.setTop g) target) ∨
    (∃ (q : Addr) (vm₁ : Vm) (B : Pt), s.WarmedH vm₁ ∧ Stand p l e R s m args below meth c B.U B.locs B.cells B.slots ∧ PostX ⟨T.setVm vm₁, locs, cells, slots⟩ argsL.toArray q B ∧
      Steps p.tables e below (T.setTop g) ((B.U.setTop { g with stack := rest }).pushFrame (.throwing q))) := by
  obtain ⟨mk, methM, cM, hnamed, hmethM, -, -, -, -, -, -, hsigM⟩ := Cond.codeWith_spec hcode
  have hstatic : methM.isStatic = true := Cond.static_spec hnamed hmethM hstat
  obtain ⟨kP, hkP, -⟩ := className_of_methodNamed hnamed
  have hinitP : kP.init = .initialized := Cond.initialized_spec (findClass_of_methodNamed hnamed) hkP hinit
  obtain ⟨vm₁, X₁, hstep₁⟩ := X.invokestatic hexec hown hlink hnamed hmethM hstatic hkP hinitP hy (g := g) hg (argsL := argsL) (rest := rest) (hlen _ hsigM) hstack hdg
  rcases hK m meth c ⟨T.setVm vm₁, locs, cells, slots⟩ { g with stack := rest } (.invokestatic index) mk argsL.toArray X₁ hg hsize hdg hW (X₁.named hnamed) (hpre vm₁ X₁.warmed) with ⟨v, B, X', hpost, hsteps⟩ | ⟨q, B, X', hpost, hsteps⟩
  · exact Or.inl ⟨v, vm₁, B, X₁.warmed, X', hpost, fun target h => hstep₁ _ fun acts => by rw [doInvoke_state]; exact hsteps.trans h⟩
  · exact Or.inr ⟨q, vm₁, B, X₁.warmed, X', hpost, hstep₁ _ fun acts => by rw [doInvoke_state]; exact hsteps⟩
theorem vx_callVW (X : Stand p l e R s m args below meth c T locs cells slots) (hexec : p.tables.exec = Jvm.exec) {own C : String} {index : Nat} {y : MethodName} {bytes : ByteArray} {maxL : Nat} {ret : Option FieldType} {hh : List (Nat × Nat × Nat × Nat)}
    (hown : s.vm.findClass own = some m.cls) (hlink : (Cond.methodLink own index y).before args s = true) (hinst : (Cond.instanceMethod y).before args s = true) (hsel : (Cond.selects C y y).before args s = true)
    (hcode : (Cond.codeWith y bytes maxL ret hh).before args s = true) (hy : y.cls ≠ "java/lang/invoke/MethodHandle" ∧ y.cls ≠ "java/lang/invoke/VarHandle")
    {W9 : Nat} {Pre : Pt → Array Value → Prop} {Post : Pt → Array Value → Option Value → Pt → Prop} (hK : Back l R p e below s args y 3 W9 Pre Post)
    {b : Addr} {cellB : Cell} (hcell : T.heap[b]? = some cellB) (hobj : cellB.vm.isStatics = false) (hcls : s.vm.findClass C = some cellB.cls)
    {g : JFrame} (hg : g.method = m) (hsize : g.locals.size = c.maxLocals) {argsL rest : List Value} (hlen : ∀ sig, parseMethodDescriptor y.desc = some sig → argsL.length = sig.parameters.length)
    (hstack : g.stack = argsL.reverse ++ .ref b :: rest) (hW : 2 * g.monitorRoom + (rest.map fun v => v.category).sum ≤ W9) (hdg : decode c.code g.pc = .ok (.invokevirtual index, 3))
    (hpre : ∀ vm₁, s.WarmedH vm₁ → Pre ⟨T.setVm vm₁, locs, cells, slots⟩ (Value.ref b :: argsL).toArray) :
    ∃ (v : Option Value) (vm₁ : Vm) (B : Pt), s.WarmedH vm₁ ∧ Stand p l e R s m args below meth c B.U B.locs B.cells B.slots ∧ Post ⟨T.setVm vm₁, locs, cells, slots⟩ (Value.ref b :: argsL).toArray v B ∧
      ∀ target, Steps p.tables e below (B.U.setTop { g with pc := g.pc + 3, stack := v.toList ++ rest }) target → Steps p.tables e below (T.setTop g) target := by
  obtain ⟨mk, methM, hnamed, hmethM, hstM, habM⟩ := Cond.instanceMethod_spec hinst
  obtain ⟨m8, methM', cM, hn8, hmethM', -, -, -, -, -, -, hsigM⟩ := Cond.codeWith_spec hcode
  cases Option.some.inj (hn8.symm.trans hnamed)
  cases hmethM.symm.trans hmethM'
  obtain ⟨c2, r2, m2, q1, q2, q3, q4, kP, hkP, hkPi⟩ := Cond.selects_spec hsel
  cases hcls.symm.trans q1
  cases (State.methodFound?_of_named hnamed hy).symm.trans q2
  cases hnamed.symm.trans q3
  have hselP : selectMethod e.platform s.vm cellB.cls mk = .method mk := by rw [Launch.admits_selectMethod X.admits]; exact q4
  obtain ⟨vm₁, X₁, hstep₁⟩ := X.invokevirtual hexec hown hlink hnamed hmethM hstM hkP hkPi hy (a := b) (cell := cellB) hcell
    (fun z h => by rw [h] at hobj; cases hobj) hselP hmethM habM hkP hkPi (g := g) hg (argsL := argsL) (rest := rest) (hlen _ hsigM) hstack hdg
  obtain ⟨v, B, X', hpost, hsteps⟩ := hK m meth c ⟨T.setVm vm₁, locs, cells, slots⟩ { g with stack := rest } (.invokevirtual index) mk (Value.ref b :: argsL).toArray X₁ hg hsize hdg hW (X₁.named hnamed) (hpre vm₁ X₁.warmed)
  exact ⟨v, vm₁, B, X₁.warmed, X', hpost, fun target h => hstep₁ _ fun acts => by rw [doInvoke_state]; exact hsteps.trans h⟩
abbrev vx_CVW (R : Room) (s : State) (args : Array Value) (own C : String) (index : Nat) (y : MethodName) (bytes : ByteArray) (maxL : Nat) (ret : Option FieldType) (hh : List (Nat × Nat × Nat × Nat)) (ws : List Cond) (rm : Room) (mc ms n : Nat) : Prop :=
  (rm.cells = mc ∧ rm.slots = ms ∧ rm.frames + 1 ≤ R.frames ∧ 8 + (maxL + 11) + rm.locals ≤ R.locals ∧ (∀ w ∈ ws, ∀ (a' : Array Value) (U : State), s.WarmedH U.vm → w.before a' U = true) ∧ Cond.codeWith y bytes maxL ret hh ∈ ws) ∧
  (Cond.codeWith y bytes maxL ret hh).before args s = true ∧ (Cond.initialized y.cls).before args s = true ∧ (y.cls ≠ "java/lang/invoke/MethodHandle" ∧ y.cls ≠ "java/lang/invoke/VarHandle") ∧
  (∀ sig, parseMethodDescriptor y.desc = some sig → n = sig.parameters.length) ∧ (Cond.methodLink own index y).before args s = true ∧ (Cond.instanceMethod y).before args s = true ∧ (Cond.selects C y y).before args s = true
theorem vx_cwVW {own C : String} {index maxL mc ms : Nat} {y : MethodName} {bytes : ByteArray} {ret : Option FieldType} {hh : List (Nat × Nat × Nat × Nat)} {Ts ws ws' : List Cond} {rm : Room} (n : Nat) (ht : ∀ w ∈ Ts, w.before args s = true) (hT : GoodIn Ts (wsV own index C y ws)) (hw : ws = Cond.codeWith y bytes maxL ret hh :: ws') (hrc : rm.cells = mc) (hrs : rm.slots = ms)
    (hd : y.cls = C ∧ y.cls ≠ "java/lang/invoke/MethodHandle" ∧ y.cls ≠ "java/lang/invoke/VarHandle" ∧ (parseMethodDescriptor y.desc).map (fun d => d.parameters.length) = some n) (hR : rm.frames + 1 ≤ R.frames ∧ 8 + (maxL + 11) + rm.locals ≤ R.locals) :
    vx_CVW R s args own C index y bytes maxL ret hh ws rm mc ms n := by
  obtain ⟨hC, hd⟩ := hd
  subst hC
  have ok : ∀ w ∈ wsV own index y.cls y ws, w.before args s = true := fun w h => ht w (hT w h).1
  have hG : GoodIn Ts ws := fun w h => hT w (by unfold wsV; exact List.mem_append_right _ h)
  have hc : Cond.codeWith y bytes maxL ret hh ∈ ws := by rw [hw]; exact List.mem_cons_self
  refine ⟨⟨hrc, hrs, hR.1, hR.2, pay_in ht hG, hc⟩, ht _ (hG _ hc).1, ok _ (by simp [wsV]), ⟨hd.1, hd.2.1⟩, fun sig h => ?_, ok _ (by simp [wsV]), ok _ (by simp [wsV]), ok _ (by simp [wsV])⟩
  have h2 := hd.2.2
  rw [h] at h2
  exact (Option.some.inj h2).symm
theorem vx_runVW {y : MethodName} {bytes cc : ByteArray} {maxL nL mc ms n index : Nat} {ret : Option FieldType} {hh : List (Nat × Nat × Nat × Nat)} {ws : List Cond} {rm : Room} {Pc : Array Value → State → Prop} {Qc : Array Value → State → Outcome → State → Prop} {free : Addr → Prop} {Ts : List Cond} {own C : String} {b : Addr} {As rest : List Value} {g : JFrame}
    (S : CallFix p m c cc nL s args Ts own) (hM : Met l y ws rm Pc Qc mc ms free) (cw : vx_CVW R s args own C index y bytes maxL ret hh ws rm mc ms n) (hp : PreV s H C b Pc As)
    (hg : g.method = m) (hn : As.length = n) (hsize : g.locals.size = nL) (hstack : g.stack = As.reverse ++ .ref b :: rest) (hW : 2 * g.monitorRoom + (rest.map fun v => v.category).sum ≤ 8) (hdg : decode cc g.pc = .ok (.invokevirtual index, 3)) (hf : cells + mc ≤ R.cells ∧ slots + ms ≤ R.slots) :
    va_Run p l e R s m args below meth c H locs cells slots mc ms g rest (Qc (Value.ref b :: As).toArray) free := by
  obtain ⟨⟨hrc, hrs, hfr, hlo, hws, hcw⟩, hcode, hini, hy, hlen, hl, hin, hse⟩ := cw
  have hK : Back l R p e below s args y 3 8 (PreOf R mc ms Pc) (PostOf Qc mc ms free) := va_backW (hh := hh) (bytes := bytes) (maxL := maxL) (ret := ret) hM hp.1 hrc hrs hfr hlo hws hcw (fun a' U hW => word_at hW (Or.inl (by first | rfl | simp [Cond.onTables, Cond.keeps, Cond.steady])) hini)
  obtain ⟨hx, hb, hml, ho, -⟩ := S
  obtain ⟨-, ⟨cellB, hcB, hoB, hclB⟩, hPc⟩ := hp
  intro T hT X
  obtain ⟨v, vm₁, ⟨U', l2, c2, s2⟩, hW₁, X', ⟨g', mk, t, L, e1, e2, hq, h1, hL, h2, h3⟩, st⟩ := vx_callVW X hx (C := C) (hh := hh) (bytes := bytes) (maxL := maxL) (ret := ret) ho hl hin hse hcode hy hK (by rw [hT]; exact hcB) hoB hclB hg (hsize.trans hml.symm) (argsL := As) (rest := rest) (fun sig h => hn.trans (hlen sig h)) hstack hW (by rw [hb]; exact hdg)
    (fun vm₁ hW₁ => ⟨hf.1, hf.2, hPc (T.setVm vm₁) hT hW₁⟩)
  dsimp only [Pt.U, Pt.locs, Pt.cells, Pt.slots] at X' e1 e2 h1 h2 h3 st
  subst h1; subst h2; subst h3
  exact ⟨v, (T.setVm vm₁).calling g' mk (Value.ref b :: As).toArray, t, U', L, hT, X', hL, e1, e2, hq, st⟩
section
variable {y : MethodName} {bytes cc : ByteArray} {maxL nL mc ms n index : Nat} {ret : Option FieldType} {ws : List Cond} {rm : Room} {Pc : Array Value → State → Prop} {Qc : Array Value → State → Outcome → State → Prop} {XC : String → State → State → Prop} {free : Addr → Prop} {Ts : List Cond} {own C : String} {b : Addr} {As rest : List Value} {g : JFrame}
theorem vx_runVX {hh : List (Nat × Nat × Nat × Nat)} (S : CallFix p m c cc nL s args Ts own) (hM : vx_Met l y ws rm Pc Qc XC mc ms free) (cw : vx_CVW R s args own C index y bytes maxL ret hh ws rm mc ms n) (hp : PreV s H C b Pc As)
    (hg : g.method = m) (hn : As.length = n) (hsize : g.locals.size = nL) (hstack : g.stack = As.reverse ++ .ref b :: rest) (hW : 2 * g.monitorRoom + (rest.map fun v => v.category).sum ≤ 8) (hdg : decode cc g.pc = .ok (.invokevirtual index, 3)) (hf : cells + mc ≤ R.cells ∧ slots + ms ≤ R.slots) :
    vx_Run p l e R s m args below meth c H locs cells slots mc ms g rest (Qc (Value.ref b :: As).toArray) XC free := by
  obtain ⟨⟨hrc, hrs, hfr, hlo, hws, hcw⟩, hcode, hini, hy, hlen, hl, hin, hse⟩ := cw
  have hK : vx_Back l R p e below s args y 3 8 (PreOf R mc ms Pc) (PostOf Qc mc ms free) (vx_Post XC mc ms free) := vx_backW (hh := hh) (bytes := bytes) (maxL := maxL) (ret := ret) hM hp.1 hrc hrs hfr hlo hws hcw (fun a' U hW => word_at hW (Or.inl (by first | rfl | simp [Cond.onTables, Cond.keeps, Cond.steady])) hini)
  obtain ⟨hx, hb, hml, ho, -⟩ := S
  obtain ⟨-, ⟨cellB, hcB, hoB, hclB⟩, hPc⟩ := hp
  intro T hT X
  rcases vx_callVX X hx (C := C) (hh := hh) (bytes := bytes) (maxL := maxL) (ret := ret) ho hl hin hse hcode hy hK (by rw [hT]; exact hcB) hoB hclB hg (hsize.trans hml.symm) (argsL := As) (rest := rest) (fun sig h => hn.trans (hlen sig h)) hstack hW (by rw [hb]; exact hdg)
    (fun vm₁ hW₁ => ⟨hf.1, hf.2, hPc (T.setVm vm₁) hT hW₁⟩) with ⟨v, vm₁, ⟨U', l2, c2, s2⟩, hW₁, X', ⟨g', mk, t, L, e1, e2, hq, h1, hL, h2, h3⟩, st⟩ | ⟨q, vm₁, ⟨U', l2, c2, s2⟩, hW₁, X', ⟨g', mk, t, L, E, ce, e1, e2, hq, hce, hcv, hcl, h1, hL, h2, h3⟩, st⟩
  · dsimp only [Pt.U, Pt.locs, Pt.cells, Pt.slots] at X' e1 e2 h1 h2 h3 st
    subst h1; subst h2; subst h3
    exact Or.inl ⟨v, (T.setVm vm₁).calling g' mk (Value.ref b :: As).toArray, t, U', L, hT, X', hL, e1, e2, hq, st⟩
  · dsimp only [Pt.U, Pt.locs, Pt.cells, Pt.slots] at X' e1 e2 h1 h2 h3 st hcl
    subst h1; subst h2; subst h3
    exact Or.inr ⟨q, (T.setVm vm₁).calling g' mk (Value.ref b :: As).toArray, t, U', L, E, ce, hT, X', hL, e1, e2, hq, hce, hcv, vx_cls hW₁ hcl, st⟩
theorem vx_runSX {hh : List (Nat × Nat × Nat × Nat)} (S : CallFix p m c cc nL s args Ts own) (hM : vx_Met l y ws rm Pc Qc XC mc ms free) (cw : vx_CSW R s args own index y bytes maxL ret hh ws rm mc ms n) (hp : PreS s H Pc As)
    (hg : g.method = m) (hn : As.length = n) (hsize : g.locals.size = nL) (hstack : g.stack = As.reverse ++ rest) (hW : 2 * g.monitorRoom + (rest.map fun v => v.category).sum ≤ 8) (hdg : decode cc g.pc = .ok (.invokestatic index, 3)) (hf : cells + mc ≤ R.cells ∧ slots + ms ≤ R.slots) :
    vx_Run p l e R s m args below meth c H locs cells slots mc ms g rest (Qc As.toArray) XC free := by
  obtain ⟨⟨hrc, hrs, hfr, hlo, hws, hcw⟩, hcode, hini, hy, hlen, hl, hstt⟩ := cw
  have hK : vx_Back l R p e below s args y 3 8 (PreOf R mc ms Pc) (PostOf Qc mc ms free) (vx_Post XC mc ms free) := vx_backW (hh := hh) (bytes := bytes) (maxL := maxL) (ret := ret) hM hp.1 hrc hrs hfr hlo hws hcw (fun a' U hW => word_at hW (Or.inl (by first | rfl | simp [Cond.onTables, Cond.keeps, Cond.steady])) hini)
  obtain ⟨hx, hb, hml, ho, -⟩ := S
  intro T hT X
  rcases vx_callSX X hx (hh := hh) (bytes := bytes) (maxL := maxL) (ret := ret) ho hl hstt hini hcode hy hK hg (hsize.trans hml.symm) (argsL := As) (rest := rest) (fun sig h => hn.trans (hlen sig h)) hstack hW (by rw [hb]; exact hdg)
    (fun vm₁ hW₁ => ⟨hf.1, hf.2, hp.2 (T.setVm vm₁) hT hW₁⟩) with ⟨v, vm₁, ⟨U', l2, c2, s2⟩, hW₁, X', ⟨g', mk, t, L, e1, e2, hq, h1, hL, h2, h3⟩, st⟩ | ⟨q, vm₁, ⟨U', l2, c2, s2⟩, hW₁, X', ⟨g', mk, t, L, E, ce, e1, e2, hq, hce, hcv, hcl, h1, hL, h2, h3⟩, st⟩
  · dsimp only [Pt.U, Pt.locs, Pt.cells, Pt.slots] at X' e1 e2 h1 h2 h3 st
    subst h1; subst h2; subst h3
    exact Or.inl ⟨v, (T.setVm vm₁).calling g' mk As.toArray, t, U', L, hT, X', hL, e1, e2, hq, st⟩
  · dsimp only [Pt.U, Pt.locs, Pt.cells, Pt.slots] at X' e1 e2 h1 h2 h3 st hcl
    subst h1; subst h2; subst h3
    exact Or.inr ⟨q, (T.setVm vm₁).calling g' mk As.toArray, t, U', L, E, ce, hT, X', hL, e1, e2, hq, hce, hcv, vx_cls hW₁ hcl, st⟩
end
end VXH
theorem vx_ofWH {l : Launch} {y : MethodName} {ws ws' : List Cond} {rm : Room} {Pc : Array Value → State → Prop} {Qc : Array Value → State → Outcome → State → Prop} {XC : String → State → State → Prop} {mc ms : Nat} {free : Addr → Prop} {cc : ByteArray} {maxL : Nat} {ret : Option FieldType} {hh : List (Nat × Nat × Nat × Nat)}
    (hy : plainName y.cls = true) (hw : ws = Cond.codeWith y cc maxL ret hh :: ws')
    (body : ∀ p e s m args below meth c s₁, BodyLoose p l y (headSpec ws rm) cc maxL ret e s m args below meth c s₁ → c.maxLocals = maxL → Pc args s →
      W p l e (headSpec ws rm).room s m args below meth c s.heap [] 0 0 (vx_MQ below Qc XC args s mc ms free) (entryFrame m args maxL)) : vx_Met l y ws rm Pc Qc XC mc ms free := by
  refine MetFree.of_bodyS (code := cc) (maxLocals := maxL) (ret := ret) hy ?_ ?_
  · intro args s m h hn
    obtain ⟨m9, meth, c, hn9, h1, h2, h3, h4, -, h5, h6, -⟩ := Cond.codeWith_spec (atoms_spec (ws := ws) h _ (by rw [hw]; exact List.mem_cons_self))
    cases hn.symm.trans hn9
    exact ⟨meth, c, h1, h2, h3, h4, h5, h6⟩
  · intro p e s m args below meth c s₁ B hml hP _
    have hh0 : s₁.heap = s.heap := by rw [B.state]; rfl
    obtain ⟨t, a1, o, b1, b2, b3⟩ := body p e s m args below meth c s₁ B hml hP s₁ hh0 (Stand.of_body B)
    exact ⟨t, o, a1, b1, b2, b3⟩
/-! ===== END ===== -/
end
section
/-! ===== BEGIN printed: names, fields, word lists, decode rows ===== -/
def RX0 : String := "WaveUpgrade$1"
def TX0 : u_T := fun k => match k with
  | _ => ("", "", "", false)
def tyX0 : Nat → FieldType := fun k => match k with
  | _ => .int
abbrev wsX00 : List Cond := u_ws RX0 TX0 0
theorem nmX0 : ∀ a, a < 0 → ∀ b, b < 0 → a ≠ b → (TX0 a).2.1 ≠ (TX0 b).2.1 := by decide +kernel
theorem tyX0_ok : ∀ k, k < 0 → parseFieldDescriptor (TX0 k).2.2.1 = some (tyX0 k) := by decide +kernel
def RX1 : String := "WaveUpgrade$ClusterReader"
def TX1 : u_T := fun k => match k with
  | 0 => ("WaveUpgrade$ClusterReader", "text", "LWaveUpgrade$Text;", true)
  | 1 => ("WaveUpgrade$ClusterReader", "draft", "LWaveUpgrade$State;", true)
  | 2 => ("WaveUpgrade$ClusterReader", "layout", "LWaveUpgrade$Layout;", true)
  | _ => ("WaveUpgrade$ClusterReader", "told", "I", false)
def tyX1 : Nat → FieldType := fun k => match k with
  | 0 => .object "WaveUpgrade$Text"
  | 1 => .object "WaveUpgrade$State"
  | 2 => .object "WaveUpgrade$Layout"
  | _ => .int
abbrev wsX10 : List Cond := u_ws RX1 TX1 4
theorem nmX1 : ∀ a, a < 4 → ∀ b, b < 4 → a ≠ b → (TX1 a).2.1 ≠ (TX1 b).2.1 := by decide +kernel
theorem tyX1_ok : ∀ k, k < 4 → parseFieldDescriptor (TX1 k).2.2.1 = some (tyX1 k) := by decide +kernel
abbrev cX1_init : ByteArray := prog_3_method_1_code
def yX1_init : MethodName := ⟨RX1, "<init>", "(LWaveUpgrade$Text;LWaveUpgrade$State;)V"⟩
abbrev cX1_readAll : ByteArray := prog_3_method_2_code
def yX1_readAll : MethodName := ⟨RX1, "readAll", "()Z"⟩
abbrev cX1_readStatement : ByteArray := prog_3_method_3_code
def yX1_readStatement : MethodName := ⟨RX1, "readStatement", "()Z"⟩
abbrev cX1_errorOfFirstWord : ByteArray := prog_3_method_4_code
def yX1_errorOfFirstWord : MethodName := ⟨RX1, "errorOfFirstWord", "(LWaveUpgrade$Statement;)I"⟩
abbrev cX1_readRest : ByteArray := prog_3_method_5_code
def yX1_readRest : MethodName := ⟨RX1, "readRest", "(LWaveUpgrade$Statement;)Z"⟩
abbrev cX1_readVersion : ByteArray := prog_3_method_6_code
def yX1_readVersion : MethodName := ⟨RX1, "readVersion", "()Z"⟩
abbrev cX1_readTalks : ByteArray := prog_3_method_7_code
def yX1_readTalks : MethodName := ⟨RX1, "readTalks", "()Z"⟩
abbrev cX1_readPlace : ByteArray := prog_3_method_8_code
def yX1_readPlace : MethodName := ⟨RX1, "readPlace", "()Z"⟩
abbrev cX1_readMember : ByteArray := prog_3_method_9_code
def yX1_readMember : MethodName := ⟨RX1, "readMember", "()Z"⟩
abbrev cX1_readLink : ByteArray := prog_3_method_10_code
def yX1_readLink : MethodName := ⟨RX1, "readLink", "()Z"⟩
abbrev cX1_readWave : ByteArray := prog_3_method_11_code
def yX1_readWave : MethodName := ⟨RX1, "readWave", "()Z"⟩
abbrev cX1_readPlaceOfWave : ByteArray := prog_3_method_12_code
def yX1_readPlaceOfWave : MethodName := ⟨RX1, "readPlaceOfWave", "(I)Z"⟩
abbrev cX1_readSetting : ByteArray := prog_3_method_13_code
def yX1_readSetting : MethodName := ⟨RX1, "readSetting", "(LWaveUpgrade$Statement;)Z"⟩
def RX2 : String := "WaveUpgrade$Command"
def TX2 : u_T := fun k => match k with
  | _ => ("", "", "", false)
def tyX2 : Nat → FieldType := fun k => match k with
  | _ => .int
abbrev wsX20 : List Cond := u_ws RX2 TX2 0
theorem nmX2 : ∀ a, a < 0 → ∀ b, b < 0 → a ≠ b → (TX2 a).2.1 ≠ (TX2 b).2.1 := by decide +kernel
theorem tyX2_ok : ∀ k, k < 0 → parseFieldDescriptor (TX2 k).2.2.1 = some (tyX2 k) := by decide +kernel
def RX3 : String := "WaveUpgrade$Events"
def TX3 : u_T := fun k => match k with
  | 0 => ("WaveUpgrade$Events", "cells", "[I", true)
  | 1 => ("WaveUpgrade$Events", "count", "I", false)
  | _ => ("WaveUpgrade$Events", "newest", "I", false)
def tyX3 : Nat → FieldType := fun k => match k with
  | 0 => .array .int
  | 1 => .int
  | _ => .int
abbrev wsX30 : List Cond := u_ws RX3 TX3 3
theorem nmX3 : ∀ a, a < 3 → ∀ b, b < 3 → a ≠ b → (TX3 a).2.1 ≠ (TX3 b).2.1 := by decide +kernel
theorem tyX3_ok : ∀ k, k < 3 → parseFieldDescriptor (TX3 k).2.2.1 = some (tyX3 k) := by decide +kernel
abbrev cX3_init : ByteArray := prog_5_method_1_code
def yX3_init : MethodName := ⟨RX3, "<init>", "()V"⟩
abbrev cX3_copyFrom : ByteArray := prog_5_method_2_code
def yX3_copyFrom : MethodName := ⟨RX3, "copyFrom", "(LWaveUpgrade$Events;)V"⟩
abbrev cX3_add : ByteArray := prog_5_method_3_code
def yX3_add : MethodName := ⟨RX3, "add", "(IIII)V"⟩
abbrev cX3_cellOf : ByteArray := prog_5_method_4_code
def yX3_cellOf : MethodName := ⟨RX3, "cellOf", "(II)I"⟩
def RX4 : String := "WaveUpgrade$History"
def TX4 : u_T := fun k => match k with
  | 0 => ("WaveUpgrade$History", "row", "[LWaveUpgrade$State;", true)
  | 1 => ("WaveUpgrade$History", "count", "I", false)
  | _ => ("WaveUpgrade$History", "newest", "I", false)
def tyX4 : Nat → FieldType := fun k => match k with
  | 0 => .array (.object "WaveUpgrade$State")
  | 1 => .int
  | _ => .int
abbrev wsX40 : List Cond := u_ws RX4 TX4 3
theorem nmX4 : ∀ a, a < 3 → ∀ b, b < 3 → a ≠ b → (TX4 a).2.1 ≠ (TX4 b).2.1 := by decide +kernel
theorem tyX4_ok : ∀ k, k < 3 → parseFieldDescriptor (TX4 k).2.2.1 = some (tyX4 k) := by decide +kernel
abbrev cX4_init : ByteArray := prog_6_method_1_code
def yX4_init : MethodName := ⟨RX4, "<init>", "(LWaveUpgrade$Layout;)V"⟩
abbrev cX4_keep : ByteArray := prog_6_method_2_code
def yX4_keep : MethodName := ⟨RX4, "keep", "(LWaveUpgrade$State;)V"⟩
abbrev cX4_takeBack : ByteArray := prog_6_method_3_code
def yX4_takeBack : MethodName := ⟨RX4, "takeBack", "(LWaveUpgrade$State;)V"⟩
abbrev cX4_forget : ByteArray := prog_6_method_4_code
def yX4_forget : MethodName := ⟨RX4, "forget", "()V"⟩
def RX5 : String := "WaveUpgrade$Layout"
def TX5 : u_T := fun k => match k with
  | 0 => ("WaveUpgrade$Layout", "versions", "LWaveUpgrade$Names;", true)
  | 1 => ("WaveUpgrade$Layout", "lowest", "[I", true)
  | 2 => ("WaveUpgrade$Layout", "highest", "[I", true)
  | 3 => ("WaveUpgrade$Layout", "talkSets", "[I", true)
  | 4 => ("WaveUpgrade$Layout", "places", "LWaveUpgrade$Names;", true)
  | 5 => ("WaveUpgrade$Layout", "waveOfPlace", "[I", true)
  | 6 => ("WaveUpgrade$Layout", "placeSets", "[I", true)
  | 7 => ("WaveUpgrade$Layout", "waveSets", "[I", true)
  | 8 => ("WaveUpgrade$Layout", "members", "LWaveUpgrade$Names;", true)
  | 9 => ("WaveUpgrade$Layout", "placeOf", "[I", true)
  | 10 => ("WaveUpgrade$Layout", "partnersOf", "[I", true)
  | 11 => ("WaveUpgrade$Layout", "links", "I", false)
  | 12 => ("WaveUpgrade$Layout", "waves", "I", false)
  | 13 => ("WaveUpgrade$Layout", "skew", "I", false)
  | 14 => ("WaveUpgrade$Layout", "mostDown", "I", false)
  | 15 => ("WaveUpgrade$Layout", "takes", "I", false)
  | 16 => ("WaveUpgrade$Layout", "soak", "I", false)
  | _ => ("WaveUpgrade$Layout", "limit", "I", false)
def tyX5 : Nat → FieldType := fun k => match k with
  | 0 => .object "WaveUpgrade$Names"
  | 1 => .array .int
  | 2 => .array .int
  | 3 => .array .int
  | 4 => .object "WaveUpgrade$Names"
  | 5 => .array .int
  | 6 => .array .int
  | 7 => .array .int
  | 8 => .object "WaveUpgrade$Names"
  | 9 => .array .int
  | 10 => .array .int
  | 11 => .int
  | 12 => .int
  | 13 => .int
  | 14 => .int
  | 15 => .int
  | 16 => .int
  | _ => .int
abbrev wsX50 : List Cond := u_ws RX5 TX5 18
theorem nmX5 : ∀ a, a < 18 → ∀ b, b < 18 → a ≠ b → (TX5 a).2.1 ≠ (TX5 b).2.1 := by decide +kernel
theorem tyX5_ok : ∀ k, k < 18 → parseFieldDescriptor (TX5 k).2.2.1 = some (tyX5 k) := by decide +kernel
abbrev cX5_init : ByteArray := prog_7_method_1_code
def yX5_init : MethodName := ⟨RX5, "<init>", "()V"⟩
abbrev cX5_reset : ByteArray := prog_7_method_2_code
def yX5_reset : MethodName := ⟨RX5, "reset", "()V"⟩
abbrev cX5_copyFrom : ByteArray := prog_7_method_3_code
def yX5_copyFrom : MethodName := ⟨RX5, "copyFrom", "(LWaveUpgrade$Layout;)V"⟩
abbrev cX5_numberOf : ByteArray := prog_7_method_4_code
def yX5_numberOf : MethodName := ⟨RX5, "numberOf", "(I)I"⟩
abbrev cX5_addVersion : ByteArray := prog_7_method_5_code
def yX5_addVersion : MethodName := ⟨RX5, "addVersion", "(JII)V"⟩
abbrev cX5_addTalk : ByteArray := prog_7_method_6_code
def yX5_addTalk : MethodName := ⟨RX5, "addTalk", "(II)V"⟩
abbrev cX5_addPlace : ByteArray := prog_7_method_7_code
def yX5_addPlace : MethodName := ⟨RX5, "addPlace", "(J)V"⟩
abbrev cX5_addWave : ByteArray := prog_7_method_8_code
def yX5_addWave : MethodName := ⟨RX5, "addWave", "()V"⟩
abbrev cX5_addToWave : ByteArray := prog_7_method_9_code
def yX5_addToWave : MethodName := ⟨RX5, "addToWave", "(II)V"⟩
abbrev cX5_addMember : ByteArray := prog_7_method_10_code
def yX5_addMember : MethodName := ⟨RX5, "addMember", "(JI)V"⟩
abbrev cX5_addLink : ByteArray := prog_7_method_11_code
def yX5_addLink : MethodName := ⟨RX5, "addLink", "(II)V"⟩
abbrev cX5_join : ByteArray := prog_7_method_12_code
def yX5_join : MethodName := ⟨RX5, "join", "(II)V"⟩
abbrev cX5_talkersOf : ByteArray := prog_7_method_13_code
def yX5_talkersOf : MethodName := ⟨RX5, "talkersOf", "(I)I"⟩
abbrev cX5_isReader : ByteArray := prog_7_method_14_code
def yX5_isReader : MethodName := ⟨RX5, "isReader", "(II)Z"⟩
abbrev cX5_readersOf : ByteArray := prog_7_method_15_code
def yX5_readersOf : MethodName := ⟨RX5, "readersOf", "(I)I"⟩
abbrev cX5_everyMember : ByteArray := prog_7_method_16_code
def yX5_everyMember : MethodName := ⟨RX5, "everyMember", "()I"⟩
abbrev cX5_neighboursOf : ByteArray := prog_7_method_17_code
def yX5_neighboursOf : MethodName := ⟨RX5, "neighboursOf", "(I)I"⟩
abbrev cX5_waveOf : ByteArray := prog_7_method_18_code
def yX5_waveOf : MethodName := ⟨RX5, "waveOf", "(I)I"⟩
abbrev cX5_plannedMembers : ByteArray := prog_7_method_19_code
def yX5_plannedMembers : MethodName := ⟨RX5, "plannedMembers", "()I"⟩
def RX6 : String := "WaveUpgrade$Names"
def TX6 : u_T := fun k => match k with
  | 0 => ("WaveUpgrade$Names", "row", "[J", true)
  | _ => ("WaveUpgrade$Names", "count", "I", false)
def tyX6 : Nat → FieldType := fun k => match k with
  | 0 => .array .long
  | _ => .int
abbrev wsX60 : List Cond := u_ws RX6 TX6 2
theorem nmX6 : ∀ a, a < 2 → ∀ b, b < 2 → a ≠ b → (TX6 a).2.1 ≠ (TX6 b).2.1 := by decide +kernel
theorem tyX6_ok : ∀ k, k < 2 → parseFieldDescriptor (TX6 k).2.2.1 = some (tyX6 k) := by decide +kernel
abbrev cX6_init : ByteArray := prog_8_method_1_code
def yX6_init : MethodName := ⟨RX6, "<init>", "(I)V"⟩
abbrev cX6_copyFrom : ByteArray := prog_8_method_2_code
def yX6_copyFrom : MethodName := ⟨RX6, "copyFrom", "(LWaveUpgrade$Names;)V"⟩
abbrev cX6_isFull : ByteArray := prog_8_method_3_code
def yX6_isFull : MethodName := ⟨RX6, "isFull", "()Z"⟩
abbrev cX6_numberOf : ByteArray := prog_8_method_4_code
def yX6_numberOf : MethodName := ⟨RX6, "numberOf", "(J)I"⟩
abbrev cX6_add : ByteArray := prog_8_method_6_code
def yX6_add : MethodName := ⟨RX6, "add", "(J)V"⟩
def RX7 : String := "WaveUpgrade$Program"
def TX7 : u_T := fun k => match k with
  | 0 => ("WaveUpgrade$Program", "commands", "[LWaveUpgrade$Command;", true)
  | 1 => ("WaveUpgrade$Program", "member", "[I", true)
  | 2 => ("WaveUpgrade$Program", "version", "[I", true)
  | 3 => ("WaveUpgrade$Program", "number", "[I", true)
  | 4 => ("WaveUpgrade$Program", "behind", "[I", true)
  | 5 => ("WaveUpgrade$Program", "count", "I", false)
  | 6 => ("WaveUpgrade$Program", "open", "[I", true)
  | 7 => ("WaveUpgrade$Program", "left", "[I", true)
  | 8 => ("WaveUpgrade$Program", "depth", "I", false)
  | _ => ("WaveUpgrade$Program", "at", "I", false)
def tyX7 : Nat → FieldType := fun k => match k with
  | 0 => .array (.object "WaveUpgrade$Command")
  | 1 => .array .int
  | 2 => .array .int
  | 3 => .array .int
  | 4 => .array .int
  | 5 => .int
  | 6 => .array .int
  | 7 => .array .int
  | 8 => .int
  | _ => .int
abbrev wsX70 : List Cond := u_ws RX7 TX7 10
theorem nmX7 : ∀ a, a < 10 → ∀ b, b < 10 → a ≠ b → (TX7 a).2.1 ≠ (TX7 b).2.1 := by decide +kernel
theorem tyX7_ok : ∀ k, k < 10 → parseFieldDescriptor (TX7 k).2.2.1 = some (tyX7 k) := by decide +kernel
abbrev cX7_init : ByteArray := prog_9_method_1_code
def yX7_init : MethodName := ⟨RX7, "<init>", "()V"⟩
def RX8 : String := "WaveUpgrade$State"
def TX8 : u_T := fun k => match k with
  | 0 => ("WaveUpgrade$State", "layout", "LWaveUpgrade$Layout;", true)
  | 1 => ("WaveUpgrade$State", "clock", "I", false)
  | 2 => ("WaveUpgrade$State", "format", "I", false)
  | 3 => ("WaveUpgrade$State", "version", "[I", true)
  | 4 => ("WaveUpgrade$State", "coming", "[I", true)
  | 5 => ("WaveUpgrade$State", "upAt", "[I", true)
  | 6 => ("WaveUpgrade$State", "measure", "[I", true)
  | 7 => ("WaveUpgrade$State", "downSet", "I", false)
  | 8 => ("WaveUpgrade$State", "held", "I", false)
  | 9 => ("WaveUpgrade$State", "planState", "I", false)
  | 10 => ("WaveUpgrade$State", "target", "I", false)
  | 11 => ("WaveUpgrade$State", "step", "I", false)
  | 12 => ("WaveUpgrade$State", "goesUp", "Z", false)
  | 13 => ("WaveUpgrade$State", "wave", "I", false)
  | 14 => ("WaveUpgrade$State", "soakEnd", "I", false)
  | _ => ("WaveUpgrade$State", "events", "LWaveUpgrade$Events;", true)
def tyX8 : Nat → FieldType := fun k => match k with
  | 0 => .object "WaveUpgrade$Layout"
  | 1 => .int
  | 2 => .int
  | 3 => .array .int
  | 4 => .array .int
  | 5 => .array .int
  | 6 => .array .int
  | 7 => .int
  | 8 => .int
  | 9 => .int
  | 10 => .int
  | 11 => .int
  | 12 => .boolean
  | 13 => .int
  | 14 => .int
  | _ => .object "WaveUpgrade$Events"
abbrev wsX80 : List Cond := u_ws RX8 TX8 16
theorem nmX8 : ∀ a, a < 16 → ∀ b, b < 16 → a ≠ b → (TX8 a).2.1 ≠ (TX8 b).2.1 := by decide +kernel
theorem tyX8_ok : ∀ k, k < 16 → parseFieldDescriptor (TX8 k).2.2.1 = some (tyX8 k) := by decide +kernel
abbrev cX8_init : ByteArray := prog_10_method_1_code
def yX8_init : MethodName := ⟨RX8, "<init>", "(LWaveUpgrade$Layout;)V"⟩
abbrev cX8_reset : ByteArray := prog_10_method_2_code
def yX8_reset : MethodName := ⟨RX8, "reset", "()V"⟩
abbrev cX8_copyFrom : ByteArray := prog_10_method_3_code
def yX8_copyFrom : MethodName := ⟨RX8, "copyFrom", "(LWaveUpgrade$State;)V"⟩
abbrev cX8_replaceBy : ByteArray := prog_10_method_4_code
def yX8_replaceBy : MethodName := ⟨RX8, "replaceBy", "(LWaveUpgrade$State;)V"⟩
abbrev cX8_addMember : ByteArray := prog_10_method_5_code
def yX8_addMember : MethodName := ⟨RX8, "addMember", "(JIIZ)V"⟩
abbrev cX8_canJoin : ByteArray := prog_10_method_6_code
def yX8_canJoin : MethodName := ⟨RX8, "canJoin", "(II)Z"⟩
abbrev cX8_isUp : ByteArray := prog_10_method_10_code
def yX8_isUp : MethodName := ⟨RX8, "isUp", "(I)Z"⟩
abbrev cX8_numberOfMember : ByteArray := prog_10_method_12_code
def yX8_numberOfMember : MethodName := ⟨RX8, "numberOfMember", "(II)I"⟩
abbrev cX8_lowestComing : ByteArray := prog_10_method_13_code
def yX8_lowestComing : MethodName := ⟨RX8, "lowestComing", "(I)I"⟩
abbrev cX8_highestComing : ByteArray := prog_10_method_14_code
def yX8_highestComing : MethodName := ⟨RX8, "highestComing", "(I)I"⟩
abbrev cX8_whyNotBegin : ByteArray := prog_10_method_15_code
def yX8_whyNotBegin : MethodName := ⟨RX8, "whyNotBegin", "(II)I"⟩
abbrev cX8_opponents : ByteArray := prog_10_method_16_code
def yX8_opponents : MethodName := ⟨RX8, "opponents", "(II)I"⟩
abbrev cX8_beginChange : ByteArray := prog_10_method_18_code
def yX8_beginChange : MethodName := ⟨RX8, "beginChange", "(II)I"⟩
abbrev cX8_endChanges : ByteArray := prog_10_method_19_code
def yX8_endChanges : MethodName := ⟨RX8, "endChanges", "()V"⟩
abbrev cX8_setHeld : ByteArray := prog_10_method_20_code
def yX8_setHeld : MethodName := ⟨RX8, "setHeld", "(IZ)I"⟩
abbrev cX8_setMeasure : ByteArray := prog_10_method_21_code
def yX8_setMeasure : MethodName := ⟨RX8, "setMeasure", "(II)I"⟩
abbrev cX8_isReadByAll : ByteArray := prog_10_method_22_code
def yX8_isReadByAll : MethodName := ⟨RX8, "isReadByAll", "(I)Z"⟩
abbrev cX8_whyNotFormat : ByteArray := prog_10_method_23_code
def yX8_whyNotFormat : MethodName := ⟨RX8, "whyNotFormat", "(I)I"⟩
abbrev cX8_setFormat : ByteArray := prog_10_method_24_code
def yX8_setFormat : MethodName := ⟨RX8, "setFormat", "(I)I"⟩
abbrev cX8_lowestWayBack : ByteArray := prog_10_method_25_code
def yX8_lowestWayBack : MethodName := ⟨RX8, "lowestWayBack", "()I"⟩
abbrev cX8_isActive : ByteArray := prog_10_method_26_code
def yX8_isActive : MethodName := ⟨RX8, "isActive", "()Z"⟩
abbrev cX8_isUnderWay : ByteArray := prog_10_method_27_code
def yX8_isUnderWay : MethodName := ⟨RX8, "isUnderWay", "()Z"⟩
abbrev cX8_numberOfPlan : ByteArray := prog_10_method_28_code
def yX8_numberOfPlan : MethodName := ⟨RX8, "numberOfPlan", "(I)I"⟩
abbrev cX8_canStart : ByteArray := prog_10_method_29_code
def yX8_canStart : MethodName := ⟨RX8, "canStart", "()Z"⟩
abbrev cX8_startPlan : ByteArray := prog_10_method_30_code
def yX8_startPlan : MethodName := ⟨RX8, "startPlan", "(I)I"⟩
abbrev cX8_finishPlan : ByteArray := prog_10_method_31_code
def yX8_finishPlan : MethodName := ⟨RX8, "finishPlan", "()V"⟩
abbrev cX8_stopPlan : ByteArray := prog_10_method_32_code
def yX8_stopPlan : MethodName := ⟨RX8, "stopPlan", "()I"⟩
abbrev cX8_resumePlan : ByteArray := prog_10_method_33_code
def yX8_resumePlan : MethodName := ⟨RX8, "resumePlan", "()I"⟩
abbrev cX8_reachedOf : ByteArray := prog_10_method_34_code
def yX8_reachedOf : MethodName := ⟨RX8, "reachedOf", "(I)I"⟩
abbrev cX8_measuredSet : ByteArray := prog_10_method_35_code
def yX8_measuredSet : MethodName := ⟨RX8, "measuredSet", "()I"⟩
abbrev cX8_sumOfMeasures : ByteArray := prog_10_method_36_code
def yX8_sumOfMeasures : MethodName := ⟨RX8, "sumOfMeasures", "(I)I"⟩
abbrev cX8_laggards : ByteArray := prog_10_method_37_code
def yX8_laggards : MethodName := ⟨RX8, "laggards", "()I"⟩
abbrev cX8_canPass : ByteArray := prog_10_method_38_code
def yX8_canPass : MethodName := ⟨RX8, "canPass", "(I)Z"⟩
abbrev cX8_passMinutes : ByteArray := prog_10_method_39_code
def yX8_passMinutes : MethodName := ⟨RX8, "passMinutes", "(I)I"⟩
abbrev cX8_passMinute : ByteArray := prog_10_method_40_code
def yX8_passMinute : MethodName := ⟨RX8, "passMinute", "()I"⟩
abbrev cX8_isOverLimit : ByteArray := prog_10_method_41_code
def yX8_isOverLimit : MethodName := ⟨RX8, "isOverLimit", "()Z"⟩
abbrev cX8_leaveWave : ByteArray := prog_10_method_42_code
def yX8_leaveWave : MethodName := ⟨RX8, "leaveWave", "()V"⟩
abbrev cX8_beginChanges : ByteArray := prog_10_method_43_code
def yX8_beginChanges : MethodName := ⟨RX8, "beginChanges", "()I"⟩
abbrev cX8_soakIfComplete : ByteArray := prog_10_method_44_code
def yX8_soakIfComplete : MethodName := ⟨RX8, "soakIfComplete", "()V"⟩
abbrev cX8_minutesToDone : ByteArray := prog_10_method_47_code
def yX8_minutesToDone : MethodName := ⟨RX8, "minutesToDone", "(I)I"⟩
abbrev cX8_isStuck : ByteArray := prog_10_method_49_code
def yX8_isStuck : MethodName := ⟨RX8, "isStuck", "(I)Z"⟩
def RX9 : String := "WaveUpgrade$Statement"
def TX9 : u_T := fun k => match k with
  | _ => ("", "", "", false)
def tyX9 : Nat → FieldType := fun k => match k with
  | _ => .int
abbrev wsX90 : List Cond := u_ws RX9 TX9 0
theorem nmX9 : ∀ a, a < 0 → ∀ b, b < 0 → a ≠ b → (TX9 a).2.1 ≠ (TX9 b).2.1 := by decide +kernel
theorem tyX9_ok : ∀ k, k < 0 → parseFieldDescriptor (TX9 k).2.2.1 = some (tyX9 k) := by decide +kernel
abbrev cX9_at : ByteArray := prog_11_method_4_code
def yX9_at : MethodName := ⟨RX9, "at", "(LWaveUpgrade$Text;)LWaveUpgrade$Statement;"⟩
def RX10 : String := "WaveUpgrade$Text"
def TX10 : u_T := fun k => match k with
  | 0 => ("WaveUpgrade$Text", "bytes", "[B", true)
  | 1 => ("WaveUpgrade$Text", "length", "I", false)
  | 2 => ("WaveUpgrade$Text", "errorCode", "I", false)
  | 3 => ("WaveUpgrade$Text", "errorPosition", "I", false)
  | 4 => ("WaveUpgrade$Text", "kind", "I", false)
  | 5 => ("WaveUpgrade$Text", "position", "I", false)
  | 6 => ("WaveUpgrade$Text", "word", "J", false)
  | 7 => ("WaveUpgrade$Text", "number", "I", false)
  | _ => ("WaveUpgrade$Text", "behind", "I", false)
def tyX10 : Nat → FieldType := fun k => match k with
  | 0 => .array .byte
  | 1 => .int
  | 2 => .int
  | 3 => .int
  | 4 => .int
  | 5 => .int
  | 6 => .long
  | 7 => .int
  | _ => .int
abbrev wsX100 : List Cond := u_ws RX10 TX10 9
theorem nmX10 : ∀ a, a < 9 → ∀ b, b < 9 → a ≠ b → (TX10 a).2.1 ≠ (TX10 b).2.1 := by decide +kernel
theorem tyX10_ok : ∀ k, k < 9 → parseFieldDescriptor (TX10 k).2.2.1 = some (tyX10 k) := by decide +kernel
abbrev cX10_init : ByteArray := prog_12_method_1_code
def yX10_init : MethodName := ⟨RX10, "<init>", "()V"⟩
abbrev cX10_append : ByteArray := prog_12_method_2_code
def yX10_append : MethodName := ⟨RX10, "append", "(I)V"⟩
abbrev cX10_begin : ByteArray := prog_12_method_3_code
def yX10_begin : MethodName := ⟨RX10, "begin", "()V"⟩
abbrev cX10_fail : ByteArray := prog_12_method_4_code
def yX10_fail : MethodName := ⟨RX10, "fail", "(I)Z"⟩
abbrev cX10_advance : ByteArray := prog_12_method_5_code
def yX10_advance : MethodName := ⟨RX10, "advance", "()V"⟩
abbrev cX10_scanWord : ByteArray := prog_12_method_6_code
def yX10_scanWord : MethodName := ⟨RX10, "scanWord", "()V"⟩
abbrev cX10_scanNumber : ByteArray := prog_12_method_7_code
def yX10_scanNumber : MethodName := ⟨RX10, "scanNumber", "()V"⟩
abbrev cX10_isWord : ByteArray := prog_12_method_8_code
def yX10_isWord : MethodName := ⟨RX10, "isWord", "(Ljava/lang/String;)Z"⟩
abbrev cX10_takeSign : ByteArray := prog_12_method_9_code
def yX10_takeSign : MethodName := ⟨RX10, "takeSign", "(I)Z"⟩
abbrev cX10_takeNumber : ByteArray := prog_12_method_10_code
def yX10_takeNumber : MethodName := ⟨RX10, "takeNumber", "(II)I"⟩
abbrev cX10_takeNewName : ByteArray := prog_12_method_11_code
def yX10_takeNewName : MethodName := ⟨RX10, "takeNewName", "(LWaveUpgrade$Names;)J"⟩
abbrev cX10_findName : ByteArray := prog_12_method_12_code
def yX10_findName : MethodName := ⟨RX10, "findName", "(LWaveUpgrade$Names;)I"⟩
def RX11 : String := "WaveUpgrade"
def TX11 : u_T := fun k => match k with
  | 0 => ("WaveUpgrade", "text", "LWaveUpgrade$Text;", true)
  | 1 => ("WaveUpgrade", "state", "LWaveUpgrade$State;", true)
  | 2 => ("WaveUpgrade", "trial", "LWaveUpgrade$State;", true)
  | 3 => ("WaveUpgrade", "draft", "LWaveUpgrade$State;", true)
  | 4 => ("WaveUpgrade", "saved", "LWaveUpgrade$State;", true)
  | 5 => ("WaveUpgrade", "isSaved", "Z", false)
  | 6 => ("WaveUpgrade", "history", "LWaveUpgrade$History;", true)
  | 7 => ("WaveUpgrade", "reader", "LWaveUpgrade$ClusterReader;", true)
  | 8 => ("WaveUpgrade", "program", "LWaveUpgrade$Program;", true)
  | 9 => ("WaveUpgrade", "reportRow", "[B", true)
  | _ => ("WaveUpgrade", "reportLength", "I", false)
def tyX11 : Nat → FieldType := fun k => match k with
  | 0 => .object "WaveUpgrade$Text"
  | 1 => .object "WaveUpgrade$State"
  | 2 => .object "WaveUpgrade$State"
  | 3 => .object "WaveUpgrade$State"
  | 4 => .object "WaveUpgrade$State"
  | 5 => .boolean
  | 6 => .object "WaveUpgrade$History"
  | 7 => .object "WaveUpgrade$ClusterReader"
  | 8 => .object "WaveUpgrade$Program"
  | 9 => .array .byte
  | _ => .int
abbrev wsX110 : List Cond := u_ws RX11 TX11 11
theorem nmX11 : ∀ a, a < 11 → ∀ b, b < 11 → a ≠ b → (TX11 a).2.1 ≠ (TX11 b).2.1 := by decide +kernel
theorem tyX11_ok : ∀ k, k < 11 → parseFieldDescriptor (TX11 k).2.2.1 = some (tyX11 k) := by decide +kernel
abbrev cX11_init : ByteArray := prog_1_method_1_code
def yX11_init : MethodName := ⟨RX11, "<init>", "()V"⟩
abbrev cX11_feed : ByteArray := prog_1_method_2_code
def yX11_feed : MethodName := ⟨RX11, "feed", "(IIIII)I"⟩
abbrev cX11_truncate : ByteArray := prog_1_method_3_code
def yX11_truncate : MethodName := ⟨RX11, "truncate", "(I)I"⟩
abbrev cX11_readText : ByteArray := prog_1_method_4_code
def yX11_readText : MethodName := ⟨RX11, "readText", "()I"⟩
abbrev cX11_setting : ByteArray := prog_1_method_8_code
def yX11_setting : MethodName := ⟨RX11, "setting", "(I)I"⟩
abbrev cX11_mayTalk : ByteArray := prog_1_method_9_code
def yX11_mayTalk : MethodName := ⟨RX11, "mayTalk", "(II)Z"⟩
abbrev cX11_readers : ByteArray := prog_1_method_10_code
def yX11_readers : MethodName := ⟨RX11, "readers", "(I)I"⟩
abbrev cX11_member : ByteArray := prog_1_method_14_code
def yX11_member : MethodName := ⟨RX11, "member", "(II)I"⟩
abbrev cX11_partners : ByteArray := prog_1_method_15_code
def yX11_partners : MethodName := ⟨RX11, "partners", "(I)I"⟩
abbrev cX11_down : ByteArray := prog_1_method_17_code
def yX11_down : MethodName := ⟨RX11, "down", "(I)I"⟩
abbrev cX11_skewNow : ByteArray := prog_1_method_18_code
def yX11_skewNow : MethodName := ⟨RX11, "skewNow", "()I"⟩
abbrev cX11_reason : ByteArray := prog_1_method_19_code
def yX11_reason : MethodName := ⟨RX11, "reason", "(II)I"⟩
abbrev cX11_open : ByteArray := prog_1_method_20_code
def yX11_open : MethodName := ⟨RX11, "open", "(I)I"⟩
abbrev cX11_plan : ByteArray := prog_1_method_23_code
def yX11_plan : MethodName := ⟨RX11, "plan", "(I)I"⟩
abbrev cX11_whyNotCommit : ByteArray := prog_1_method_29_code
def yX11_whyNotCommit : MethodName := ⟨RX11, "whyNotCommit", "(I)I"⟩
abbrev cX11_wayBack : ByteArray := prog_1_method_31_code
def yX11_wayBack : MethodName := ⟨RX11, "wayBack", "()I"⟩
abbrev cX11_minutesToEnd : ByteArray := prog_1_method_32_code
def yX11_minutesToEnd : MethodName := ⟨RX11, "minutesToEnd", "(I)I"⟩
abbrev cX11_events : ByteArray := prog_1_method_37_code
def yX11_events : MethodName := ⟨RX11, "events", "()I"⟩
abbrev cX11_event : ByteArray := prog_1_method_38_code
def yX11_event : MethodName := ⟨RX11, "event", "(II)I"⟩
abbrev cX11_pass : ByteArray := prog_1_method_39_code
def yX11_pass : MethodName := ⟨RX11, "pass", "(I)I"⟩
abbrev cX11_start : ByteArray := prog_1_method_40_code
def yX11_start : MethodName := ⟨RX11, "start", "(I)I"⟩
abbrev cX11_stop : ByteArray := prog_1_method_41_code
def yX11_stop : MethodName := ⟨RX11, "stop", "()I"⟩
abbrev cX11_go : ByteArray := prog_1_method_42_code
def yX11_go : MethodName := ⟨RX11, "go", "()I"⟩
abbrev cX11_hold : ByteArray := prog_1_method_43_code
def yX11_hold : MethodName := ⟨RX11, "hold", "(IZ)I"⟩
abbrev cX11_report : ByteArray := prog_1_method_44_code
def yX11_report : MethodName := ⟨RX11, "report", "(II)I"⟩
abbrev cX11_change : ByteArray := prog_1_method_45_code
def yX11_change : MethodName := ⟨RX11, "change", "(II)I"⟩
abbrev cX11_commit : ByteArray := prog_1_method_46_code
def yX11_commit : MethodName := ⟨RX11, "commit", "(I)I"⟩
abbrev cX11_undo : ByteArray := prog_1_method_49_code
def yX11_undo : MethodName := ⟨RX11, "undo", "()I"⟩
abbrev cX11_needVersion : ByteArray := prog_1_method_52_code
def yX11_needVersion : MethodName := ⟨RX11, "needVersion", "(I)V"⟩
abbrev cX11_needMember : ByteArray := prog_1_method_53_code
def yX11_needMember : MethodName := ⟨RX11, "needMember", "(I)V"⟩
abbrev cX11_needFormat : ByteArray := prog_1_method_54_code
def yX11_needFormat : MethodName := ⟨RX11, "needFormat", "(I)V"⟩
abbrev cX11_needMeasure : ByteArray := prog_1_method_55_code
def yX11_needMeasure : MethodName := ⟨RX11, "needMeasure", "(I)V"⟩
abbrev cX11_needAhead : ByteArray := prog_1_method_56_code
def yX11_needAhead : MethodName := ⟨RX11, "needAhead", "(I)V"⟩
abbrev cX11_isIn : ByteArray := prog_1_method_60_code
def yX11_isIn : MethodName := ⟨RX11, "isIn", "(II)Z"⟩
abbrev cX11_copyRow : ByteArray := prog_1_method_61_code
def yX11_copyRow : MethodName := ⟨RX11, "copyRow", "([I[I)V"⟩
def RX12 : String := "WaveUpgradeLaw$Member"
def TX12 : u_T := fun k => match k with
  | 0 => ("WaveUpgradeLaw$Member", "place", "I", false)
  | 1 => ("WaveUpgradeLaw$Member", "version", "I", false)
  | 2 => ("WaveUpgradeLaw$Member", "next", "I", false)
  | 3 => ("WaveUpgradeLaw$Member", "until", "I", false)
  | 4 => ("WaveUpgradeLaw$Member", "measure", "I", false)
  | _ => ("WaveUpgradeLaw$Member", "isHeld", "Z", false)
def tyX12 : Nat → FieldType := fun k => match k with
  | 0 => .int
  | 1 => .int
  | 2 => .int
  | 3 => .int
  | 4 => .int
  | _ => .boolean
abbrev wsX120 : List Cond := u_ws RX12 TX12 6
theorem nmX12 : ∀ a, a < 6 → ∀ b, b < 6 → a ≠ b → (TX12 a).2.1 ≠ (TX12 b).2.1 := by decide +kernel
theorem tyX12_ok : ∀ k, k < 6 → parseFieldDescriptor (TX12 k).2.2.1 = some (tyX12 k) := by decide +kernel
abbrev cX12_init : ByteArray := prog_14_method_1_code
def yX12_init : MethodName := ⟨RX12, "<init>", "()V"⟩
abbrev cX12_isUp : ByteArray := prog_14_method_3_code
def yX12_isUp : MethodName := ⟨RX12, "isUp", "()Z"⟩
abbrev cX12_coming : ByteArray := prog_14_method_4_code
def yX12_coming : MethodName := ⟨RX12, "coming", "()I"⟩
def RX13 : String := "WaveUpgradeLaw$World"
def TX13 : u_T := fun k => match k with
  | 0 => ("WaveUpgradeLaw$World", "format", "I", false)
  | 1 => ("WaveUpgradeLaw$World", "skew", "I", false)
  | 2 => ("WaveUpgradeLaw$World", "down", "I", false)
  | 3 => ("WaveUpgradeLaw$World", "takes", "I", false)
  | 4 => ("WaveUpgradeLaw$World", "soak", "I", false)
  | 5 => ("WaveUpgradeLaw$World", "limit", "I", false)
  | 6 => ("WaveUpgradeLaw$World", "clock", "I", false)
  | 7 => ("WaveUpgradeLaw$World", "links", "I", false)
  | 8 => ("WaveUpgradeLaw$World", "state", "I", false)
  | 9 => ("WaveUpgradeLaw$World", "target", "I", false)
  | 10 => ("WaveUpgradeLaw$World", "step", "I", false)
  | 11 => ("WaveUpgradeLaw$World", "wave", "I", false)
  | 12 => ("WaveUpgradeLaw$World", "end", "I", false)
  | 13 => ("WaveUpgradeLaw$World", "was", "I", false)
  | 14 => ("WaveUpgradeLaw$World", "isUp", "Z", false)
  | 15 => ("WaveUpgradeLaw$World", "versions", "I", false)
  | 16 => ("WaveUpgradeLaw$World", "places", "I", false)
  | 17 => ("WaveUpgradeLaw$World", "waves", "I", false)
  | 18 => ("WaveUpgradeLaw$World", "low", "[I", false)
  | 19 => ("WaveUpgradeLaw$World", "high", "[I", false)
  | 20 => ("WaveUpgradeLaw$World", "waveOf", "[I", false)
  | 21 => ("WaveUpgradeLaw$World", "talks", "[[Z", false)
  | 22 => ("WaveUpgradeLaw$World", "linked", "[[Z", false)
  | 23 => ("WaveUpgradeLaw$World", "members", "Ljava/util/List;", false)
  | 24 => ("WaveUpgradeLaw$World", "events", "Ljava/util/List;", false)
  | 25 => ("WaveUpgradeLaw$World", "text", "Ljava/lang/String;", false)
  | 26 => ("WaveUpgradeLaw$World", "s", "[I", false)
  | _ => ("WaveUpgradeLaw$World", "at", "I", false)
def tyX13 : Nat → FieldType := fun k => match k with
  | 0 => .int
  | 1 => .int
  | 2 => .int
  | 3 => .int
  | 4 => .int
  | 5 => .int
  | 6 => .int
  | 7 => .int
  | 8 => .int
  | 9 => .int
  | 10 => .int
  | 11 => .int
  | 12 => .int
  | 13 => .int
  | 14 => .boolean
  | 15 => .int
  | 16 => .int
  | 17 => .int
  | 18 => .array .int
  | 19 => .array .int
  | 20 => .array .int
  | 21 => .array (.array .boolean)
  | 22 => .array (.array .boolean)
  | 23 => .object "java/util/List"
  | 24 => .object "java/util/List"
  | 25 => .object "java/lang/String"
  | 26 => .array .int
  | _ => .int
abbrev wsX130 : List Cond := u_ws RX13 TX13 28
theorem nmX13 : ∀ a, a < 28 → ∀ b, b < 28 → a ≠ b → (TX13 a).2.1 ≠ (TX13 b).2.1 := by decide +kernel
theorem tyX13_ok : ∀ k, k < 28 → parseFieldDescriptor (TX13 k).2.2.1 = some (tyX13 k) := by decide +kernel
abbrev cX13_init : ByteArray := prog_15_method_1_code
def yX13_init : MethodName := ⟨RX13, "<init>", "()V"⟩
abbrev cX13_next : ByteArray := prog_15_method_2_code
def yX13_next : MethodName := ⟨RX13, "next", "(I)I"⟩
abbrev cX13_name : ByteArray := prog_15_method_3_code
def yX13_name : MethodName := ⟨RX13, "name", "(Ljava/lang/String;I)Ljava/lang/String;"⟩
abbrev cX13_grown : ByteArray := prog_15_method_4_code
def yX13_grown : MethodName := ⟨RX13, "grown", "([I)LWaveUpgradeLaw$World;"⟩
abbrev cX13_talk : ByteArray := prog_15_method_5_code
def yX13_talk : MethodName := ⟨RX13, "talk", "(Ljava/lang/StringBuilder;II)V"⟩
abbrev cX13_member : ByteArray := prog_15_method_6_code
def yX13_member : MethodName := ⟨RX13, "member", "(Ljava/lang/StringBuilder;)V"⟩
abbrev cX13_link : ByteArray := prog_15_method_7_code
def yX13_link : MethodName := ⟨RX13, "link", "(Ljava/lang/StringBuilder;)V"⟩
abbrev cX13_inWave : ByteArray := prog_15_method_8_code
def yX13_inWave : MethodName := ⟨RX13, "inWave", "(Ljava/lang/StringBuilder;I)V"⟩
abbrev cX13_talk_ : ByteArray := prog_15_method_10_code
def yX13_talk_ : MethodName := ⟨RX13, "talk", "(II)Z"⟩
abbrev cX13_reads : ByteArray := prog_15_method_11_code
def yX13_reads : MethodName := ⟨RX13, "reads", "(II)Z"⟩
abbrev cX13_partners : ByteArray := prog_15_method_12_code
def yX13_partners : MethodName := ⟨RX13, "partners", "(II)Z"⟩
abbrev cX13_downIn : ByteArray := prog_15_method_13_code
def yX13_downIn : MethodName := ⟨RX13, "downIn", "(I)I"⟩
abbrev cX13_why : ByteArray := prog_15_method_14_code
def yX13_why : MethodName := ⟨RX13, "why", "(II)I"⟩
abbrev cX13_note : ByteArray := prog_15_method_15_code
def yX13_note : MethodName := ⟨RX13, "note", "(III)V"⟩
abbrev cX13_hasPlan : ByteArray := prog_15_method_16_code
def yX13_hasPlan : MethodName := ⟨RX13, "hasPlan", "()Z"⟩
abbrev cX13_isGoing : ByteArray := prog_15_method_17_code
def yX13_isGoing : MethodName := ⟨RX13, "isGoing", "()Z"⟩
abbrev cX13_waveAt : ByteArray := prog_15_method_18_code
def yX13_waveAt : MethodName := ⟨RX13, "waveAt", "(I)I"⟩
abbrev cX13_isReady : ByteArray := prog_15_method_19_code
def yX13_isReady : MethodName := ⟨RX13, "isReady", "(I)Z"⟩
abbrev cX13_measures : ByteArray := prog_15_method_20_code
def yX13_measures : MethodName := ⟨RX13, "measures", "()[I"⟩
abbrev cX13_begin : ByteArray := prog_15_method_21_code
def yX13_begin : MethodName := ⟨RX13, "begin", "(II)V"⟩
abbrev cX13_stop : ByteArray := prog_15_method_22_code
def yX13_stop : MethodName := ⟨RX13, "stop", "()V"⟩
abbrev cX13_minute : ByteArray := prog_15_method_23_code
def yX13_minute : MethodName := ⟨RX13, "minute", "()V"⟩
abbrev cX13_start : ByteArray := prog_15_method_24_code
def yX13_start : MethodName := ⟨RX13, "start", "(I)I"⟩
abbrev cX13_go : ByteArray := prog_15_method_25_code
def yX13_go : MethodName := ⟨RX13, "go", "()I"⟩
abbrev cX13_hold : ByteArray := prog_15_method_26_code
def yX13_hold : MethodName := ⟨RX13, "hold", "(IZ)I"⟩
abbrev cX13_whyCommit : ByteArray := prog_15_method_27_code
def yX13_whyCommit : MethodName := ⟨RX13, "whyCommit", "(I)I"⟩
abbrev cX13_commit : ByteArray := prog_15_method_28_code
def yX13_commit : MethodName := ⟨RX13, "commit", "(I)I"⟩
def RX14 : String := "WaveUpgradeModel"
def TX14 : u_T := fun k => match k with
  | _ => ("", "", "", false)
def tyX14 : Nat → FieldType := fun k => match k with
  | _ => .int
abbrev wsX140 : List Cond := u_ws RX14 TX14 0
theorem nmX14 : ∀ a, a < 0 → ∀ b, b < 0 → a ≠ b → (TX14 a).2.1 ≠ (TX14 b).2.1 := by decide +kernel
theorem tyX14_ok : ∀ k, k < 0 → parseFieldDescriptor (TX14 k).2.2.1 = some (tyX14 k) := by decide +kernel
def RJx145de : String := "java/io/Serializable"
def TJx145de : u_T := fun k => match k with
  | _ => ("", "", "", false)
def tyJx145de : Nat → FieldType := fun k => match k with
  | _ => .int
abbrev wsJx145de0 : List Cond := u_ws RJx145de TJx145de 0
theorem nmJx145de : ∀ a, a < 0 → ∀ b, b < 0 → a ≠ b → (TJx145de a).2.1 ≠ (TJx145de b).2.1 := by decide +kernel
theorem tyJx145de_ok : ∀ k, k < 0 → parseFieldDescriptor (TJx145de k).2.2.1 = some (tyJx145de k) := by decide +kernel
def RJ5 : String := "java/lang/AbstractStringBuilder"
def TJ5 : u_T := fun k => match k with
  | _ => ("", "", "", false)
def tyJ5 : Nat → FieldType := fun k => match k with
  | _ => .int
abbrev wsJ50 : List Cond := u_ws RJ5 TJ5 0
theorem nmJ5 : ∀ a, a < 0 → ∀ b, b < 0 → a ≠ b → (TJ5 a).2.1 ≠ (TJ5 b).2.1 := by decide +kernel
theorem tyJ5_ok : ∀ k, k < 0 → parseFieldDescriptor (TJ5 k).2.2.1 = some (tyJ5 k) := by decide +kernel
abbrev cJ5_init_d00df : ByteArray := prog_18_method_2_code
def yJ5_init_d00df : MethodName := ⟨RJ5, "<init>", "(I)V"⟩
abbrev cJ5_length_8abf5 : ByteArray := prog_18_method_6_code
def yJ5_length_8abf5 : MethodName := ⟨RJ5, "length", "()I"⟩
abbrev cJ5_ensureCapacityInternal_d00df : ByteArray := prog_18_method_9_code
def yJ5_ensureCapacityInternal_d00df : MethodName := ⟨RJ5, "ensureCapacityInternal", "(I)V"⟩
abbrev cJ5_newCapacity_0f7a4 : ByteArray := prog_18_method_10_code
def yJ5_newCapacity_0f7a4 : MethodName := ⟨RJ5, "newCapacity", "(I)I"⟩
abbrev cJ5_inflate_da8c8 : ByteArray := prog_18_method_11_code
def yJ5_inflate_da8c8 : MethodName := ⟨RJ5, "inflate", "()V"⟩
abbrev cJ5_append_cf1ce : ByteArray := prog_18_method_22_code
def yJ5_append_cf1ce : MethodName := ⟨RJ5, "append", "(Ljava/lang/String;)Ljava/lang/AbstractStringBuilder;"⟩
abbrev cJ5_appendNull_278bc : ByteArray := prog_18_method_26_code
def yJ5_appendNull_278bc : MethodName := ⟨RJ5, "appendNull", "()Ljava/lang/AbstractStringBuilder;"⟩
abbrev cJ5_append_3fe6f : ByteArray := prog_18_method_31_code
def yJ5_append_3fe6f : MethodName := ⟨RJ5, "append", "(C)Ljava/lang/AbstractStringBuilder;"⟩
abbrev cJ5_append_c97b9 : ByteArray := prog_18_method_32_code
def yJ5_append_c97b9 : MethodName := ⟨RJ5, "append", "(I)Ljava/lang/AbstractStringBuilder;"⟩
abbrev cJ5_getValue_6d5f1 : ByteArray := prog_18_method_64_code
def yJ5_getValue_6d5f1 : MethodName := ⟨RJ5, "getValue", "()[B"⟩
abbrev cJ5_isLatin1_aae02 : ByteArray := prog_18_method_68_code
def yJ5_isLatin1_aae02 : MethodName := ⟨RJ5, "isLatin1", "()Z"⟩
abbrev cJ5_inflateIfNeededFor_a7421 : ByteArray := prog_18_method_71_code
def yJ5_inflateIfNeededFor_a7421 : MethodName := ⟨RJ5, "inflateIfNeededFor", "(Ljava/lang/String;)V"⟩
abbrev cJ5_putStringAt_47b60 : ByteArray := prog_18_method_73_code
def yJ5_putStringAt_47b60 : MethodName := ⟨RJ5, "putStringAt", "(ILjava/lang/String;)V"⟩
def RJx2cfe8 : String := "java/lang/Appendable"
def TJx2cfe8 : u_T := fun k => match k with
  | _ => ("", "", "", false)
def tyJx2cfe8 : Nat → FieldType := fun k => match k with
  | _ => .int
abbrev wsJx2cfe80 : List Cond := u_ws RJx2cfe8 TJx2cfe8 0
theorem nmJx2cfe8 : ∀ a, a < 0 → ∀ b, b < 0 → a ≠ b → (TJx2cfe8 a).2.1 ≠ (TJx2cfe8 b).2.1 := by decide +kernel
theorem tyJx2cfe8_ok : ∀ k, k < 0 → parseFieldDescriptor (TJx2cfe8 k).2.2.1 = some (tyJx2cfe8 k) := by decide +kernel
def RJx9f9b0 : String := "java/lang/CharSequence"
def TJx9f9b0 : u_T := fun k => match k with
  | _ => ("", "", "", false)
def tyJx9f9b0 : Nat → FieldType := fun k => match k with
  | _ => .int
abbrev wsJx9f9b00 : List Cond := u_ws RJx9f9b0 TJx9f9b0 0
theorem nmJx9f9b0 : ∀ a, a < 0 → ∀ b, b < 0 → a ≠ b → (TJx9f9b0 a).2.1 ≠ (TJx9f9b0 b).2.1 := by decide +kernel
theorem tyJx9f9b0_ok : ∀ k, k < 0 → parseFieldDescriptor (TJx9f9b0 k).2.2.1 = some (tyJx9f9b0 k) := by decide +kernel
def RJx8e188 : String := "java/lang/Cloneable"
def TJx8e188 : u_T := fun k => match k with
  | _ => ("", "", "", false)
def tyJx8e188 : Nat → FieldType := fun k => match k with
  | _ => .int
abbrev wsJx8e1880 : List Cond := u_ws RJx8e188 TJx8e188 0
theorem nmJx8e188 : ∀ a, a < 0 → ∀ b, b < 0 → a ≠ b → (TJx8e188 a).2.1 ≠ (TJx8e188 b).2.1 := by decide +kernel
theorem tyJx8e188_ok : ∀ k, k < 0 → parseFieldDescriptor (TJx8e188 k).2.2.1 = some (tyJx8e188 k) := by decide +kernel
def RJxb160c : String := "java/lang/Comparable"
def TJxb160c : u_T := fun k => match k with
  | _ => ("", "", "", false)
def tyJxb160c : Nat → FieldType := fun k => match k with
  | _ => .int
abbrev wsJxb160c0 : List Cond := u_ws RJxb160c TJxb160c 0
theorem nmJxb160c : ∀ a, a < 0 → ∀ b, b < 0 → a ≠ b → (TJxb160c a).2.1 ≠ (TJxb160c b).2.1 := by decide +kernel
theorem tyJxb160c_ok : ∀ k, k < 0 → parseFieldDescriptor (TJxb160c k).2.2.1 = some (tyJxb160c k) := by decide +kernel
def RJx29ce0 : String := "java/lang/Enum"
def TJx29ce0 : u_T := fun k => match k with
  | _ => ("", "", "", false)
def tyJx29ce0 : Nat → FieldType := fun k => match k with
  | _ => .int
abbrev wsJx29ce00 : List Cond := u_ws RJx29ce0 TJx29ce0 0
theorem nmJx29ce0 : ∀ a, a < 0 → ∀ b, b < 0 → a ≠ b → (TJx29ce0 a).2.1 ≠ (TJx29ce0 b).2.1 := by decide +kernel
theorem tyJx29ce0_ok : ∀ k, k < 0 → parseFieldDescriptor (TJx29ce0 k).2.2.1 = some (tyJx29ce0 k) := by decide +kernel
abbrev cJx29ce0_ordinal_8abf5 : ByteArray := prog_23_method_2_code
def yJx29ce0_ordinal_8abf5 : MethodName := ⟨RJx29ce0, "ordinal", "()I"⟩
def RJ6 : String := "java/lang/Integer"
def TJ6 : u_T := fun k => match k with
  | _ => ("", "", "", false)
def tyJ6 : Nat → FieldType := fun k => match k with
  | _ => .int
abbrev wsJ60 : List Cond := u_ws RJ6 TJ6 0
theorem nmJ6 : ∀ a, a < 0 → ∀ b, b < 0 → a ≠ b → (TJ6 a).2.1 ≠ (TJ6 b).2.1 := by decide +kernel
theorem tyJ6_ok : ∀ k, k < 0 → parseFieldDescriptor (TJ6 k).2.2.1 = some (tyJ6 k) := by decide +kernel
abbrev cJ6_getChars_ba4f3 : ByteArray := prog_28_method_12_code
def yJ6_getChars_ba4f3 : MethodName := ⟨RJ6, "getChars", "(II[B)I"⟩
abbrev cJ6_stringSize_0f7a4 : ByteArray := prog_28_method_13_code
def yJ6_stringSize_0f7a4 : MethodName := ⟨RJ6, "stringSize", "(I)I"⟩
abbrev cJ6_bitCount_0f7a4 : ByteArray := prog_28_method_49_code
def yJ6_bitCount_0f7a4 : MethodName := ⟨RJ6, "bitCount", "(I)I"⟩
def RJxab1ab : String := "java/lang/Iterable"
def TJxab1ab : u_T := fun k => match k with
  | _ => ("", "", "", false)
def tyJxab1ab : Nat → FieldType := fun k => match k with
  | _ => .int
abbrev wsJxab1ab0 : List Cond := u_ws RJxab1ab TJxab1ab 0
theorem nmJxab1ab : ∀ a, a < 0 → ∀ b, b < 0 → a ≠ b → (TJxab1ab a).2.1 ≠ (TJxab1ab b).2.1 := by decide +kernel
theorem tyJxab1ab_ok : ∀ k, k < 0 → parseFieldDescriptor (TJxab1ab k).2.2.1 = some (tyJxab1ab k) := by decide +kernel
def RJ9 : String := "java/lang/Math"
def TJ9 : u_T := fun k => match k with
  | _ => ("", "", "", false)
def tyJ9 : Nat → FieldType := fun k => match k with
  | _ => .int
abbrev wsJ90 : List Cond := u_ws RJ9 TJ9 0
theorem nmJ9 : ∀ a, a < 0 → ∀ b, b < 0 → a ≠ b → (TJ9 a).2.1 ≠ (TJ9 b).2.1 := by decide +kernel
theorem tyJ9_ok : ∀ k, k < 0 → parseFieldDescriptor (TJ9 k).2.2.1 = some (tyJ9 k) := by decide +kernel
abbrev cJ9_floorMod_7cf53 : ByteArray := prog_30_method_50_code
def yJ9_floorMod_7cf53 : MethodName := ⟨RJ9, "floorMod", "(II)I"⟩
abbrev cJ9_abs_0f7a4 : ByteArray := prog_30_method_59_code
def yJ9_abs_0f7a4 : MethodName := ⟨RJ9, "abs", "(I)I"⟩
abbrev cJ9_max_7cf53 : ByteArray := prog_30_method_65_code
def yJ9_max_7cf53 : MethodName := ⟨RJ9, "max", "(II)I"⟩
abbrev cJ9_min_7cf53 : ByteArray := prog_30_method_69_code
def yJ9_min_7cf53 : MethodName := ⟨RJ9, "min", "(II)I"⟩
def RJxd2413 : String := "java/lang/Number"
def TJxd2413 : u_T := fun k => match k with
  | _ => ("", "", "", false)
def tyJxd2413 : Nat → FieldType := fun k => match k with
  | _ => .int
abbrev wsJxd24130 : List Cond := u_ws RJxd2413 TJxd2413 0
theorem nmJxd2413 : ∀ a, a < 0 → ∀ b, b < 0 → a ≠ b → (TJxd2413 a).2.1 ≠ (TJxd2413 b).2.1 := by decide +kernel
theorem tyJxd2413_ok : ∀ k, k < 0 → parseFieldDescriptor (TJxd2413 k).2.2.1 = some (tyJxd2413 k) := by decide +kernel
def RJ0 : String := "java/lang/String"
def TJ0 : u_T := fun k => match k with
  | 0 => ("java/lang/String", "value", "[B", true)
  | 1 => ("java/lang/String", "coder", "B", true)
  | 2 => ("java/lang/String", "hash", "I", false)
  | _ => ("java/lang/String", "hashIsZero", "Z", false)
def tyJ0 : Nat → FieldType := fun k => match k with
  | 0 => .array .byte
  | 1 => .byte
  | 2 => .int
  | _ => .boolean
abbrev wsJ00 : List Cond := u_ws RJ0 TJ0 4
theorem nmJ0 : ∀ a, a < 4 → ∀ b, b < 4 → a ≠ b → (TJ0 a).2.1 ≠ (TJ0 b).2.1 := by decide +kernel
theorem tyJ0_ok : ∀ k, k < 4 → parseFieldDescriptor (TJ0 k).2.2.1 = some (tyJ0 k) := by decide +kernel
abbrev cJ0_init_81219 : ByteArray := prog_33_method_53_code
def yJ0_init_81219 : MethodName := ⟨RJ0, "<init>", "(Ljava/lang/StringBuilder;)V"⟩
abbrev cJ0_length_8abf5 : ByteArray := prog_33_method_54_code
def yJ0_length_8abf5 : MethodName := ⟨RJ0, "length", "()I"⟩
abbrev cJ0_isEmpty_aae02 : ByteArray := prog_33_method_55_code
def yJ0_isEmpty_aae02 : MethodName := ⟨RJ0, "isEmpty", "()Z"⟩
abbrev cJ0_charAt_5068e : ByteArray := prog_33_method_56_code
def yJ0_charAt_5068e : MethodName := ⟨RJ0, "charAt", "(I)C"⟩
abbrev cJ0_getBytes_840e7 : ByteArray := prog_33_method_147_code
def yJ0_getBytes_840e7 : MethodName := ⟨RJ0, "getBytes", "([BIB)V"⟩
abbrev cJ0_init_db425 : ByteArray := prog_33_method_150_code
def yJ0_init_db425 : MethodName := ⟨RJ0, "<init>", "(Ljava/lang/AbstractStringBuilder;Ljava/lang/Void;)V"⟩
abbrev cJ0_coder_7d493 : ByteArray := prog_33_method_152_code
def yJ0_coder_7d493 : MethodName := ⟨RJ0, "coder", "()B"⟩
abbrev cJ0_isLatin1_aae02 : ByteArray := prog_33_method_154_code
def yJ0_isLatin1_aae02 : MethodName := ⟨RJ0, "isLatin1", "()Z"⟩
abbrev cJ0_checkIndex_df160 : ByteArray := prog_33_method_155_code
def yJ0_checkIndex_df160 : MethodName := ⟨RJ0, "checkIndex", "(II)V"⟩
abbrev cJ0_checkBoundsOffCount_cabcc : ByteArray := prog_33_method_157_code
def yJ0_checkBoundsOffCount_cabcc : MethodName := ⟨RJ0, "checkBoundsOffCount", "(III)I"⟩
abbrev cJ0_checkBoundsBeginEnd_23922 : ByteArray := prog_33_method_158_code
def yJ0_checkBoundsBeginEnd_23922 : MethodName := ⟨RJ0, "checkBoundsBeginEnd", "(III)V"⟩
def RJ4 : String := "java/lang/StringBuilder"
def TJ4 : u_T := fun k => match k with
  | 0 => ("java/lang/AbstractStringBuilder", "value", "[B", false)
  | 1 => ("java/lang/AbstractStringBuilder", "coder", "B", false)
  | 2 => ("java/lang/AbstractStringBuilder", "maybeLatin1", "Z", false)
  | _ => ("java/lang/AbstractStringBuilder", "count", "I", false)
def tyJ4 : Nat → FieldType := fun k => match k with
  | 0 => .array .byte
  | 1 => .byte
  | 2 => .boolean
  | _ => .int
abbrev wsJ40 : List Cond := u_ws RJ4 TJ4 4
theorem nmJ4 : ∀ a, a < 4 → ∀ b, b < 4 → a ≠ b → (TJ4 a).2.1 ≠ (TJ4 b).2.1 := by decide +kernel
theorem tyJ4_ok : ∀ k, k < 4 → parseFieldDescriptor (TJ4 k).2.2.1 = some (tyJ4 k) := by decide +kernel
abbrev cJ4_init_da8c8 : ByteArray := prog_34_method_1_code
def yJ4_init_da8c8 : MethodName := ⟨RJ4, "<init>", "()V"⟩
abbrev cJ4_append_15ec4 : ByteArray := prog_34_method_7_code
def yJ4_append_15ec4 : MethodName := ⟨RJ4, "append", "(Ljava/lang/String;)Ljava/lang/StringBuilder;"⟩
abbrev cJ4_append_cf468 : ByteArray := prog_34_method_14_code
def yJ4_append_cf468 : MethodName := ⟨RJ4, "append", "(C)Ljava/lang/StringBuilder;"⟩
abbrev cJ4_append_bf812 : ByteArray := prog_34_method_15_code
def yJ4_append_bf812 : MethodName := ⟨RJ4, "append", "(I)Ljava/lang/StringBuilder;"⟩
abbrev cJ4_toString_0e30d : ByteArray := prog_34_method_42_code
def yJ4_toString_0e30d : MethodName := ⟨RJ4, "toString", "()Ljava/lang/String;"⟩
abbrev cJ4_length_8abf5 : ByteArray := prog_34_method_93_code
def yJ4_length_8abf5 : MethodName := ⟨RJ4, "length", "()I"⟩
def RJ1 : String := "java/lang/StringLatin1"
def TJ1 : u_T := fun k => match k with
  | _ => ("", "", "", false)
def tyJ1 : Nat → FieldType := fun k => match k with
  | _ => .int
abbrev wsJ10 : List Cond := u_ws RJ1 TJ1 0
theorem nmJ1 : ∀ a, a < 0 → ∀ b, b < 0 → a ≠ b → (TJ1 a).2.1 ≠ (TJ1 b).2.1 := by decide +kernel
theorem tyJ1_ok : ∀ k, k < 0 → parseFieldDescriptor (TJ1 k).2.2.1 = some (tyJ1 k) := by decide +kernel
abbrev cJ1_charAt_3b067 : ByteArray := prog_35_method_2_code
def yJ1_charAt_3b067 : MethodName := ⟨RJ1, "charAt", "([BI)C"⟩
abbrev cJ1_canEncode_fc78d : ByteArray := prog_35_method_3_code
def yJ1_canEncode_fc78d : MethodName := ⟨RJ1, "canEncode", "(C)Z"⟩
abbrev cJ1_inflate_0e8fd : ByteArray := prog_35_method_50_code
def yJ1_inflate_0e8fd : MethodName := ⟨RJ1, "inflate", "([BI[BII)V"⟩
def RJ2 : String := "java/lang/StringUTF16"
def TJ2 : u_T := fun k => match k with
  | _ => ("", "", "", false)
def tyJ2 : Nat → FieldType := fun k => match k with
  | _ => .int
abbrev wsJ20 : List Cond := u_ws RJ2 TJ2 0
theorem nmJ2 : ∀ a, a < 0 → ∀ b, b < 0 → a ≠ b → (TJ2 a).2.1 ≠ (TJ2 b).2.1 := by decide +kernel
theorem tyJ2_ok : ∀ k, k < 0 → parseFieldDescriptor (TJ2 k).2.2.1 = some (tyJ2 k) := by decide +kernel
abbrev cJ2_newBytesFor_77867 : ByteArray := prog_36_method_2_code
def yJ2_newBytesFor_77867 : MethodName := ⟨RJ2, "newBytesFor", "(I)[B"⟩
abbrev cJ2_newBytesLength_0f7a4 : ByteArray := prog_36_method_3_code
def yJ2_newBytesLength_0f7a4 : MethodName := ⟨RJ2, "newBytesLength", "(I)I"⟩
abbrev cJ2_putChar_b72d1 : ByteArray := prog_36_method_4_code
def yJ2_putChar_b72d1 : MethodName := ⟨RJ2, "putChar", "([BII)V"⟩
abbrev cJ2_getChar_3b067 : ByteArray := prog_36_method_5_code
def yJ2_getChar_3b067 : MethodName := ⟨RJ2, "getChar", "([BI)C"⟩
abbrev cJ2_length_9d52b : ByteArray := prog_36_method_6_code
def yJ2_length_9d52b : MethodName := ⟨RJ2, "length", "([B)I"⟩
abbrev cJ2_coderFromArrayLen_85cad : ByteArray := prog_36_method_15_code
def yJ2_coderFromArrayLen_85cad : MethodName := ⟨RJ2, "coderFromArrayLen", "([BI)B"⟩
abbrev cJ2_compress_39247 : ByteArray := prog_36_method_17_code
def yJ2_compress_39247 : MethodName := ⟨RJ2, "compress", "([BII)[B"⟩
abbrev cJ2_compress_5af95 : ByteArray := prog_36_method_22_code
def yJ2_compress_5af95 : MethodName := ⟨RJ2, "compress", "([BI[BII)I"⟩
abbrev cJ2_putCharSB_b72d1 : ByteArray := prog_36_method_71_code
def yJ2_putCharSB_b72d1 : MethodName := ⟨RJ2, "putCharSB", "([BII)V"⟩
abbrev cJ2_getChars_46870 : ByteArray := prog_36_method_77_code
def yJ2_getChars_46870 : MethodName := ⟨RJ2, "getChars", "(III[B)I"⟩
abbrev cJ2_putCharsAt_cd4e5 : ByteArray := prog_36_method_81_code
def yJ2_putCharsAt_cd4e5 : MethodName := ⟨RJ2, "putCharsAt", "([BICCCC)I"⟩
abbrev cJ2_charAt_3b067 : ByteArray := prog_36_method_83_code
def yJ2_charAt_3b067 : MethodName := ⟨RJ2, "charAt", "([BI)C"⟩
abbrev cJ2_inflate_0e8fd : ByteArray := prog_36_method_86_code
def yJ2_inflate_0e8fd : MethodName := ⟨RJ2, "inflate", "([BI[BII)V"⟩
abbrev cJ2_getChars_ba4f3 : ByteArray := prog_36_method_89_code
def yJ2_getChars_ba4f3 : MethodName := ⟨RJ2, "getChars", "(II[B)I"⟩
abbrev cJ2_checkIndex_2214a : ByteArray := prog_36_method_91_code
def yJ2_checkIndex_2214a : MethodName := ⟨RJ2, "checkIndex", "(I[B)V"⟩
abbrev cJ2_checkBoundsBeginEnd_d044e : ByteArray := prog_36_method_93_code
def yJ2_checkBoundsBeginEnd_d044e : MethodName := ⟨RJ2, "checkBoundsBeginEnd", "(II[B)V"⟩
abbrev cJ2_checkBoundsOffCount_d044e : ByteArray := prog_36_method_94_code
def yJ2_checkBoundsOffCount_d044e : MethodName := ⟨RJ2, "checkBoundsOffCount", "(II[B)V"⟩
def RJ10 : String := "java/lang/System"
def TJ10 : u_T := fun k => match k with
  | _ => ("", "", "", false)
def tyJ10 : Nat → FieldType := fun k => match k with
  | _ => .int
abbrev wsJ100 : List Cond := u_ws RJ10 TJ10 0
theorem nmJ10 : ∀ a, a < 0 → ∀ b, b < 0 → a ≠ b → (TJ10 a).2.1 ≠ (TJ10 b).2.1 := by decide +kernel
theorem tyJ10_ok : ∀ k, k < 0 → parseFieldDescriptor (TJ10 k).2.2.1 = some (tyJ10 k) := by decide +kernel
def RJxfd54e : String := "java/lang/constant/Constable"
def TJxfd54e : u_T := fun k => match k with
  | _ => ("", "", "", false)
def tyJxfd54e : Nat → FieldType := fun k => match k with
  | _ => .int
abbrev wsJxfd54e0 : List Cond := u_ws RJxfd54e TJxfd54e 0
theorem nmJxfd54e : ∀ a, a < 0 → ∀ b, b < 0 → a ≠ b → (TJxfd54e a).2.1 ≠ (TJxfd54e b).2.1 := by decide +kernel
theorem tyJxfd54e_ok : ∀ k, k < 0 → parseFieldDescriptor (TJxfd54e k).2.2.1 = some (tyJxfd54e k) := by decide +kernel
def RJx3cf43 : String := "java/lang/constant/ConstantDesc"
def TJx3cf43 : u_T := fun k => match k with
  | _ => ("", "", "", false)
def tyJx3cf43 : Nat → FieldType := fun k => match k with
  | _ => .int
abbrev wsJx3cf430 : List Cond := u_ws RJx3cf43 TJx3cf43 0
theorem nmJx3cf43 : ∀ a, a < 0 → ∀ b, b < 0 → a ≠ b → (TJx3cf43 a).2.1 ≠ (TJx3cf43 b).2.1 := by decide +kernel
theorem tyJx3cf43_ok : ∀ k, k < 0 → parseFieldDescriptor (TJx3cf43 k).2.2.1 = some (tyJx3cf43 k) := by decide +kernel
def RJxa1e45 : String := "java/util/AbstractCollection"
def TJxa1e45 : u_T := fun k => match k with
  | _ => ("", "", "", false)
def tyJxa1e45 : Nat → FieldType := fun k => match k with
  | _ => .int
abbrev wsJxa1e450 : List Cond := u_ws RJxa1e45 TJxa1e45 0
theorem nmJxa1e45 : ∀ a, a < 0 → ∀ b, b < 0 → a ≠ b → (TJxa1e45 a).2.1 ≠ (TJxa1e45 b).2.1 := by decide +kernel
theorem tyJxa1e45_ok : ∀ k, k < 0 → parseFieldDescriptor (TJxa1e45 k).2.2.1 = some (tyJxa1e45 k) := by decide +kernel
abbrev cJxa1e45_init_da8c8 : ByteArray := prog_41_method_1_code
def yJxa1e45_init_da8c8 : MethodName := ⟨RJxa1e45, "<init>", "()V"⟩
def RJxc12de : String := "java/util/AbstractList"
def TJxc12de : u_T := fun k => match k with
  | _ => ("", "", "", false)
def tyJxc12de : Nat → FieldType := fun k => match k with
  | _ => .int
abbrev wsJxc12de0 : List Cond := u_ws RJxc12de TJxc12de 0
theorem nmJxc12de : ∀ a, a < 0 → ∀ b, b < 0 → a ≠ b → (TJxc12de a).2.1 ≠ (TJxc12de b).2.1 := by decide +kernel
theorem tyJxc12de_ok : ∀ k, k < 0 → parseFieldDescriptor (TJxc12de k).2.2.1 = some (tyJxc12de k) := by decide +kernel
abbrev cJxc12de_init_da8c8 : ByteArray := prog_42_method_1_code
def yJxc12de_init_da8c8 : MethodName := ⟨RJxc12de, "<init>", "()V"⟩
def RJx35411 : String := "java/util/ArrayList$Itr"
def TJx35411 : u_T := fun k => match k with
  | 0 => ("java/util/ArrayList$Itr", "cursor", "I", false)
  | 1 => ("java/util/ArrayList$Itr", "lastRet", "I", false)
  | 2 => ("java/util/ArrayList$Itr", "expectedModCount", "I", false)
  | _ => ("java/util/ArrayList$Itr", "this$0", "Ljava/util/ArrayList;", true)
def tyJx35411 : Nat → FieldType := fun k => match k with
  | 0 => .int
  | 1 => .int
  | 2 => .int
  | _ => .object "java/util/ArrayList"
abbrev wsJx354110 : List Cond := u_ws RJx35411 TJx35411 4
theorem nmJx35411 : ∀ a, a < 4 → ∀ b, b < 4 → a ≠ b → (TJx35411 a).2.1 ≠ (TJx35411 b).2.1 := by decide +kernel
theorem tyJx35411_ok : ∀ k, k < 4 → parseFieldDescriptor (TJx35411 k).2.2.1 = some (tyJx35411 k) := by decide +kernel
abbrev cJx35411_init_45d68 : ByteArray := prog_44_method_1_code
def yJx35411_init_45d68 : MethodName := ⟨RJx35411, "<init>", "(Ljava/util/ArrayList;)V"⟩
abbrev cJx35411_hasNext_aae02 : ByteArray := prog_44_method_2_code
def yJx35411_hasNext_aae02 : MethodName := ⟨RJx35411, "hasNext", "()Z"⟩
abbrev cJx35411_next_0502b : ByteArray := prog_44_method_3_code
def yJx35411_next_0502b : MethodName := ⟨RJx35411, "next", "()Ljava/lang/Object;"⟩
abbrev cJx35411_checkForComodification_da8c8 : ByteArray := prog_44_method_6_code
def yJx35411_checkForComodification_da8c8 : MethodName := ⟨RJx35411, "checkForComodification", "()V"⟩
def RJx4a65c : String := "java/util/ArrayList"
def TJx4a65c : u_T := fun k => match k with
  | 0 => ("java/util/AbstractList", "modCount", "I", false)
  | 1 => ("java/util/ArrayList", "elementData", "[Ljava/lang/Object;", false)
  | _ => ("java/util/ArrayList", "size", "I", false)
def tyJx4a65c : Nat → FieldType := fun k => match k with
  | 0 => .int
  | 1 => .array (.object "java/lang/Object")
  | _ => .int
abbrev wsJx4a65c0 : List Cond := u_ws RJx4a65c TJx4a65c 3
theorem nmJx4a65c : ∀ a, a < 3 → ∀ b, b < 3 → a ≠ b → (TJx4a65c a).2.1 ≠ (TJx4a65c b).2.1 := by decide +kernel
theorem tyJx4a65c_ok : ∀ k, k < 3 → parseFieldDescriptor (TJx4a65c k).2.2.1 = some (tyJx4a65c k) := by decide +kernel
abbrev cJx4a65c_init_da8c8 : ByteArray := prog_43_method_2_code
def yJx4a65c_init_da8c8 : MethodName := ⟨RJx4a65c, "<init>", "()V"⟩
abbrev cJx4a65c_grow_92f84 : ByteArray := prog_43_method_6_code
def yJx4a65c_grow_92f84 : MethodName := ⟨RJx4a65c, "grow", "(I)[Ljava/lang/Object;"⟩
abbrev cJx4a65c_grow_d5877 : ByteArray := prog_43_method_7_code
def yJx4a65c_grow_d5877 : MethodName := ⟨RJx4a65c, "grow", "()[Ljava/lang/Object;"⟩
abbrev cJx4a65c_size_8abf5 : ByteArray := prog_43_method_8_code
def yJx4a65c_size_8abf5 : MethodName := ⟨RJx4a65c, "size", "()I"⟩
abbrev cJx4a65c_isEmpty_aae02 : ByteArray := prog_43_method_9_code
def yJx4a65c_isEmpty_aae02 : MethodName := ⟨RJx4a65c, "isEmpty", "()Z"⟩
abbrev cJx4a65c_elementData_915e3 : ByteArray := prog_43_method_18_code
def yJx4a65c_elementData_915e3 : MethodName := ⟨RJx4a65c, "elementData", "(I)Ljava/lang/Object;"⟩
abbrev cJx4a65c_get_915e3 : ByteArray := prog_43_method_20_code
def yJx4a65c_get_915e3 : MethodName := ⟨RJx4a65c, "get", "(I)Ljava/lang/Object;"⟩
abbrev cJx4a65c_add_72be8 : ByteArray := prog_43_method_24_code
def yJx4a65c_add_72be8 : MethodName := ⟨RJx4a65c, "add", "(Ljava/lang/Object;[Ljava/lang/Object;I)V"⟩
abbrev cJx4a65c_add_9ea2d : ByteArray := prog_43_method_25_code
def yJx4a65c_add_9ea2d : MethodName := ⟨RJx4a65c, "add", "(Ljava/lang/Object;)Z"⟩
abbrev cJx4a65c_iterator_32c93 : ByteArray := prog_43_method_55_code
def yJx4a65c_iterator_32c93 : MethodName := ⟨RJx4a65c, "iterator", "()Ljava/util/Iterator;"⟩
def RJ7 : String := "java/util/Arrays"
def TJ7 : u_T := fun k => match k with
  | _ => ("", "", "", false)
def tyJ7 : Nat → FieldType := fun k => match k with
  | _ => .int
abbrev wsJ70 : List Cond := u_ws RJ7 TJ7 0
theorem nmJ7 : ∀ a, a < 0 → ∀ b, b < 0 → a ≠ b → (TJ7 a).2.1 ≠ (TJ7 b).2.1 := by decide +kernel
theorem tyJ7_ok : ∀ k, k < 0 → parseFieldDescriptor (TJ7 k).2.2.1 = some (tyJ7 k) := by decide +kernel
abbrev cJ7_copyOf_1904c : ByteArray := prog_45_method_119_code
def yJ7_copyOf_1904c : MethodName := ⟨RJ7, "copyOf", "([Ljava/lang/Object;I)[Ljava/lang/Object;"⟩
abbrev cJ7_copyOf_6403c : ByteArray := prog_45_method_120_code
def yJ7_copyOf_6403c : MethodName := ⟨RJ7, "copyOf", "([Ljava/lang/Object;ILjava/lang/Class;)[Ljava/lang/Object;"⟩
abbrev cJ7_copyOf_9075b : ByteArray := prog_45_method_121_code
def yJ7_copyOf_9075b : MethodName := ⟨RJ7, "copyOf", "([BI)[B"⟩
abbrev cJ7_checkLength_df160 : ByteArray := prog_45_method_131_code
def yJ7_checkLength_df160 : MethodName := ⟨RJ7, "checkLength", "(II)V"⟩
abbrev cJ7_copyOfRange_39247 : ByteArray := prog_45_method_132_code
def yJ7_copyOfRange_39247 : MethodName := ⟨RJ7, "copyOfRange", "([BII)[B"⟩
abbrev cJ7_copyOfRangeByte_39247 : ByteArray := prog_45_method_133_code
def yJ7_copyOfRangeByte_39247 : MethodName := ⟨RJ7, "copyOfRangeByte", "([BII)[B"⟩
def RJx5ef63 : String := "java/util/Collection"
def TJx5ef63 : u_T := fun k => match k with
  | _ => ("", "", "", false)
def tyJx5ef63 : Nat → FieldType := fun k => match k with
  | _ => .int
abbrev wsJx5ef630 : List Cond := u_ws RJx5ef63 TJx5ef63 0
theorem nmJx5ef63 : ∀ a, a < 0 → ∀ b, b < 0 → a ≠ b → (TJx5ef63 a).2.1 ≠ (TJx5ef63 b).2.1 := by decide +kernel
theorem tyJx5ef63_ok : ∀ k, k < 0 → parseFieldDescriptor (TJx5ef63 k).2.2.1 = some (tyJx5ef63 k) := by decide +kernel
def RJx4d0d8 : String := "java/util/Iterator"
def TJx4d0d8 : u_T := fun k => match k with
  | _ => ("", "", "", false)
def tyJx4d0d8 : Nat → FieldType := fun k => match k with
  | _ => .int
abbrev wsJx4d0d80 : List Cond := u_ws RJx4d0d8 TJx4d0d8 0
theorem nmJx4d0d8 : ∀ a, a < 0 → ∀ b, b < 0 → a ≠ b → (TJx4d0d8 a).2.1 ≠ (TJx4d0d8 b).2.1 := by decide +kernel
theorem tyJx4d0d8_ok : ∀ k, k < 0 → parseFieldDescriptor (TJx4d0d8 k).2.2.1 = some (tyJx4d0d8 k) := by decide +kernel
def RJxbd725 : String := "java/util/List"
def TJxbd725 : u_T := fun k => match k with
  | _ => ("", "", "", false)
def tyJxbd725 : Nat → FieldType := fun k => match k with
  | _ => .int
abbrev wsJxbd7250 : List Cond := u_ws RJxbd725 TJxbd725 0
theorem nmJxbd725 : ∀ a, a < 0 → ∀ b, b < 0 → a ≠ b → (TJxbd725 a).2.1 ≠ (TJxbd725 b).2.1 := by decide +kernel
theorem tyJxbd725_ok : ∀ k, k < 0 → parseFieldDescriptor (TJxbd725 k).2.2.1 = some (tyJxbd725 k) := by decide +kernel
def RJ15 : String := "java/util/Objects"
def TJ15 : u_T := fun k => match k with
  | _ => ("", "", "", false)
def tyJ15 : Nat → FieldType := fun k => match k with
  | _ => .int
abbrev wsJ150 : List Cond := u_ws RJ15 TJ15 0
theorem nmJ15 : ∀ a, a < 0 → ∀ b, b < 0 → a ≠ b → (TJ15 a).2.1 ≠ (TJ15 b).2.1 := by decide +kernel
theorem tyJ15_ok : ∀ k, k < 0 → parseFieldDescriptor (TJ15 k).2.2.1 = some (tyJ15 k) := by decide +kernel
abbrev cJ15_checkIndex_7cf53 : ByteArray := prog_49_method_17_code
def yJ15_checkIndex_7cf53 : MethodName := ⟨RJ15, "checkIndex", "(II)I"⟩
def RJxf0a74 : String := "java/util/RandomAccess"
def TJxf0a74 : u_T := fun k => match k with
  | _ => ("", "", "", false)
def tyJxf0a74 : Nat → FieldType := fun k => match k with
  | _ => .int
abbrev wsJxf0a740 : List Cond := u_ws RJxf0a74 TJxf0a74 0
theorem nmJxf0a74 : ∀ a, a < 0 → ∀ b, b < 0 → a ≠ b → (TJxf0a74 a).2.1 ≠ (TJxf0a74 b).2.1 := by decide +kernel
theorem tyJxf0a74_ok : ∀ k, k < 0 → parseFieldDescriptor (TJxf0a74 k).2.2.1 = some (tyJxf0a74 k) := by decide +kernel
def RJxa66e6 : String := "java/util/SequencedCollection"
def TJxa66e6 : u_T := fun k => match k with
  | _ => ("", "", "", false)
def tyJxa66e6 : Nat → FieldType := fun k => match k with
  | _ => .int
abbrev wsJxa66e60 : List Cond := u_ws RJxa66e6 TJxa66e6 0
theorem nmJxa66e6 : ∀ a, a < 0 → ∀ b, b < 0 → a ≠ b → (TJxa66e6 a).2.1 ≠ (TJxa66e6 b).2.1 := by decide +kernel
theorem tyJxa66e6_ok : ∀ k, k < 0 → parseFieldDescriptor (TJxa66e6 k).2.2.1 = some (tyJxa66e6 k) := by decide +kernel
def RJ8 : String := "jdk/internal/util/ArraysSupport"
def TJ8 : u_T := fun k => match k with
  | _ => ("", "", "", false)
def tyJ8 : Nat → FieldType := fun k => match k with
  | _ => .int
abbrev wsJ80 : List Cond := u_ws RJ8 TJ8 0
theorem nmJ8 : ∀ a, a < 0 → ∀ b, b < 0 → a ≠ b → (TJ8 a).2.1 ≠ (TJ8 b).2.1 := by decide +kernel
theorem tyJ8_ok : ∀ k, k < 0 → parseFieldDescriptor (TJ8 k).2.2.1 = some (tyJ8 k) := by decide +kernel
abbrev cJ8_newLength_cabcc : ByteArray := prog_52_method_27_code
def yJ8_newLength_cabcc : MethodName := ⟨RJ8, "newLength", "(III)I"⟩
abbrev cJ8_hugeLength_7cf53 : ByteArray := prog_52_method_28_code
def yJ8_hugeLength_7cf53 : MethodName := ⟨RJ8, "hugeLength", "(II)I"⟩
def RJ3 : String := "jdk/internal/util/Preconditions"
def TJ3 : u_T := fun k => match k with
  | _ => ("", "", "", false)
def tyJ3 : Nat → FieldType := fun k => match k with
  | _ => .int
abbrev wsJ30 : List Cond := u_ws RJ3 TJ3 0
theorem nmJ3 : ∀ a, a < 0 → ∀ b, b < 0 → a ≠ b → (TJ3 a).2.1 ≠ (TJ3 b).2.1 := by decide +kernel
theorem tyJ3_ok : ∀ k, k < 0 → parseFieldDescriptor (TJ3 k).2.2.1 = some (tyJ3 k) := by decide +kernel
abbrev cJ3_checkIndex_8e157 : ByteArray := prog_53_method_11_code
def yJ3_checkIndex_8e157 : MethodName := ⟨RJ3, "checkIndex", "(IILjava/util/function/BiFunction;)I"⟩
abbrev cJ3_checkFromToIndex_8c36e : ByteArray := prog_53_method_12_code
def yJ3_checkFromToIndex_8c36e : MethodName := ⟨RJ3, "checkFromToIndex", "(IIILjava/util/function/BiFunction;)I"⟩
abbrev cJ3_checkFromIndexSize_8c36e : ByteArray := prog_53_method_13_code
def yJ3_checkFromIndexSize_8c36e : MethodName := ⟨RJ3, "checkFromIndexSize", "(IIILjava/util/function/BiFunction;)I"⟩
def RL : String := "WaveUpgradeLaw"
abbrev cL_cell : ByteArray := method_2_code
def yL_cell : MethodName := ⟨RL, "cell", "([II)I"⟩
abbrev cL_pick : ByteArray := method_3_code
def yL_pick : MethodName := ⟨RL, "pick", "([III)I"⟩
abbrev cL_feeds : ByteArray := method_4_code
def yL_feeds : MethodName := ⟨RL, "feeds", "(LWaveUpgrade;Ljava/lang/String;)Z"⟩
abbrev cL_alike : ByteArray := method_5_code
def yL_alike : MethodName := ⟨RL, "alike", "(LWaveUpgrade;LWaveUpgradeLaw$World;)Z"⟩
abbrev cL_acts : ByteArray := method_6_code
def yL_acts : MethodName := ⟨RL, "acts", "(LWaveUpgrade;LWaveUpgradeLaw$World;[II)Z"⟩
abbrev cL_law : ByteArray := code
def yL_law : MethodName := ⟨RL, "law", "([I)Z"⟩
abbrev cL_holds : ByteArray := method_8_code
def yL_holds : MethodName := ⟨RL, "holds", "(LWaveUpgrade;LWaveUpgradeLaw$World;)Z"⟩
abbrev cL_begins : ByteArray := method_9_code
def yL_begins : MethodName := ⟨RL, "begins", "(LWaveUpgrade;LWaveUpgradeLaw$World;[II)Z"⟩
abbrev cL_ends : ByteArray := method_10_code
def yL_ends : MethodName := ⟨RL, "ends", "(LWaveUpgrade;LWaveUpgradeLaw$World;)Z"⟩
end
section
/-! ===== THE PURE MACHINE: heaps as four maps over numbered cells, one step of a method's code as a transformer of propositions ===== -/
abbrev PH : Type := (Nat → Nat → Int32) × (Nat → Nat → Int64) × (Nat → Nat → Option Nat) × (Nat → Nat → Nat)
def gi (h : PH) (a k : Nat) : Int32 := h.1 a k
def gl (h : PH) (a k : Nat) : Int64 := h.2.1 a k
def gr (h : PH) (a k : Nat) : Option Nat := h.2.2.1 a k
def gd (h : PH) (a k : Nat) : Nat := h.2.2.2 a k
def up2 {α : Type} (f : Nat → Nat → α) (a k : Nat) (x : α) : Nat → Nat → α := fun b j => if b = a then (if j = k then x else f b j) else f b j
def si (h : PH) (a k : Nat) (x : Int32) : PH := (up2 h.1 a k x, h.2)
def sl (h : PH) (a k : Nat) (x : Int64) : PH := (h.1, up2 h.2.1 a k x, h.2.2)
def sr (h : PH) (a k : Nat) (x : Option Nat) : PH := (h.1, h.2.1, up2 h.2.2.1 a k x, h.2.2.2)
def sd (h : PH) (a k : Nat) (x : Nat) : PH := (h.1, h.2.1, h.2.2.1, up2 h.2.2.2 a k x)
/-- n ints of the array a from place sp on, copied to the array b at place dp -/
def cpi (h : PH) (a sp b dp n : Nat) : PH := (fun c => if c = b then va_cpy (h.1 a) (h.1 b) sp dp n else h.1 c, h.2)
def cpl (h : PH) (a sp b dp n : Nat) : PH := (h.1, fun c => if c = b then va_cpy (h.2.1 a) (h.2.1 b) sp dp n else h.2.1 c, h.2.2)
/-- a cell's kind: an object (its class's number, its references by slot) or an array (its type's number, its length) -/
abbrev Kd : Type := (Nat × List (Option Nat)) ⊕ (Nat × Nat)
abbrev Res : Type := Option Value ⊕ Nat
abbrev Lc : Type := List (Option Value)
/-- a method: name, code, locals, answer, frames that it needs above itself, words of locals, exceptions that it may make -/
abbrev MI : Type := MethodName × ByteArray × Nat × Option FieldType × Nat × Nat × Nat × List (Nat × Nat × Nat × Nat) × Nat
def MI.y (M : MI) : MethodName := M.1
def MI.b (M : MI) : ByteArray := M.2.1
def MI.nl (M : MI) : Nat := M.2.2.1
def MI.ret (M : MI) : Option FieldType := M.2.2.2.1
def MI.fr (M : MI) : Nat := M.2.2.2.2.1
def MI.lo (M : MI) : Nat := M.2.2.2.2.2.1
def MI.cap (M : MI) : Nat := M.2.2.2.2.2.2.1
def MI.hh (M : MI) : List (Nat × Nat × Nat × Nat) := M.2.2.2.2.2.2.2.1
/-- 0 an instance method, 1 a static one, 2 a static one with handlers -/
def MI.sk (M : MI) : Nat := M.2.2.2.2.2.2.2.2
/-- a row of a method's code: place, instruction, length, numbers resolved ahead, the method that it calls -/
abbrev En : Type := Nat × Instr × Nat × List Nat × List MI
def cI : Int → Int32
  | .ofNat n => nI n
  | .negSucc n => -(nI (n + 1))
def isB (x : Int32) : Prop := x = 0 ∨ x = 1
def lget (ls : Lc) (i : Nat) : Option Value := ls.getD i none
def lclr (ls : Lc) : Nat → Lc
  | 0 => ls
  | j + 1 => match ls.getD j none with
    | some w => match w.category with
      | 2 => ls.set j none
      | _ => ls
    | none => ls
def lput1 (ls : Lc) (i : Nat) (v : Value) : Lc := (lclr ls i).set i (some v)
def lput2 (ls : Lc) (i : Nat) (v : Value) : Lc := ((lclr ls i).set i (some v)).set (i + 1) none
def lput0 (ls : Lc) (i : Nat) : Lc := (lclr ls i).set i none
def rf1 : Option Nat → Value
  | none => .null
  | some a => .ref a
abbrev KT : Type := Nat → Nat → Lc → List Value → PH → Prop
/-- what a call gives back to its caller: rV, rI, rL .. by the sort of its answer; q: where an exception goes -/
def rV (q : Nat → PH → Prop) (kk : PH → Prop) : Res → PH → Prop
  | .inl none, h => kk h
  | .inl (some _), _ => False
  | .inr e, h => q e h
def rI (q : Nat → PH → Prop) (kk : Int32 → PH → Prop) : Res → PH → Prop
  | .inl (some (.int x)), h => kk x h
  | .inl _, _ => False
  | .inr e, h => q e h
def rL (q : Nat → PH → Prop) (kk : Int64 → PH → Prop) : Res → PH → Prop
  | .inl (some (.long x)), h => kk x h
  | .inl _, _ => False
  | .inr e, h => q e h
def rF (q : Nat → PH → Prop) (kk : UInt32 → PH → Prop) : Res → PH → Prop
  | .inl (some (.float x)), h => kk x h
  | .inl _, _ => False
  | .inr e, h => q e h
def rD (q : Nat → PH → Prop) (kk : UInt64 → PH → Prop) : Res → PH → Prop
  | .inl (some (.double x)), h => kk x h
  | .inl _, _ => False
  | .inr e, h => q e h
/-- java.lang.Math.floorMod -/
def fmV (x y : Int32) : Int32 := if 0 ≤ x ^^^ y then x - x / y * y else if x - x / y * y = 0 then x - x / y * y else (x - x / y * y) + y
/-- a reference's answer, or null -/
def rA (q : Nat → PH → Prop) (k1 : Nat → PH → Prop) (k2 : PH → Prop) : Res → PH → Prop
  | .inl (some (.ref x)), h => k1 x h
  | .inl (some .null), h => k2 h
  | .inl _, _ => False
  | .inr e, h => q e h
/-- the cells of the world, by number -/
def KSS : List (List Kd) := [
  [.inl (8, [some 1, some 60, some 67, some 74, some 81, none, some 13, some 4, some 5, some 3, none]), .inl (7, [some 2, none, none, none, none, none, none, none, none]), .inr (1, 900), .inr (1, 336), .inl (0, [some 1, some 74, some 30, none]), .inl (5, [some 6, some 7, some 8, some 9, some 10, none, some 11, some 12, none, none]), .inr (5, 30), .inr (0, 30), .inr (0, 30), .inr (0, 30), .inr (0, 30), .inr (0, 2), .inr (0, 2), .inl (2, [some 14, none, none]), .inr (4, 6), .inl (3, [some 16, some 18, some 19, some 20, some 21, some 23, some 24, some 25, some 26, some 28, some 29, none, none, none, none, none, none, none])],
  [.inl (4, [some 17, none]), .inr (2, 8), .inr (0, 8), .inr (0, 8), .inr (0, 8), .inl (4, [some 22, none]), .inr (2, 5), .inr (0, 5), .inr (0, 5), .inr (0, 5), .inl (4, [some 27, none]), .inr (2, 12), .inr (0, 12), .inr (0, 12), .inl (3, [some 31, some 33, some 34, some 35, some 36, some 38, some 39, some 40, some 41, some 43, some 44, none, none, none, none, none, none, none]), .inl (4, [some 32, none])],
  [.inr (2, 8), .inr (0, 8), .inr (0, 8), .inr (0, 8), .inl (4, [some 37, none]), .inr (2, 5), .inr (0, 5), .inr (0, 5), .inr (0, 5), .inl (4, [some 42, none]), .inr (2, 12), .inr (0, 12), .inr (0, 12), .inl (3, [some 46, some 48, some 49, some 50, some 51, some 53, some 54, some 55, some 56, some 58, some 59, none, none, none, none, none, none, none]), .inl (4, [some 47, none]), .inr (2, 8)],
  [.inr (0, 8), .inr (0, 8), .inr (0, 8), .inl (4, [some 52, none]), .inr (2, 5), .inr (0, 5), .inr (0, 5), .inr (0, 5), .inl (4, [some 57, none]), .inr (2, 12), .inr (0, 12), .inr (0, 12), .inl (6, [some 15, none, none, some 61, some 62, some 63, some 64, none, none, none, none, none, none, none, none, some 65]), .inr (0, 12), .inr (0, 12), .inr (0, 12)],
  [.inr (0, 12), .inl (1, [some 66, none, none]), .inr (0, 120), .inl (6, [some 15, none, none, some 68, some 69, some 70, some 71, none, none, none, none, none, none, none, none, some 72]), .inr (0, 12), .inr (0, 12), .inr (0, 12), .inr (0, 12), .inl (1, [some 73, none, none]), .inr (0, 120), .inl (6, [some 30, none, none, some 75, some 76, some 77, some 78, none, none, none, none, none, none, none, none, some 79]), .inr (0, 12), .inr (0, 12), .inr (0, 12), .inr (0, 12), .inl (1, [some 80, none, none])],
  [.inr (0, 120), .inl (6, [some 45, none, none, some 82, some 83, some 84, some 85, none, none, none, none, none, none, none, none, some 86]), .inr (0, 12), .inr (0, 12), .inr (0, 12), .inr (0, 12), .inl (1, [some 87, none, none]), .inr (0, 120), .inl (6, [some 15, none, none, some 89, some 90, some 91, some 92, none, none, none, none, none, none, none, none, some 93]), .inr (0, 12), .inr (0, 12), .inr (0, 12), .inr (0, 12), .inl (1, [some 94, none, none]), .inr (0, 120), .inl (6, [some 15, none, none, some 96, some 97, some 98, some 99, none, none, none, none, none, none, none, none, some 100])],
  [.inr (0, 12), .inr (0, 12), .inr (0, 12), .inr (0, 12), .inl (1, [some 101, none, none]), .inr (0, 120), .inl (6, [some 15, none, none, some 103, some 104, some 105, some 106, none, none, none, none, none, none, none, none, some 107]), .inr (0, 12), .inr (0, 12), .inr (0, 12), .inr (0, 12), .inl (1, [some 108, none, none]), .inr (0, 120), .inl (6, [some 15, none, none, some 110, some 111, some 112, some 113, none, none, none, none, none, none, none, none, some 114]), .inr (0, 12), .inr (0, 12)],
  [.inr (0, 12), .inr (0, 12), .inl (1, [some 115, none, none]), .inr (0, 120), .inl (6, [some 15, none, none, some 117, some 118, some 119, some 120, none, none, none, none, none, none, none, none, some 121]), .inr (0, 12), .inr (0, 12), .inr (0, 12), .inr (0, 12), .inl (1, [some 122, none, none]), .inr (0, 120), .inl (6, [some 15, none, none, some 124, some 125, some 126, some 127, none, none, none, none, none, none, none, none, some 128]), .inr (0, 12), .inr (0, 12), .inr (0, 12), .inr (0, 12)],
  [.inl (1, [some 129, none, none]), .inr (0, 120)]]
def NK : Nat := 130
def kd (a : Nat) : Option Kd := (KSS.getD (a / 16) [])[a % 16]?
/-- by class: the sort of each slot: 0 an int or a boolean, 1 a long, 2 a reference -/
def fso : Nat → List Nat
  | 0 => [2, 2, 2, 0]
  | 1 => [2, 0, 0]
  | 2 => [2, 0, 0]
  | 3 => [2, 2, 2, 2, 2, 2, 2, 2, 2, 2, 2, 0, 0, 0, 0, 0, 0, 0]
  | 4 => [2, 0]
  | 5 => [2, 2, 2, 2, 2, 0, 2, 2, 0, 0]
  | 6 => [2, 0, 0, 2, 2, 2, 2, 0, 0, 0, 0, 0, 0, 0, 0, 2]
  | 7 => [2, 0, 0, 0, 0, 0, 1, 0, 0]
  | 8 => [2, 2, 2, 2, 2, 0, 2, 2, 2, 2, 0]
  | _ => []
def obC (a ci : Nat) : Bool := match kd a with
  | some (.inl (c, _)) => Nat.beq c ci
  | _ => false
def obR (a k : Nat) : Option Nat := match kd a with
  | some (.inl (_, rs)) => rs.getD k none
  | _ => none
def arN (a t : Nat) : Option Nat := match kd a with
  | some (.inr (u, n)) => match Nat.beq u t with
    | true => some n
    | false => none
  | _ => none
def arL (a : Nat) : Option Nat := match kd a with
  | some (.inr (_, n)) => some n
  | _ => none
/-- the constants: statements 1000.., commands 1020.., their words 1040.., 1060.. and "held" 1084, the words' bytes 60 further on, ALL 1080 and 1081, the switch maps 1082 and 1083 -/
def cOk (a ci : Nat) : Prop := (ci = 20 ∧ 1000 ≤ a ∧ a < 1012) ∨ (ci = 21 ∧ 1020 ≤ a ∧ a < 1020) ∨ (ci = 22 ∧ ((1040 ≤ a ∧ a < 1052) ∨ (1060 ≤ a ∧ a < 1060) ∨ a = 1084))
/-- 0 ints, 1 bytes, 4 statements, 5 commands -/
def cAr (b t : Nat) : Prop := (t = 0 ∧ (b = 1082 ∨ (b = 1083 ∧ b = 0))) ∨ (t = 1 ∧ ((1100 ≤ b ∧ b < 1112) ∨ (1120 ≤ b ∧ b < 1120) ∨ b = 1144)) ∨ (t = 4 ∧ b = 1080) ∨ (t = 5 ∧ b = 1081 ∧ b = 0)
def cI1 (k : Nat) (l : List Int32) : Int32 := l.getD k 0
/-- the int fields of constants: of a statement 1 mark, 2 least, 3 most; of a command 1 hasMember, 2 hasVersion, 3 least, 4 most; 9 ordinal -/
def cfv (a j : Nat) : Int32 := match Nat.blt a 1020 with
  | true => match j with
    | 1 => cI1 (a - 1000) [0, 0, 0, 0, 0, 0, 1, 2, 4, 8, 16, 32]
    | 2 => cI1 (a - 1000) [0, 0, 0, 0, 0, 0, 1, 0, 1, 1, 0, 0]
    | 3 => cI1 (a - 1000) [0, 0, 0, 0, 0, 0, 9, 7, 12, 99, 99, 999]
    | _ => nI (a - 1000)
  | false => match Nat.blt a 1030 with
    | true => match j with
      | 1 => cI1 (a - 1020) [0, 0, 0, 0, 1, 1, 1, 1, 0, 0]
      | 2 => cI1 (a - 1020) [0, 1, 0, 0, 0, 0, 0, 1, 0, 0]
      | 3 => cI1 (a - 1020) [0, 0, 0, 0, 0, 0, 0, 0, 0, 1]
      | 4 => cI1 (a - 1020) [999, (-1), (-1), (-1), (-1), (-1), 999, (-1), 999, 20]
      | _ => nI (a - 1020)
    | false => 0
/-- the reference fields: letters, value -/
def cfr (a : Nat) : Nat := match Nat.blt a 1030 with
  | true => a + 40
  | false => a + 60
/-- the texts of the constants, by place -/
def cTx : List (List Nat) := [[118, 101, 114, 115, 105, 111, 110], [116, 97, 108, 107, 115], [112, 108, 97, 99, 101], [109, 101, 109, 98, 101, 114], [108, 105, 110, 107], [119, 97, 118, 101], [102, 111, 114, 109, 97, 116], [115, 107, 101, 119], [100, 111, 119, 110], [116, 97, 107, 101, 115], [115, 111, 97, 107], [108, 105, 109, 105, 116], [112, 97, 115, 115], [115, 116, 97, 114, 116], [115, 116, 111, 112], [103, 111], [104, 111, 108, 100], [102, 114, 101, 101], [114, 101, 112, 111, 114, 116], [99, 104, 97, 110, 103, 101], [99, 111, 109, 109, 105, 116], [114, 101, 112, 101, 97, 116], [104, 101, 108, 100]]
/-- the place of a bytes' cell among the texts -/
def cTi (b : Nat) : Nat := match Nat.blt b 1112 with
  | true => b - 1100
  | false => match Nat.blt b 1130 with
    | true => b - 1120 + 12
    | false => 22
def cln (b : Nat) : Nat := match b with
  | 1080 => 12
  | 1081 => 10
  | 1082 => 12
  | 1083 => 10
  | b => (cTx.getD (cTi b) []).length
def cby (b j : Nat) : Int32 := nI ((cTx.getD (cTi b) []).getD j 0)
def csw (b j : Nat) : Int32 := match Nat.beq b 1082 with
  | true => cI1 j [1, 8, 2, 3, 5, 4, 6, 7, 9, 10, 11, 0]
  | false => cI1 j [1, 2, 3, 4, 5, 6, 7, 8, 9, 0]
def cel (b j : Nat) : Nat := match Nat.beq b 1080 with
  | true => 1000 + j
  | false => 1020 + j
/-- a constant's field: owner, name, descriptor, whether it is a reference -/
def cFld (ci j : Nat) : Option (String × String × String × Bool) := match ci, j with
  | 20, 0 => some ("WaveUpgrade$Statement", "letters", "Ljava/lang/String;", true)
  | 20, 1 => some ("WaveUpgrade$Statement", "mark", "I", false)
  | 20, 2 => some ("WaveUpgrade$Statement", "least", "I", false)
  | 20, 3 => some ("WaveUpgrade$Statement", "most", "I", false)
  | 20, 9 => some ("java/lang/Enum", "ordinal", "I", false)
  | 21, 0 => some ("WaveUpgrade$Command", "letters", "Ljava/lang/String;", true)
  | 21, 1 => some ("WaveUpgrade$Command", "hasMember", "Z", false)
  | 21, 2 => some ("WaveUpgrade$Command", "hasVersion", "Z", false)
  | 21, 3 => some ("WaveUpgrade$Command", "least", "I", false)
  | 21, 4 => some ("WaveUpgrade$Command", "most", "I", false)
  | 21, 9 => some ("java/lang/Enum", "ordinal", "I", false)
  | 22, 0 => some ("java/lang/String", "value", "[B", true)
  | 22, 1 => some ("java/lang/String", "coder", "B", false)
  | _, _ => none
def cNm (ci : Nat) : String := match ci with
  | 20 => "WaveUpgrade$Statement"
  | 21 => "WaveUpgrade$Command"
  | _ => "java/lang/String"
/-- static fields: class, name, descriptor, the constant (or 0 for an int 1) -/
def cSt (i : Nat) : Option (String × String × String) := match i with
  | 0 => some ("java/lang/String", "COMPACT_STRINGS", "Z")
  | 1080 => some ("WaveUpgrade$Statement", "ALL", "[LWaveUpgrade$Statement;")
  | 1082 => some ("WaveUpgrade$1", "$SwitchMap$WaveUpgrade$Statement", "[I")
  | _ => none
end
section
/-! ===== one step ===== -/
/-- where an exception of a call goes: hs: for each kind of exception the place behind the handler's store and the store's local (0: no handler) -/
def hnd (Q : Res → PH → Prop) (a : KT) (c : Nat) (ls : Lc) (hs : List Nat) : Nat → PH → Prop := fun e h => match hs with
  | [] => Q (.inr e) h
  | hs => match hs.getD (2 * e) 0 with
    | 0 => Q (.inr e) h
    | ha => a ha c (lput0 ls (hs.getD (2 * e + 1) 0)) [] h
/-- a switch's cases: from v on -/
def swc (k : KT) (x : Int32) (c : Nat) (ls : Lc) (st : List Value) (h : PH) : Nat → List Nat → Prop
  | _, [] => True
  | v, t :: ts => (x = nI v → k t c ls st h) ∧ swc k x c ls st h (v + 1) ts
/-- what stays on the stack over a call is small -/
def cat8 (st : List Value) (P : Prop) : Prop := match Nat.ble ((st.map (fun v => v.category)).sum) 8 with
  | true => P
  | false => False
def len9 (n : Nat) (st : List Value) (P : Prop) : Prop := match Nat.ble n st.length with
  | true => P
  | false => False
def capk (c mcv cap : Nat) (P : Prop) : Prop := match mcv with
  | 0 => P
  | _ => c + mcv ≤ cap ∧ P
def conk (rt : Nat) (q : Nat → PH → Prop) (kk : List Value → PH → Prop) : Res → PH → Prop := match rt with
  | 0 => rV q (fun h => kk [] h)
  | 1 => rI q (fun x h => kk [.int x] h)
  | 2 => rL q (fun x h => kk [.long x] h)
  | 3 => rF q (fun x h => kk [.float x] h)
  | 4 => rD q (fun x h => kk [.double x] h)
  | _ => rA q (fun x h => kk [.ref x] h) (fun h => kk [.null] h)
def obIf (b ci : Nat) (P : Prop) : Prop := match obC b ci with
  | true => P
  | false => False
/-- a call: mp is 'MetPM' -/
def stc (mp : MI → List Value → PH → (Res → PH → Prop) → Prop) (M : MI) (Q : Res → PH → Prop) (a k : KT) (pc : Nat) (M' : MI) (kind n rt rc mcv : Nat) (hs : List Nat) (c : Nat) (ls : Lc) (st : List Value) (h : PH) : Prop :=
  match kind with
  | 0 => match st.drop n with
    | .ref b :: rest => obIf b rc <| cat8 rest <| capk c mcv M.cap (mp M' (.ref b :: (st.take n).reverse) h (conk rt (hnd Q a (c + mcv) ls hs) (fun vs h' => k (pc + 3) (c + mcv) ls (vs ++ rest) h')))
    | _ => False
  | 5 => match st.drop n with
    | .ref b :: rest => cOk b rc ∧ (cat8 rest <| capk c mcv M.cap (mp M' (.ref b :: (st.take n).reverse) h (conk rt (hnd Q a (c + mcv) ls hs) (fun vs h' => k (pc + 3) (c + mcv) ls (vs ++ rest) h'))))
    | _ => False
  | _ => len9 n st <| cat8 (st.drop n) <| capk c mcv M.cap (mp M' (st.take n).reverse h (conk rt (hnd Q a (c + mcv) ls hs) (fun vs h' => k (pc + 3) (c + mcv) ls (vs ++ st.drop n) h')))
/-- the JDK's own, by number -/
def stb (M : MI) (k : KT) (pc : Nat) (kind : Nat) (c : Nat) (ls : Lc) (st : List Value) (h : PH) : Prop :=
  match kind with
  | 20 => match st with
    | .ref a :: r => cOk a 20 ∧ cat8 r (k (pc + 3) c ls (.int (cfv a 9) :: r) h)
    | _ => False
  | 21 => match st with
    | .ref a :: r => cOk a 21 ∧ cat8 r (k (pc + 3) c ls (.int (cfv a 9) :: r) h)
    | _ => False
  | 10 => match st with
    | .int y :: .int x :: r => cat8 r <| k (pc + 3) c ls (.int (if y < x then y else x) :: r) h
    | _ => False
  | 11 => match st with
    | .int y :: .int x :: r => cat8 r <| k (pc + 3) c ls (.int (if x < y then y else x) :: r) h
    | _ => False
  | 12 => match st with
    | .int x :: r => cat8 r <| k (pc + 3) c ls (.int (if 0 ≤ x then x else 0 - x) :: r) h
    | _ => False
  | 13 => match st with
    | .int y :: .int x :: r => (¬ y = 0) ∧ cat8 r (k (pc + 3) c ls (.int (fmV x y) :: r) h)
    | _ => False
  | 15 => match st with
    | .int n :: .int dp :: .ref b :: .int sp :: .ref a :: r => match arN a 0, arN b 0 with
      | some n0, some n1 => cat8 r <| (¬ sp < 0 ∧ ¬ dp < 0 ∧ ¬ n < 0 ∧ sp.toNatClampNeg + n.toNatClampNeg ≤ n0 ∧ dp.toNatClampNeg + n.toNatClampNeg ≤ n1) ∧ k (pc + 3) c ls r (cpi h a sp.toNatClampNeg b dp.toNatClampNeg n.toNatClampNeg)
      | _, _ => False
    | _ => False
  | 16 => match st with
    | .int n :: .int dp :: .ref b :: .int sp :: .ref a :: r => match arN a 2, arN b 2 with
      | some n0, some n1 => cat8 r <| (¬ sp < 0 ∧ ¬ dp < 0 ∧ ¬ n < 0 ∧ sp.toNatClampNeg + n.toNatClampNeg ≤ n0 ∧ dp.toNatClampNeg + n.toNatClampNeg ≤ n1) ∧ k (pc + 3) c ls r (cpl h a sp.toNatClampNeg b dp.toNatClampNeg n.toNatClampNeg)
      | _, _ => False
    | _ => False
  | _ => False
/-- loads: q 0 int, 1 long, 2 float, 3 double, 4 a reference -/
def stl (k : KT) (q pc c : Nat) (ls : Lc) (st : List Value) (h : PH) (i : Nat) : Prop := match q with
  | 0 => match lget ls i with
    | some (.int x) => k pc c ls (.int x :: st) h
    | _ => False
  | 1 => match lget ls i with
    | some (.long x) => k pc c ls (.long x :: st) h
    | _ => False
  | 2 => match lget ls i with
    | some (.float x) => k pc c ls (.float x :: st) h
    | _ => False
  | 3 => match lget ls i with
    | some (.double x) => k pc c ls (.double x :: st) h
    | _ => False
  | _ => match lget ls i with
    | some (.ref x) => k pc c ls (.ref x :: st) h
    | some .null => k pc c ls (.null :: st) h
    | _ => False
def sts (nl : Nat) (k : KT) (q pc c : Nat) (ls : Lc) (st : List Value) (h : PH) (i : Nat) : Prop := match q with
  | 0 => match st, Nat.blt i nl with
    | .int x :: r, true => k pc c (lput1 ls i (.int x)) r h
    | _, _ => False
  | 1 => match st, Nat.blt (i + 1) nl with
    | .long x :: r, true => k pc c (lput2 ls i (.long x)) r h
    | _, _ => False
  | 2 => match st, Nat.blt i nl with
    | .float x :: r, true => k pc c (lput1 ls i (.float x)) r h
    | _, _ => False
  | 3 => match st, Nat.blt (i + 1) nl with
    | .double x :: r, true => k pc c (lput2 ls i (.double x)) r h
    | _, _ => False
  | _ => match st, Nat.blt i nl with
    | .ref x :: r, true => k pc c (lput1 ls i (.ref x)) r h
    | .null :: r, true => k pc c (lput1 ls i .null) r h
    | _, _ => False
def stcc (cd : Jvm.ClassFile.Cond) (x y : Int32) (A B : Prop) : Prop := match cd with
  | .eq => (x = y → A) ∧ (¬ x = y → B)
  | .ne => (¬ x = y → A) ∧ (x = y → B)
  | .lt => (x < y → A) ∧ (¬ x < y → B)
  | .ge => (y ≤ x → A) ∧ (¬ y ≤ x → B)
  | .gt => (y < x → A) ∧ (¬ y < x → B)
  | .le => (x ≤ y → A) ∧ (¬ x ≤ y → B)
/-- getfield of a constant -/
def stgc (k : KT) (pc c : Nat) (ls : Lc) (st : List Value) (h : PH) (ci j so : Nat) : Prop := match st with
  | .ref a :: r => cOk a ci ∧ (match so with
    | 3 => k (pc + 3) c ls (.ref (cfr a) :: r) h
    | _ => k (pc + 3) c ls (.int (cfv a j) :: r) h)
  | _ => False
/-- an element of a constant array: t 0 ints, 1 bytes, 4, 5 references; 6: the script -/
def stac (k : KT) (t pc c : Nat) (ls : Lc) (st : List Value) (h : PH) : Prop := match st with
  | .int i :: .ref b :: r => match t with
    | 0 => cAr b 0 ∧ vp_in i (cln b) ∧ k (pc + 1) c ls (.int (csw b i.toNatClampNeg) :: r) h
    | 1 => cAr b 1 ∧ vp_in i (cln b) ∧ k (pc + 1) c ls (.int (cby b i.toNatClampNeg) :: r) h
    | 4 => cAr b 4 ∧ vp_in i (cln b) ∧ k (pc + 1) c ls (.ref (cel b i.toNatClampNeg) :: r) h
    | 5 => cAr b 5 ∧ vp_in i (cln b) ∧ k (pc + 1) c ls (.ref (cel b i.toNatClampNeg) :: r) h
    | 6 => False
    | _ => False
  | _ => False
def stln (k : KT) (t pc c : Nat) (ls : Lc) (st : List Value) (h : PH) : Prop := match st with
  | .ref b :: r => match t with
    | 6 => False
    | t => cAr b t ∧ k (pc + 1) c ls (.int (nI (cln b)) :: r) h
  | _ => False
def a2i (k : KT) (pc c : Nat) (ls : Lc) (st : List Value) (h : PH) (f : Int32 → Int32 → Int32) : Prop := match st with
  | .int y :: .int x :: r => k (pc + 1) c ls (.int (f x y) :: r) h
  | _ => False
def a2l (k : KT) (pc c : Nat) (ls : Lc) (st : List Value) (h : PH) (f : Int64 → Int64 → Int64) : Prop := match st with
  | .long y :: .long x :: r => k (pc + 1) c ls (.long (f x y) :: r) h
  | _ => False
/-- getfield: sort 0, 1: an int; 2 a long; 3 a reference of the world -/
def stg (k : KT) (pc c : Nat) (ls : Lc) (st : List Value) (h : PH) (ci j so : Nat) : Prop := match st with
  | .ref a :: r => match obC a ci with
    | true => match so with
      | 0 => k (pc + 3) c ls (.int (gi h a j) :: r) h
      | 1 => k (pc + 3) c ls (.int (gi h a j) :: r) h
      | 2 => k (pc + 3) c ls (.long (gl h a j) :: r) h
      | _ => match obR a j with
        | some b => k (pc + 3) c ls (.ref b :: r) h
        | none => False
    | false => False
  | _ => False
def stp0 (k : KT) (pc c : Nat) (ls : Lc) (st : List Value) (h : PH) (ci j so : Nat) : Prop := match so with
  | 0 => match st with
    | .int x :: .ref a :: r => match obC a ci with
      | true => k (pc + 3) c ls r (si h a j x)
      | false => False
    | _ => False
  | 1 => match st with
    | .int x :: .ref a :: r => match obC a ci with
      | true => isB x ∧ k (pc + 3) c ls r (si h a j x)
      | false => False
    | _ => False
  | 2 => match st with
    | .long x :: .ref a :: r => match obC a ci with
      | true => k (pc + 3) c ls r (sl h a j x)
      | false => False
    | _ => False
  | _ => False
/-- array loads: q 0 ints, 1 bytes, 2 longs, 3 doubles, 4 states, 5 commands -/
def sta (k : KT) (q pc c : Nat) (ls : Lc) (st : List Value) (h : PH) : Prop := match st with
  | .int i :: .ref a :: r => match arN a q with
    | some n => vp_in i n ∧ (match q with
      | 0 => k (pc + 1) c ls (.int (gi h a i.toNatClampNeg) :: r) h
      | 1 => k (pc + 1) c ls (.int (gi h a i.toNatClampNeg) :: r) h
      | 2 => k (pc + 1) c ls (.long (gl h a i.toNatClampNeg) :: r) h
      | 3 => False
      | _ => (∀ b, gr h a i.toNatClampNeg = some b → k (pc + 1) c ls (.ref b :: r) h) ∧ (gr h a i.toNatClampNeg = none → k (pc + 1) c ls (.null :: r) h))
    | none => False
  | _ => False
/-- array stores -/
def stq (k : KT) (q pc c : Nat) (ls : Lc) (st : List Value) (h : PH) : Prop := match q with
  | 0 => match st with
    | .int x :: .int i :: .ref a :: r => match arN a 0 with
      | some n => vp_in i n ∧ k (pc + 1) c ls r (si h a i.toNatClampNeg x)
      | none => False
    | _ => False
  | 1 => match st with
    | .int x :: .int i :: .ref a :: r => match arN a 1 with
      | some n => vp_in i n ∧ k (pc + 1) c ls r (si h a i.toNatClampNeg x.toInt8.toInt32)
      | none => False
    | _ => False
  | 2 => match st with
    | .long x :: .int i :: .ref a :: r => match arN a 2 with
      | some n => vp_in i n ∧ k (pc + 1) c ls r (sl h a i.toNatClampNeg x)
      | none => False
    | _ => False
  | _ => False
/-- the answer: rt as in conk; 6 a boolean -/
def str (Q : Res → PH → Prop) (rt : Nat) (st : List Value) (h : PH) : Prop := match rt with
  | 0 => match st with
    | [] => Q (.inl none) h
    | _ => False
  | 1 => match st with
    | [.int x] => Q (.inl (some (.int x))) h
    | _ => False
  | 2 => match st with
    | [.long x] => Q (.inl (some (.long x))) h
    | _ => False
  | 3 => match st with
    | [.float x] => Q (.inl (some (.float x))) h
    | _ => False
  | 4 => match st with
    | [.double x] => Q (.inl (some (.double x))) h
    | _ => False
  | 5 => match st with
    | [.ref x] => Q (.inl (some (.ref x))) h
    | [.null] => Q (.inl (some .null)) h
    | _ => False
  | 6 => match st with
    | [.int x] => isB x ∧ Q (.inl (some (.int x))) h
    | _ => False
  | 7 => match st with
    | [.int x] => narrow .byte (.int x) = .int x ∧ Q (.inl (some (.int x))) h
    | _ => False
  | _ => match st with
    | [.int x] => narrow .char (.int x) = .int x ∧ Q (.inl (some (.int x))) h
    | _ => False
def stp (mp : MI → List Value → PH → (Res → PH → Prop) → Prop) (M : MI) (Q : Res → PH → Prop) (a k : KT) (e : En) (c : Nat) (ls : Lc) (st : List Value) (h : PH) : Prop :=
  match e with
  | (pc, i, len, ax, ms) => match i with
    | .iconst n => k (pc + 1) c ls (.int (cI n) :: st) h
    | .bipush n => k (pc + 2) c ls (.int (cI n) :: st) h
    | .sipush n => k (pc + 3) c ls (.int (cI n) :: st) h
    | .lconst n => k (pc + 1) c ls (.long (lN n.val) :: st) h
    | .fconst _ => k (pc + 1) c ls (.float FP.fconst0 :: st) h
    | .dconst _ => k (pc + 1) c ls (.double FP.dconst0 :: st) h
    | .ldc_w _ => match ax with
      | [n, _] => k (pc + 3) c ls (.int (nI n) :: st) h
      | _ => False
    | .ldc _ => match ax with
      | [n, _] => k (pc + 2) c ls (.int (nI n) :: st) h
      | [_] => k (pc + 2) c ls (.ref 1084 :: st) h
      | _ => False
    | .ldc2_w _ => match ax with
      | [n, _] => k (pc + 3) c ls (.long (lN n) :: st) h
      | _ => False
    | .aconst_null => k (pc + 1) c ls (.null :: st) h
    | .iload n => stl k 0 (pc + 2) c ls st h n
    | .lload n => stl k 1 (pc + 2) c ls st h n
    | .fload n => stl k 2 (pc + 2) c ls st h n
    | .dload n => stl k 3 (pc + 2) c ls st h n
    | .aload n => stl k 4 (pc + 2) c ls st h n
    | .iload_n n => stl k 0 (pc + 1) c ls st h n.val
    | .lload_n n => stl k 1 (pc + 1) c ls st h n.val
    | .fload_n n => stl k 2 (pc + 1) c ls st h n.val
    | .dload_n n => stl k 3 (pc + 1) c ls st h n.val
    | .aload_n n => stl k 4 (pc + 1) c ls st h n.val
    | .istore n => sts M.nl k 0 (pc + 2) c ls st h n
    | .lstore n => sts M.nl k 1 (pc + 2) c ls st h n
    | .fstore n => sts M.nl k 2 (pc + 2) c ls st h n
    | .dstore n => sts M.nl k 3 (pc + 2) c ls st h n
    | .astore n => sts M.nl k 4 (pc + 2) c ls st h n
    | .istore_n n => sts M.nl k 0 (pc + 1) c ls st h n.val
    | .lstore_n n => sts M.nl k 1 (pc + 1) c ls st h n.val
    | .fstore_n n => sts M.nl k 2 (pc + 1) c ls st h n.val
    | .dstore_n n => sts M.nl k 3 (pc + 1) c ls st h n.val
    | .astore_n n => sts M.nl k 4 (pc + 1) c ls st h n.val
    | .iinc n v => match lget ls n, Nat.blt n M.nl with
      | some (.int x), true => k (pc + 3) c (lput1 ls n (.int (x + cI v))) st h
      | _, _ => False
    | .iadd => a2i k pc c ls st h (fun x y => x + y)
    | .isub => a2i k pc c ls st h (fun x y => x - y)
    | .imul => a2i k pc c ls st h (fun x y => x * y)
    | .iand => a2i k pc c ls st h (fun x y => x &&& y)
    | .ior => a2i k pc c ls st h (fun x y => x ||| y)
    | .ixor => a2i k pc c ls st h (fun x y => x ^^^ y)
    | .ishl => a2i k pc c ls st h (fun x y => x <<< (y &&& 31))
    | .ishr => a2i k pc c ls st h (fun x y => x >>> (y &&& 31))
    | .iushr => a2i k pc c ls st h (fun x y => (x.toUInt32 >>> (y.toUInt32 &&& Int32.toUInt32 31)).toInt32)
    | .idiv => match st with
      | .int y :: .int x :: r => (¬ y = 0) ∧ k (pc + 1) c ls (.int (x / y) :: r) h
      | _ => False
    | .irem => match st with
      | .int y :: .int x :: r => (¬ y = 0) ∧ k (pc + 1) c ls (.int (x - x / y * y) :: r) h
      | _ => False
    | .land => a2l k pc c ls st h (fun x y => x &&& y)
    | .lor => a2l k pc c ls st h (fun x y => x ||| y)
    | .lshl => match st with
      | .int y :: .long x :: r => k (pc + 1) c ls (.long (x <<< (y.toInt64 &&& 63)) :: r) h
      | _ => False
    | .lshr => match st with
      | .int y :: .long x :: r => k (pc + 1) c ls (.long (x >>> (y.toInt64 &&& 63)) :: r) h
      | _ => False
    | .lcmp => match st with
      | .long y :: .long x :: r => k (pc + 1) c ls (.int (lg_cmp x y) :: r) h
      | _ => False
    | .i2l => match st with
      | .int x :: r => k (pc + 1) c ls (.long x.toInt64 :: r) h
      | _ => False
    | .l2i => match st with
      | .long x :: r => k (pc + 1) c ls (.int x.toInt32 :: r) h
      | _ => False
    | .i2b => match st with
      | .int x :: r => k (pc + 1) c ls (.int x.toInt8.toInt32 :: r) h
      | _ => False
    | .i2f => match st with
      | .int x :: r => k (pc + 1) c ls (.float (FP.i2f x) :: r) h
      | _ => False
    | .i2d => match st with
      | .int x :: r => k (pc + 1) c ls (.double (FP.i2d x) :: r) h
      | _ => False
    | .fdiv => match st with
      | .float y :: .float x :: r => vf_n32 (FP.fdiv x y) ∧ k (pc + 1) c ls (.float (FP.fdiv x y) :: r) h
      | _ => False
    | .ddiv => match st with
      | .double y :: .double x :: r => vf_n64 (FP.ddiv x y) ∧ k (pc + 1) c ls (.double (FP.ddiv x y) :: r) h
      | _ => False
    | .f2d => match st with
      | .float x :: r => vf_n64 (FP.f2d x) ∧ k (pc + 1) c ls (.double (FP.f2d x) :: r) h
      | _ => False
    | .dup => match st with
      | v :: r => match v.category with
        | 1 => k (pc + 1) c ls (v :: v :: r) h
        | _ => False
      | _ => False
    | .dup2 => match st with
      | v :: w :: r => match v.category, w.category with
        | 1, 1 => k (pc + 1) c ls (v :: w :: v :: w :: r) h
        | _, _ => False
      | _ => False
    | .pop => match st with
      | v :: r => match v.category with
        | 1 => k (pc + 1) c ls r h
        | _ => False
      | _ => False
    | .goto _ => match ax with
      | [t] => k t c ls st h
      | _ => False
    | .ifCond cd _ => match ax with
      | [t] => match st with
        | .int x :: r => stcc cd x 0 (k t c ls r h) (k (pc + 3) c ls r h)
        | _ => False
      | _ => False
    | .if_icmp cd _ => match ax with
      | [t] => match st with
        | .int y :: .int x :: r => stcc cd x y (k t c ls r h) (k (pc + 3) c ls r h)
        | _ => False
      | _ => False
    | .ifnull _ => match ax with
      | [t] => match st with
        | .null :: r => k t c ls r h
        | .ref _ :: r => k (pc + 3) c ls r h
        | _ => False
      | _ => False
    | .ifnonnull _ => match ax with
      | [t] => match st with
        | .null :: r => k (pc + 3) c ls r h
        | .ref _ :: r => k t c ls r h
        | _ => False
      | _ => False
    | .tableswitch _ _ _ _ => match ax with
      | d :: lo :: ts => match st with
        | .int x :: r => ((∀ j : Nat, lo ≤ j → j < lo + ts.length → ¬ x = nI j) → k d c ls r h) ∧ swc k x c ls r h lo ts
        | _ => False
      | _ => False
    | .getfield _ => match ax with
      | [ci, j, so, _] => stg k pc c ls st h ci j so
      | [ci, j, so, _, _] => stgc k pc c ls st h ci j so
      | _ => False
    | .putfield _ => match ax with
      | [ci, j, so, _] => stp0 k pc c ls st h ci j so
      | _ => False
    | .iaload => match ax with
      | [] => sta k 0 pc c ls st h
      | t :: _ => stac k t pc c ls st h
    | .baload => match ax with
      | [] => sta k 1 pc c ls st h
      | t :: _ => stac k t pc c ls st h
    | .laload => sta k 2 pc c ls st h
    | .daload => sta k 3 pc c ls st h
    | .aaload => match ax with
      | [q] => sta k q pc c ls st h
      | [_, t] => stac k t pc c ls st h
      | _ => False
    | .aastore => match st with
      | .ref x :: .int i :: .ref b :: r => match arN b 5 with
        | some n => cOk x 21 ∧ vp_in i n ∧ k (pc + 1) c ls r (sr h b i.toNatClampNeg (some x))
        | none => False
      | _ => False
    | .iastore => stq k 0 pc c ls st h
    | .bastore => stq k 1 pc c ls st h
    | .lastore => stq k 2 pc c ls st h
    | .dastore => stq k 3 pc c ls st h
    | .arraylength => match ax with
      | [] => match st with
        | .ref b :: r => match arL b with
          | some n => k (pc + 1) c ls (.int (nI n) :: r) h
          | none => False
        | _ => False
      | t :: _ => stln k t pc c ls st h
    | .getstatic _ => match ax with
      | [kind, i, _] => match kind with
        | 0 => k (pc + 3) c ls (.ref i :: st) h
        | 1 => k (pc + 3) c ls (.int 1 :: st) h
        | 2 => k (pc + 3) c ls (.null :: st) h ∧ k (pc + 3) c ls (.ref 1090 :: st) h
        | _ => False
      | _ => False
    | .if_acmp cd _ => match ax with
      | [t] => match st with
        | .ref y :: .ref x :: r => (cOk x 21 ∧ cOk y 21) ∧ (match cd with
          | .eq => (x = y → k t c ls r h) ∧ (¬ x = y → k (pc + 3) c ls r h)
          | .ne => (¬ x = y → k t c ls r h) ∧ (x = y → k (pc + 3) c ls r h))
        | _ => False
      | _ => False
    | .fcmp op => match st with
      | .float y :: .float x :: r => k (pc + 1) c ls (.int (Op.cmpValue (FP.fcmp x y) op) :: r) h
      | _ => False
    | .dcmp op => match st with
      | .double y :: .double x :: r => k (pc + 1) c ls (.int (Op.cmpValue (FP.dcmp x y) op) :: r) h
      | _ => False
    | .i2c => match st with
      | .int x :: r => k (pc + 1) c ls (.int (x.toUInt32 % 65536).toInt32 :: r) h
      | _ => False
    | .return_ => str Q 0 st h
    | .ireturn => match ax with
      | [rt] => str Q rt st h
      | _ => False
    | .lreturn => str Q 2 st h
    | .freturn => str Q 3 st h
    | .dreturn => str Q 4 st h
    | .areturn => str Q 5 st h
    | .new _ => match ax with
      | x :: _ => cat8 st <| c + 1 ≤ M.cap ∧ Q (.inr x) h
      | _ => False
    | .invokevirtual _ => match ax, ms with
      | kind :: n :: rt :: rc :: mcv :: _ :: hs, [M'] => stc mp M Q a k pc M' kind n rt rc mcv hs c ls st h
      | kind :: _, [] => stb M k pc kind c ls st h
      | _, _ => False
    | .invokestatic _ => match ax, ms with
      | kind :: n :: rt :: rc :: mcv :: _ :: hs, [M'] => stc mp M Q a k pc M' kind n rt rc mcv hs c ls st h
      | kind :: _, [] => stb M k pc kind c ls st h
      | _, _ => False
    | _ => False
end
section
/-! ===== worlds of the pure machine, the contexts of a walk, 'At' and 'MetPM' ===== -/
def tr (ad : Nat → Nat) : Value → Value
  | .ref i => .ref (ad i)
  | v => v
def fv (ad : Nat → Nat) (h : PH) (a : Nat) (rs : List (Option Nat)) (so j : Nat) : Value := match so with
  | 0 => .int (gi h a j)
  | 1 => .long (gl h a j)
  | _ => va_rf ((rs.getD j none).map ad)
def fvs (ad : Nat → Nat) (h : PH) (a ci : Nat) (rs : List (Option Nat)) : List Value := (List.range (fso ci).length).map (fun j => fv ad h a rs ((fso ci).getD j 0) j)
def aev (ad : Nat → Nat) (h : PH) (a t : Nat) : (Nat → Int32) ⊕ (Nat → Int64) ⊕ (Nat → UInt32) ⊕ (Nat → UInt64) ⊕ (Nat → Option Nat) := match t with
  | 0 => .inl (h.1 a)
  | 1 => .inl (h.1 a)
  | 2 => .inr (.inl (h.2.1 a))
  | 3 => .inr (.inr (.inr (.inl (fun _ => 0))))
  | _ => .inr (.inr (.inr (.inr (fun j => (h.2.2.1 a j).map ad))))
def cellE (ad : Nat → Nat) (cA : Nat → ClassId) (h : PH) (a : Nat) : Option Kd → va_E
  | some (.inl (ci, rs)) => .inr (ci, fvs ad h a ci rs)
  | some (.inr (t, n)) => .inl (cA t, n, aev ad h a t)
  | none => .inr (0, [])
def wd (ad : Nat → Nat) (cA : Nat → ClassId) (h : PH) : va_W := (List.range NK).map (fun a => (ad a, cellE ad cA h a (kd a)))
abbrev pmCl : List vw_C := [(RX1, TX1, 4), (RX3, TX3, 3), (RX4, TX4, 3), (RX5, TX5, 18), (RX6, TX6, 2), (RX7, TX7, 10), (RX8, TX8, 16), (RX10, TX10, 9), (RX11, TX11, 11), (RX12, TX12, 6), (RX13, TX13, 28), (RJ0, TJ0, 4), (RJ4, TJ4, 4), (RJx4a65c, TJx4a65c, 3), (RJx35411, TJx35411, 4)]
def pmTy (cA : Nat → ClassId) : List (ClassId × FieldType) := [(cA 0, .int), (cA 1, .byte), (cA 2, .long), (cA 3, .double), (cA 4, .object RX8), (cA 5, .object "WaveUpgrade$Command"), (cA 6, .boolean), (cA 7, .object "java/lang/Object"), (cA 8, .array .boolean)]
def exN : Nat → String
  | 0 => "java/lang/IllegalStateException"
  | 1 => "java/lang/IllegalArgumentException"
  | _ => "java/lang/IndexOutOfBoundsException"
def cVal (ad : Nat → Nat) (a j : Nat) (r : Bool) : Value := match r with
  | true => .ref (ad (cfr a))
  | false => .int (cfv a j)
def cTy (t : Nat) : FieldType := match t with
  | 0 => .int
  | 1 => .byte
  | 4 => .object "WaveUpgrade$Statement"
  | _ => .object "WaveUpgrade$Command"
def cEv (ad : Nat → Nat) (t b : Nat) (j : Nat) : Value := match t with
  | 0 => .int (csw b j)
  | 1 => .int (cby b j)
  | _ => .ref (ad (cel b j))
def cSv (ad : Nat → Nat) (i : Nat) : Value := match i with
  | 0 => .int 1
  | i => .ref (ad i)
def cPre : String := "jdk/internal/util/Preconditions"
def cFmt : String := "SIOOBE_FORMATTER"
def cBiF : String := "Ljava/util/function/BiFunction;"
/-- what the start holds outside the world: Throwable's statics, which exceptions are not of which class, the constants -/
def CF (ad : Nat → Nat) (A : Nat → Prop) (U : State) (H : Heap) : Prop :=
  (vx_Zq Bundle.tN "UNASSIGNED_STACK" Bundle.steD A U H ∧ vx_Zq Bundle.tN "SUPPRESSED_SENTINEL" Bundle.listD A U H) ∧ (va_Nc (exN 1) (exN 2) U ∧ va_Nc (exN 0) (exN 2) U ∧ va_Nc (exN 0) (exN 1) U) ∧
  (∀ (ci j : Nat) (o n d : String) (r : Bool), cFld ci j = some (o, n, d, r) → ∀ a, cOk a ci → va_OF o n d (cVal ad a j r) (ad a) A U H) ∧
  (∀ ci a, cOk a ci → va_O (cNm ci) (ad a) A U H) ∧
  (∀ t b, cAr b t → va_T (cTy t) (ad b) (cln b) (cEv ad t b) A U H) ∧
  (∀ (i : Nat) (C n d : String), cSt i = some (C, n, d) → va_Z C n d (cSv ad i) A U H) ∧
  (va_Z cPre cFmt cBiF .null A U H ∨ va_Z cPre cFmt cBiF (.ref (ad 1090)) A U H)
theorem CF.moved {ad : Nat → Nat} {A : Nat → Prop} {u U : State} {H : Heap} (hvm : u.vm.Alike U.vm) (h : CF ad A u H) : CF ad A U H := by
  obtain ⟨⟨a1, a2⟩, ⟨b1, b2, b3⟩, c1, c2, c3, c4, c5⟩ := h
  exact ⟨⟨a1.moved hvm, a2.moved hvm⟩, ⟨b1.moved hvm, b2.moved hvm, b3.moved hvm⟩, fun ci j o n d r h1 a h2 => (c1 ci j o n d r h1 a h2).moved hvm, fun ci a h1 => (c2 ci a h1).moved hvm, fun t b h1 => (c3 t b h1).moved hvm, fun i C n d h1 => (c4 i C n d h1).moved hvm, c5.imp (fun q => q.moved hvm) (fun q => q.moved hvm)⟩
theorem CF.kept {ad : Nat → Nat} {A : Nat → Prop} {U : State} {H H1 : Heap} (h : CF ad A U H) (hq : ∀ a : Nat, a < H.size → ¬ A a → H1[a]? = H[a]?) : CF ad A U H1 := by
  obtain ⟨⟨a1, a2⟩, b, c1, c2, c3, c4, c5⟩ := h
  exact ⟨⟨a1.kept hq, a2.kept hq⟩, b, fun ci j o n d r h1 a h2 => (c1 ci j o n d r h1 a h2).kept hq, fun ci a h1 => (c2 ci a h1).kept hq, fun t b h1 => (c3 t b h1).kept hq, fun i C n d h1 => (c4 i C n d h1).kept hq, c5.imp (fun q => q.kept hq) (fun q => q.kept hq)⟩
theorem CF.narrow {ad : Nat → Nat} {A B : Nat → Prop} {U : State} {H : Heap} (h : CF ad A U H) (hAB : ∀ q, B q → A q) : CF ad B U H := by
  obtain ⟨⟨a1, a2⟩, b, c1, c2, c3, c4, c5⟩ := h
  exact ⟨⟨a1.narrow hAB, a2.narrow hAB⟩, b, fun ci j o n d r h1 a h2 => (c1 ci j o n d r h1 a h2).narrow hAB, fun ci a h1 => (c2 ci a h1).narrow hAB, fun t b h1 => (c3 t b h1).narrow hAB, fun i C n d h1 => (c4 i C n d h1).narrow hAB, c5.imp (fun q => q.narrow hAB) (fun q => q.narrow hAB)⟩
/-- words that a list of words can't carry over a call: by premises of their own -/
def XW : List Jvm.Cond := [
  .methodLinkNest RX8 119 yX11_isIn RX11, .methodLinkNest RX8 73 yX11_copyRow RX11, .methodLinkNest RX3 22 yX11_copyRow RX11, .methodLinkNest RX5 83 yX11_copyRow RX11, .methodLinkNest RX1 150 yX11_isIn RX11,
  .castable "java/lang/IllegalStateException" "java/lang/IllegalStateException", .castable "java/lang/IllegalArgumentException" "java/lang/IllegalArgumentException", .castable "java/lang/IndexOutOfBoundsException" "java/lang/IndexOutOfBoundsException",
  .declares (Bundle.init0 "java/lang/RuntimeException"), .declares (Bundle.init0 "java/lang/Exception"), .declares (Bundle.init0 Bundle.tN)]
def XWk (w : Jvm.Cond) : Bool := match w with
  | .methodLinkNest .. => true
  | .castable .. => true
  | .declares .. => true
  | _ => false
theorem XW_k : XW.all XWk = true := by decide +kernel
def xwOk (ad : Nat → Nat) (U : State) : Prop := (∀ w ∈ XW, va_Nw w U) ∧ vk_R RX1 165 "held" (ad 1084) U
theorem xwOk.warm {ad : Nat → Nat} {s U : State} (hW : s.WarmedH U.vm) (h : xwOk ad s) : xwOk ad U := by
  refine ⟨?_, h.2.warm hW⟩
  intro w hw
  have h1 := List.all_eq_true.mp XW_k w hw
  have h2 := h.1 w hw
  cases w <;> first | exact va_Nw.warmM hW h2 | exact va_Nw.warmC hW h2 | exact va_Nw.warmD hW h2 | cases h1
theorem xwOk.same {ad : Nat → Nat} {u U : State} (hv : u.vm = U.vm) (h : xwOk ad u) : xwOk ad U := by
  refine ⟨?_, h.2.same hv.symm⟩
  intro w hw
  exact va_Nw.same (by
    have h1 := List.all_eq_true.mp XW_k w hw
    cases w <;> first | rfl | cases h1) hv (h.1 w hw)
/-- the good words of the tables -/
def tbG : List Jvm.Cond := lw_tbl.filter goodWord
def rtOk (ret : Option FieldType) (i : Instr) (v : Option Value) : Prop := match i with
  | .return_ => v = none ∧ ret = none
  | .ireturn => ∃ (x : Int32) (ty : FieldType), v = some (.int x) ∧ ret = some ty ∧ narrow ty (.int x) = .int x
  | .lreturn => ∃ x : Int64, v = some (.long x) ∧ ret = some .long
  | .freturn => ∃ x : UInt32, v = some (.float x) ∧ ret = some .float
  | .dreturn => ∃ x : UInt64, v = some (.double x) ∧ ret = some .double
  | .areturn => ((∃ n, ret = some (.object n)) ∨ ∃ t, ret = some (.array t)) ∧ (v = some .null ∨ ∃ a, v = some (.ref a))
  | _ => False
/-- 'throw new E()' stands at pc -/
def thOk (M : MI) (pc ik ic x : Nat) : Prop :=
  decode M.b pc = .ok (.new ik, 3) ∧ decode M.b (pc + 3) = .ok (.dup, 1) ∧ decode M.b (pc + 4) = .ok (.invokespecial ic, 3) ∧ decode M.b (pc + 7) = .ok (.athrow, 1) ∧
  6 ≤ M.fr ∧ 89 ≤ M.lo ∧ x < 3 ∧ Cond.initialized (exN x) ∈ tbG ∧ Cond.classLink M.y.cls ik (exN x) ∈ tbG ∧ Cond.methodLink M.y.cls ic (Bundle.init0 (exN x)) ∈ tbG
/-- a word lies at a place of the tables, and is a good one -/
def atW (p : Nat) (w : Jvm.Cond) : Bool := decide (tables_1[p]? = some w) && goodWord w
def fldOk (M : MI) (idx ci j so p : Nat) : Bool := match pmCl[ci]? with
  | some (_, T, N) => Nat.blt j N && atW p (.fieldLink M.y.cls idx (T j).1 (T j).2.1 (T j).2.2.1) && Nat.beq N (fso ci).length && (match so, (fso ci).getD j 9 with
    | 0, 0 => decide ((T j).2.2.1 = "I")
    | 1, 0 => decide ((T j).2.2.1 = "Z")
    | 2, 1 => decide ((T j).2.2.1 = "J")
    | 3, 2 => true
    | _, _ => false)
  | none => false
def retC (rt : Nat) : Option FieldType → Bool
  | none => Nat.beq rt 0
  | some .int => Nat.beq rt 1
  | some .boolean => Nat.beq rt 1
  | some .byte => Nat.beq rt 1
  | some .char => Nat.beq rt 1
  | some .long => Nat.beq rt 2
  | some .float => Nat.beq rt 3
  | some .double => Nat.beq rt 4
  | some (.object _) => Nat.beq rt 5
  | _ => false
/-- what is the same at every call of a method: its room below the caller's -/
def calB (M M' : MI) (n : Nat) (mcv rt : Nat) : Bool := Nat.beq mcv M'.cap && Nat.ble (M'.fr + 1) M.fr && Nat.ble (8 + (M'.nl + 11) + M'.lo) M.lo && retC rt M'.ret &&
  decide (M'.y.cls ≠ "java/lang/invoke/MethodHandle" ∧ M'.y.cls ≠ "java/lang/invoke/VarHandle" ∧ (parseMethodDescriptor M'.y.desc).map (fun d => d.parameters.length) = some n)
def okI (M : MI) (pc : Nat) (i : Instr) (len : Nat) (ax : List Nat) (ms : List MI) : Bool := match i with
  | .iconst _ => Nat.beq len 1
  | .bipush n => Nat.beq len 2 && decide ((Int8.ofInt n).toInt32 = cI n)
  | .sipush n => Nat.beq len 3 && decide ((Int16.ofInt n).toInt32 = cI n)
  | .fconst f => Nat.beq len 1 && decide (f = 0)
  | .dconst f => Nat.beq len 1 && decide (f = 0)
  | .ldc idx => Nat.beq len 2 && (match ax with
    | [n, p] => atW p (.constant M.y.cls idx (nI n))
    | [_] => decide (M.y.cls = RX1) && Nat.beq idx 165
    | _ => false)
  | .ldc2_w idx => Nat.beq len 3 && (match ax with
    | [n, p] => atW p (.constantLong M.y.cls idx (lN n))
    | _ => false)
  | .iload _ | .lload _ | .fload _ | .dload _ | .aload _ | .istore _ | .lstore _ | .fstore _ | .dstore _ | .astore _ => Nat.beq len 2
  | .iinc _ _ => Nat.beq len 3
  | .goto off => Nat.beq len 3 && (match ax with
    | [t] => decide ((pc : Int) + off = (t : Int))
    | _ => false)
  | .ifCond _ off => Nat.beq len 3 && (match ax with
    | [t] => decide ((pc : Int) + off = (t : Int))
    | _ => false)
  | .if_icmp _ off => Nat.beq len 3 && (match ax with
    | [t] => decide ((pc : Int) + off = (t : Int))
    | _ => false)
  | .ifnull off => Nat.beq len 3 && (match ax with
    | [t] => decide ((pc : Int) + off = (t : Int))
    | _ => false)
  | .ifnonnull off => Nat.beq len 3 && (match ax with
    | [t] => decide ((pc : Int) + off = (t : Int))
    | _ => false)
  | .tableswitch d lo hi offs => (match ax with
    | dt :: l0 :: ts => decide ((pc : Int) + d = (dt : Int)) && decide (lo = (l0 : Int)) && decide (hi + 1 = (l0 : Int) + (ts.length : Int)) && decide (offs.toList.map (fun o => (pc : Int) + o) = ts.map (fun t => ((t : Nat) : Int))) && Nat.blt (l0 + ts.length) 100000
    | _ => false)
  | .getfield idx => Nat.beq len 3 && (match ax with
    | [ci, j, so, p] => fldOk M idx ci j so p
    | [ci, j, so, p, _] => (match cFld ci j with
      | some (o, n, d, r) => atW p (.fieldLink M.y.cls idx o n d) && Nat.beq so (match r with
        | true => 3
        | false => 0)
      | none => false)
    | _ => false)
  | .putfield idx => Nat.beq len 3 && (match ax with
    | [ci, j, so, p] => fldOk M idx ci j so p && (match pmCl[ci]? with
      | some (_, T, _) => !(T j).2.2.2
      | none => false)
    | _ => false)
  | .iaload => Nat.beq len 1 && (match ax with
    | [] => true
    | [0] => true
    | [6] => Nat.beq M.sk 3
    | _ => false)
  | .baload => Nat.beq len 1 && (match ax with
    | [] => true
    | [1] => true
    | _ => false)
  | .aaload => Nat.beq len 1 && (match ax with
    | [q] => Nat.beq q 4 || Nat.beq q 5
    | [_, t] => Nat.beq t 4 || Nat.beq t 5
    | _ => false)
  | .arraylength => Nat.beq len 1 && (match ax with
    | [] => true
    | [6] => Nat.beq M.sk 3
    | [t] => Nat.beq t 0 || Nat.beq t 1 || Nat.beq t 4 || Nat.beq t 5
    | _ => false)
  | .getstatic idx => Nat.beq len 3 && (match ax with
    | [0, i, p] => (match cSt i with
      | some (C, n, d) => !(Nat.beq i 0) && atW p (.fieldLink M.y.cls idx C n d)
      | none => false)
    | [1, _, p] => atW p (.fieldLink M.y.cls idx "java/lang/String" "COMPACT_STRINGS" "Z")
    | [2, _, p] => atW p (.fieldLink M.y.cls idx cPre cFmt cBiF)
    | _ => false)
  | .if_acmp _ off => Nat.beq len 3 && (match ax with
    | [t] => decide ((pc : Int) + off = (t : Int))
    | _ => false)
  | .ldc_w idx => Nat.beq len 3 && (match ax with
    | [n, p] => atW p (.constant M.y.cls idx (nI n))
    | _ => false)
  | .ireturn => Nat.beq len 1 && (match ax with
    | [1] => decide (M.ret = some .int)
    | [6] => decide (M.ret = some .boolean)
    | [7] => decide (M.ret = some .byte)
    | [8] => decide (M.ret = some .char)
    | _ => false)
  | .return_ => Nat.beq len 1 && decide (M.ret = none)
  | .lreturn => Nat.beq len 1 && decide (M.ret = some .long)
  | .freturn => Nat.beq len 1 && decide (M.ret = some .float)
  | .dreturn => Nat.beq len 1 && decide (M.ret = some .double)
  | .areturn => Nat.beq len 1 && (match M.ret with
    | some (.object _) => true
    | _ => false)
  | .new ik => Nat.beq len 3 && (match ax with
    | [x, ic, p1, p2] => Nat.ble 6 M.fr && Nat.ble 89 M.lo && Nat.blt x 3 && decide (decode M.b (pc + 3) = .ok (.dup, 1)) && decide (decode M.b (pc + 4) = .ok (.invokespecial ic, 3)) && decide (decode M.b (pc + 7) = .ok (.athrow, 1)) && atW p1 (.classLink M.y.cls ik (exN x)) && atW p2 (.methodLink M.y.cls ic (Bundle.init0 (exN x)))
    | _ => false)
  | .invokevirtual idx => Nat.beq len 3 && (match ax, ms with
    | 0 :: n :: rt :: rc :: mcv :: p :: hs, [M'] => calB M M' n mcv rt && Nat.beq M'.sk 0 && atW p (.methodLink M.y.cls idx M'.y) && (match pmCl[rc]? with
      | some (C, _, _) => decide (M'.y.cls = C)
      | none => false) && hsOk M pc hs
    | 5 :: n :: rt :: rc :: mcv :: p :: hs, [M'] => calB M M' n mcv rt && Nat.beq M'.sk 0 && atW p (.methodLink M.y.cls idx M'.y) && decide (M'.y.cls = cNm rc) && hsOk M pc hs
    | [20, p], [] => atW p (.methodLink M.y.cls idx ⟨cNm 20, "ordinal", "()I"⟩) && jdkR M
    | _, _ => false)
  | .invokestatic idx => Nat.beq len 3 && (match ax, ms with
    | kind :: n :: rt :: _ :: mcv :: p :: hs, [M'] => calB M M' n mcv rt && (match kind with
      | 1 => Nat.beq M'.sk 1 && atW p (.methodLink M.y.cls idx M'.y)
      | 3 => Nat.beq M'.sk 2 && atW p (.methodLink M.y.cls idx M'.y)
      | 2 => Nat.beq M'.sk 1 && (match XW[p]? with
        | some w => decide (w = .methodLinkNest M.y.cls idx M'.y RX11)
        | none => false)
      | _ => false) && hsOk M pc hs
    | [10, p], [] => atW p (.methodLink M.y.cls idx Lib.Math.min.name) && jdkR M
    | [11, p], [] => atW p (.methodLink M.y.cls idx Lib.Math.max.name) && jdkR M
    | [12, p], [] => atW p (.methodLink M.y.cls idx Lib.Math.abs.name) && jdkR M
    | [13, p], [] => atW p (.methodLink M.y.cls idx yJ9_floorMod_7cf53) && jdkR M
    | [15, p], [] => atW p (.methodLink M.y.cls idx arraycopyName) && jdkR M
    | [16, p], [] => atW p (.methodLink M.y.cls idx arraycopyName) && jdkR M
    | _, _ => false)
  | _ => Nat.beq len 1
where
  jdkR (M : MI) : Bool := Nat.ble 1 M.fr && Nat.ble 60 M.lo
  hsOk (M : MI) (_ : Nat) (hs : List Nat) : Bool := match hs with
    | [] => decide (M.hh = [])
    | _ => false
def okE (M : MI) (e : En) : Bool := match e with
  | (pc, i, len, ax, ms) => decide (decode M.b pc = .ok (i, len)) && okI M pc i len ax ms
def rmM (M : MI) : Room := { frames := M.fr, cells := M.cap, slots := 6 * M.cap, locals := M.lo }
def headM (M : MI) : Jvm.Cond := match M.hh with
  | [] => .code M.y M.b M.nl M.ret
  | _ => .codeWith M.y M.b M.nl M.ret M.hh
def wsM (M : MI) : List Jvm.Cond := headM M :: tbG
/-- the heaps are the same at the numbers from 1000 on -/
def Hi (x h : PH) : Prop := ∀ a, 1000 ≤ a → h.1 a = x.1 a ∧ h.2.1 a = x.2.1 a ∧ h.2.2.1 a = x.2.2.1 a ∧ h.2.2.2 a = x.2.2.2 a
def scr (xs : PH) (_ : Nat) (h : PH) : Prop := Hi xs h
def adA (ad : Nat → Nat) (sz : Nat) : Nat → Prop := fun q => (∃ a, a < NK ∧ q = ad a) ∨ sz ≤ q
def tl (ad : Nat → Nat) (ls : Lc) : List (Nat × Value) := (List.range ls.length).filterMap (fun i => (ls.getD i none).map (fun v => (i, tr ad v)))
/-- the tables know the method -/
def MOK (M : MI) : Prop := headM M ∈ tbG ∧ Cond.initialized M.y.cls ∈ tbG ∧ plainName M.y.cls = true ∧ (match M.sk with
  | 0 => M.hh = [] ∧ Cond.instanceMethod M.y ∈ tbG ∧ Cond.selects M.y.cls M.y M.y ∈ tbG
  | 1 => M.hh = [] ∧ Cond.static M.y ∈ tbG
  | 2 => M.hh ≠ [] ∧ Cond.static M.y ∈ tbG
  | _ => False)
/-- the world in a heap, with all that the tables and the start say of it -/
def WH (ad : Nat → Nat) (cA : Nat → ClassId) (D : va_G) (xs : PH) (L : Nat) (A : Nat → Prop) (h : PH) (s : State) (H0 H : Heap) (locs : List Loc) : Prop :=
  va_P D pmCl (wd ad cA h) H ∧ va_D A (wd ad cA h) ∧ va_S A H0 H locs ∧ scr xs L h
def PcM (ad : Nat → Nat) (cA : Nat → ClassId) (D : va_G) (xs : PH) (L sz : Nat) (h : PH) (U : State) : Prop :=
  U.heap.size = sz ∧ va_P D pmCl (wd ad cA h) U.heap ∧ va_K D pmCl (pmTy cA) U ∧ va_D (fun _ => True) (wd ad cA h) ∧ scr xs L h ∧ CF ad (adA ad sz) U U.heap ∧ xwOk ad U
def PoM (ad : Nat → Nat) (cA : Nat → ClassId) (D : va_G) (xs : PH) (L : Nat) (A : Nat → Prop) (h : PH) (t : State) : Prop :=
  va_P D pmCl (wd ad cA h) t.heap ∧ va_D A (wd ad cA h) ∧ scr xs L h
def QcM (ad : Nat → Nat) (cA : Nat → ClassId) (D : va_G) (xs : PH) (L sz : Nat) (Q : Res → PH → Prop) : Array Value → State → Outcome → State → Prop :=
  fun _ st o t => (∃ (v : Option Value) (h : PH), o = .returned (v.map (tr ad)) ∧ Q (.inl v) h ∧ PoM ad cA D xs L (adA ad sz) h t) ∧ va_F (adA ad sz) st t
def XcM (ad : Nat → Nat) (cA : Nat → ClassId) (D : va_G) (xs : PH) (L sz : Nat) (Q : Res → PH → Prop) : String → State → State → Prop :=
  fun E st t => (∃ (x : Nat) (h : PH), exN x = E ∧ Q (.inr x) h ∧ PoM ad cA D xs L (adA ad sz) h t) ∧ va_F (adA ad sz) st t
/-- the contract of a method on numbers and pure heaps: from as and h it ends with Q -/
def MetPM (M : MI) (as : List Value) (h : PH) (Q : Res → PH → Prop) : Prop :=
  ∀ (l : Launch) (ad : Nat → Nat) (cA : Nat → ClassId) (D : va_G) (xs : PH) (L sz : Nat), l.stackTraces = false →
    vx_Met l M.y (wsM M) (rmM M) (va_Pc (as.map (tr ad)) (PcM ad cA D xs L sz h)) (QcM ad cA D xs L sz Q) (XcM ad cA D xs L sz Q) M.cap (6 * M.cap) (adA ad sz)
/-- a method's frame in a walk: the machine, the tables, the room, how it ends -/
def Cx (M : MI) (Q : Res → PH → Prop) (Z : State → Prop) (p : Program) (l : Launch) (e : Env) (R : Room) (s : State) (m : MethodId) (args : Array Value) (below : List Frame) (meth : Method) (c : Code)
    (ad : Nat → Nat) (cA : Nat → ClassId) (D : va_G) (A : Nat → Prop) (xs : PH) (L : Nat) : Prop :=
  CallFix p m c M.b M.nl s args tbG M.y.cls ∧ va_K D pmCl (pmTy cA) s ∧ (∀ q, s.heap.size ≤ q → A q) ∧ CF ad A s s.heap ∧ xwOk ad s ∧ (M.sk = 3 → True) ∧ l.stackTraces = false ∧
  (M.fr ≤ R.frames ∧ M.lo ≤ R.locals ∧ M.cap ≤ R.cells ∧ 6 * M.cap ≤ R.slots) ∧ c.exceptionTable.toList = tableOf M.hh ∧
  (∀ (v : Option Value) (h : PH) (H : Heap) (locs : List Loc) (cells slots : Nat) (pc : Nat) (i : Instr) (ls : Array Slot), decode M.b pc = .ok (i, 1) → rtOk M.ret i v → Q (.inl v) h → WH ad cA D xs L A h s s.heap H locs → cells ≤ M.cap → slots ≤ 6 * M.cap →
    W p l e R s m args below meth c H locs cells slots Z (F0 m pc ls ((v.map (tr ad)).toList))) ∧
  (∀ (x : Nat) (h : PH) (H : Heap) (locs : List Loc) (cells slots : Nat) (pc ik ic : Nat) (ls : Array Slot) (rest : List Value), thOk M pc ik ic x → Q (.inr x) h → WH ad cA D xs L A h s s.heap H locs → cells + 1 ≤ M.cap → slots + 6 ≤ 6 * M.cap → ls.size = M.nl → (rest.map fun v => v.category).sum ≤ 8 →
    W p l e R s m args below meth c H locs cells slots Z (F0 m pc ls rest)) ∧
  (∀ (x : Nat) (h : PH) (H : Heap) (locs : List Loc) (cells slots : Nat) (pc : Nat) (ls : Array Slot) (rest : List Value) (q : Addr) (ce : Cell), Q (.inr x) h → WH ad cA D xs L A h s s.heap H locs → cells ≤ M.cap → slots ≤ 6 * M.cap → H[q]? = some ce → ce.vm = .none → s.vm.findClass (exN x) = some ce.cls →
    vx_W p l e R s m args below meth c H locs cells slots Z (F0 m pc ls rest) q)
end
section
/-! ===== lemmas of the pure worlds ===== -/
theorem tbl_of {w : Jvm.Cond} (h : w ∈ tables_1) : w ∈ lw_tbl := List.mem_append_right _ h
theorem tbG_at {p : Nat} {w : Jvm.Cond} (h : atW p w = true) : w ∈ tbG := by
  simp only [atW, Bool.and_eq_true, decide_eq_true_eq] at h
  exact List.mem_filter.mpr ⟨tbl_of (List.mem_of_getElem? h.1), h.2⟩
theorem tbG_of (ws : List Jvm.Cond) (ps : List Nat) (hp : ws = ps.filterMap (fun i => tables_1[i]?)) (h : ws.all goodWord = true) : ∀ w ∈ ws, w ∈ tbG := by
  intro w hw
  have h1 := List.all_eq_true.mp h w hw
  rw [hp] at hw
  obtain ⟨i, -, hi⟩ := List.mem_filterMap.mp hw
  exact List.mem_filter.mpr ⟨tbl_of (List.mem_of_getElem? hi), h1⟩
theorem uin_1 : ∀ w ∈ u_ws RX1 TX1 4, w ∈ tbG := tbG_of (u_ws RX1 TX1 4) [312, 314, 316, 318] (by decide +kernel) (by decide +kernel)
theorem uin_3 : ∀ w ∈ u_ws RX3 TX3 3, w ∈ tbG := tbG_of (u_ws RX3 TX3 3) [212, 214, 216] (by decide +kernel) (by decide +kernel)
theorem uin_4 : ∀ w ∈ u_ws RX4 TX4 3, w ∈ tbG := tbG_of (u_ws RX4 TX4 3) [295, 297, 299] (by decide +kernel) (by decide +kernel)
theorem uin_5 : ∀ w ∈ u_ws RX5 TX5 18, w ∈ tbG := tbG_of (u_ws RX5 TX5 18) [159, 161, 163, 165, 167, 169, 171, 173, 175, 177, 179, 181, 183, 185, 187, 189, 191, 193] (by decide +kernel) (by decide +kernel)
theorem uin_6 : ∀ w ∈ u_ws RX6 TX6 2, w ∈ tbG := tbG_of (u_ws RX6 TX6 2) [103, 105] (by decide +kernel) (by decide +kernel)
theorem uin_7 : ∀ w ∈ u_ws RX7 TX7 10, w ∈ tbG := tbG_of (u_ws RX7 TX7 10) [339, 341, 343, 345, 347, 349, 351, 353, 355, 357] (by decide +kernel) (by decide +kernel)
theorem uin_8 : ∀ w ∈ u_ws RX8 TX8 16, w ∈ tbG := tbG_of (u_ws RX8 TX8 16) [249, 251, 253, 255, 257, 259, 261, 263, 265, 267, 269, 271, 273, 275, 277, 279] (by decide +kernel) (by decide +kernel)
theorem uin_10 : ∀ w ∈ u_ws RX10 TX10 9, w ∈ tbG := tbG_of (u_ws RX10 TX10 9) [63, 65, 67, 69, 71, 73, 75, 77, 79] (by decide +kernel) (by decide +kernel)
theorem uin_11 : ∀ w ∈ u_ws RX11 TX11 11, w ∈ tbG := tbG_of (u_ws RX11 TX11 11) [371, 373, 375, 377, 379, 381, 383, 385, 387, 389, 391] (by decide +kernel) (by decide +kernel)
theorem uin_X12 : ∀ w ∈ u_ws RX12 TX12 6, w ∈ tbG := tbG_of (u_ws RX12 TX12 6) [1139, 1141, 1143, 1145, 1147, 1149] (by decide +kernel) (by decide +kernel)
theorem uin_X13 : ∀ w ∈ u_ws RX13 TX13 28, w ∈ tbG := tbG_of (u_ws RX13 TX13 28) [805, 807, 809, 811, 813, 815, 817, 819, 821, 823, 825, 827, 829, 831, 833, 835, 837, 839, 841, 843, 845, 847, 849, 851, 853, 855, 857, 859] (by decide +kernel) (by decide +kernel)
theorem uin_J0 : ∀ w ∈ u_ws RJ0 TJ0 4, w ∈ tbG := tbG_of (u_ws RJ0 TJ0 4) [1096, 1098, 1100, 1102] (by decide +kernel) (by decide +kernel)
theorem uin_J4 : ∀ w ∈ u_ws RJ4 TJ4 4, w ∈ tbG := tbG_of (u_ws RJ4 TJ4 4) [883, 885, 887, 889] (by decide +kernel) (by decide +kernel)
theorem uin_Jx4a65c : ∀ w ∈ u_ws RJx4a65c TJx4a65c 3, w ∈ tbG := tbG_of (u_ws RJx4a65c TJx4a65c 3) [758, 754, 756] (by decide +kernel) (by decide +kernel)
theorem uin_Jx35411 : ∀ w ∈ u_ws RJx35411 TJx35411 4, w ∈ tbG := tbG_of (u_ws RJx35411 TJx35411 4) [1176, 1178, 1180, 1182] (by decide +kernel) (by decide +kernel)
theorem cl_ok {ci : Nat} {C : String} {T : u_T} {N : Nat} (h : pmCl[ci]? = some (C, T, N)) : (∀ w ∈ u_ws C T N, w ∈ tbG) ∧ (∃ ty0 : Nat → FieldType, ∀ k, k < N → parseFieldDescriptor (T k).2.2.1 = some (ty0 k)) ∧ (∀ a, a < N → ∀ b, b < N → a ≠ b → (T a).2.1 ≠ (T b).2.1) := by
  match ci, h with
  | 0, h => cases h; exact ⟨uin_1, ⟨_, tyX1_ok⟩, nmX1⟩
  | 1, h => cases h; exact ⟨uin_3, ⟨_, tyX3_ok⟩, nmX3⟩
  | 2, h => cases h; exact ⟨uin_4, ⟨_, tyX4_ok⟩, nmX4⟩
  | 3, h => cases h; exact ⟨uin_5, ⟨_, tyX5_ok⟩, nmX5⟩
  | 4, h => cases h; exact ⟨uin_6, ⟨_, tyX6_ok⟩, nmX6⟩
  | 5, h => cases h; exact ⟨uin_7, ⟨_, tyX7_ok⟩, nmX7⟩
  | 6, h => cases h; exact ⟨uin_8, ⟨_, tyX8_ok⟩, nmX8⟩
  | 7, h => cases h; exact ⟨uin_10, ⟨_, tyX10_ok⟩, nmX10⟩
  | 8, h => cases h; exact ⟨uin_11, ⟨_, tyX11_ok⟩, nmX11⟩
  | 9, h => cases h; exact ⟨uin_X12, ⟨_, tyX12_ok⟩, nmX12⟩
  | 10, h => cases h; exact ⟨uin_X13, ⟨_, tyX13_ok⟩, nmX13⟩
  | 11, h => cases h; exact ⟨uin_J0, ⟨_, tyJ0_ok⟩, nmJ0⟩
  | 12, h => cases h; exact ⟨uin_J4, ⟨_, tyJ4_ok⟩, nmJ4⟩
  | 13, h => cases h; exact ⟨uin_Jx4a65c, ⟨_, tyJx4a65c_ok⟩, nmJx4a65c⟩
  | 14, h => cases h; exact ⟨uin_Jx35411, ⟨_, tyJx35411_ok⟩, nmJx35411⟩
  | k + 15, h => cases h
/-! kinds -/
theorem kd_hi : (List.range 160).all (fun a => decide (a < NK) || (kd a).isNone) = true := by decide +kernel
theorem kd_lt {a : Nat} {q : Kd} (h : kd a = some q) : a < NK := by
  by_cases h1 : a < 160
  · have h2 := List.all_eq_true.mp kd_hi a (List.mem_range.mpr h1)
    simp only [Bool.or_eq_true, decide_eq_true_eq] at h2
    rcases h2 with h2 | h2
    · exact h2
    · rw [h] at h2; cases h2
  · exfalso
    have h3 : KSS.getD (a / 16) [] = [] := by
      have : KSS.length ≤ a / 16 := by
        have : KSS.length = 9 := rfl
        omega
      simp [List.getD_eq_getElem?_getD, List.getElem?_eq_none this]
    unfold kd at h
    rw [h3] at h
    cases h
theorem obC_of {a ci : Nat} (h : obC a ci = true) : ∃ rs, kd a = some (.inl (ci, rs)) := by
  unfold obC at h
  split at h
  · rename_i c rs hk
    rw [Nat.eq_of_beq_eq_true h] at hk
    exact ⟨rs, hk⟩
  · cases h
theorem arN_of {a t n : Nat} (h : arN a t = some n) : kd a = some (.inr (t, n)) := by
  unfold arN at h
  split at h
  · rename_i u n' hk
    split at h
    · rename_i hb
      cases h
      rw [Nat.eq_of_beq_eq_true hb] at hk
      exact hk
    · cases h
  · cases h
theorem arL_of {a n : Nat} (h : arL a = some n) : ∃ t, kd a = some (.inr (t, n)) := by
  unfold arL at h
  split at h
  · rename_i u n' hk
    cases h
    exact ⟨u, hk⟩
  · cases h
theorem wd_get {ad : Nat → Nat} {cA : Nat → ClassId} {h : PH} {a : Nat} (ha : a < NK) : (wd ad cA h)[a]? = some (ad a, cellE ad cA h a (kd a)) := by
  unfold wd
  rw [List.getElem?_map, List.getElem?_range ha]
  rfl
theorem wd_ob {ad : Nat → Nat} {cA : Nat → ClassId} {h : PH} {a ci : Nat} {rs : List (Option Nat)} (hk : kd a = some (.inl (ci, rs))) : (wd ad cA h)[a]? = some (ad a, .inr (ci, fvs ad h a ci rs)) := by
  rw [wd_get (kd_lt hk), hk]; rfl
theorem wd_ar {ad : Nat → Nat} {cA : Nat → ClassId} {h : PH} {a t n : Nat} (hk : kd a = some (.inr (t, n))) : (wd ad cA h)[a]? = some (ad a, .inl (cA t, n, aev ad h a t)) := by
  rw [wd_get (kd_lt hk), hk]; rfl
theorem wd_upd {ad : Nat → Nat} {cA : Nat → ClassId} {h h' : PH} {a : Nat} {E : va_E} (ha : a < NK) (hne : ∀ b, b ≠ a → cellE ad cA h' b (kd b) = cellE ad cA h b (kd b)) (hE : cellE ad cA h' a (kd a) = E) : (wd ad cA h).set a (ad a, E) = wd ad cA h' := by
  apply List.ext_getElem?
  intro b
  by_cases hb : b = a
  · subst hb
    rw [List.getElem?_set_self (by simpa [wd] using ha), wd_get ha, hE]
  · rw [List.getElem?_set_ne (Ne.symm hb)]
    by_cases hl : b < NK
    · rw [wd_get hl, wd_get hl, hne b hb]
    · rw [List.getElem?_eq_none (by simpa [wd] using hl), List.getElem?_eq_none (by simpa [wd] using hl)]
theorem up2_s {α : Type} (f : Nat → Nat → α) (a k : Nat) (x : α) : up2 f a k x a k = x := by simp [up2]
theorem up2_a {α : Type} (f : Nat → Nat → α) {a b : Nat} (k : Nat) (x : α) (h : b ≠ a) : up2 f a k x b = f b := by funext j; simp [up2, h]
theorem up2_k {α : Type} (f : Nat → Nat → α) (a : Nat) {k j : Nat} (x : α) (h : j ≠ k) : up2 f a k x a j = f a j := by simp [up2, h]
theorem cellE_eq {ad : Nat → Nat} {cA : Nat → ClassId} {h h' : PH} {b : Nat} (h1 : h'.1 b = h.1 b) (h2 : h'.2.1 b = h.2.1 b) (h3 : h'.2.2.1 b = h.2.2.1 b) (h4 : h'.2.2.2 b = h.2.2.2 b) (q : Option Kd) : cellE ad cA h' b q = cellE ad cA h b q := by
  have hf : ∀ rs so j, fv ad h' b rs so j = fv ad h b rs so j := by
    intro rs so j
    unfold fv gi gl
    rw [h1, h2]
  have ha : ∀ t, aev ad h' b t = aev ad h b t := by
    intro t
    unfold aev
    rw [h1, h2, h3]
  rcases q with _ | ⟨ci, rs⟩ | ⟨t, n⟩
  · rfl
  · simp only [cellE, fvs, hf]
  · simp only [cellE, ha]
theorem fvs_len {ad : Nat → Nat} {h : PH} {a ci : Nat} {rs : List (Option Nat)} : (fvs ad h a ci rs).length = (fso ci).length := by simp [fvs]
theorem fvs_get {ad : Nat → Nat} {h : PH} {a ci : Nat} {rs : List (Option Nat)} {j so : Nat} (hj : (fso ci).getD j 9 = so) (h9 : so ≠ 9) : (fvs ad h a ci rs)[j]? = some (fv ad h a rs so j) := by
  have hl : j < (fso ci).length := by
    rcases Nat.lt_or_ge j (fso ci).length with q | q
    · exact q
    · exfalso; apply h9; rw [← hj]; simp [List.getD_eq_getElem?_getD, List.getElem?_eq_none q]
  unfold fvs
  rw [List.getElem?_map, List.getElem?_range hl]
  have : (fso ci).getD j 0 = so := by
    rw [← hj]; simp [List.getD_eq_getElem?_getD, List.getElem?_eq_getElem hl]
  rw [List.getD_eq_getElem?_getD] at this
  simp [this]
theorem fvs_set {ad : Nat → Nat} {h h' : PH} {a ci : Nat} {rs : List (Option Nat)} {j : Nat} {v : Value} (hj : fv ad h' a rs ((fso ci).getD j 0) j = v) (hne : ∀ k, k ≠ j → fv ad h' a rs ((fso ci).getD k 0) k = fv ad h a rs ((fso ci).getD k 0) k) : (fvs ad h a ci rs).set j v = fvs ad h' a ci rs := by
  apply List.ext_getElem?
  intro k
  by_cases hk : k = j
  · subst hk
    by_cases hl : k < (fso ci).length
    · rw [List.getElem?_set_self (by rw [fvs_len]; exact hl)]
      unfold fvs
      rw [List.getElem?_map, List.getElem?_range hl]
      simp only [Option.map_some]
      rw [hj]
    · rw [List.getElem?_eq_none (by rw [List.length_set, fvs_len]; omega), List.getElem?_eq_none (by rw [fvs_len]; omega)]
  · rw [List.getElem?_set_ne (Ne.symm hk)]
    by_cases hl : k < (fso ci).length
    · unfold fvs
      rw [List.getElem?_map, List.getElem?_map, List.getElem?_range hl]
      simp only [Option.map_some]
      rw [hne k hk]
    · rw [List.getElem?_eq_none (by rw [fvs_len]; omega), List.getElem?_eq_none (by rw [fvs_len]; omega)]
theorem wd_si {ad : Nat → Nat} {cA : Nat → ClassId} {h : PH} {a ci j : Nat} {rs : List (Option Nat)} {x : Int32} (hk : kd a = some (.inl (ci, rs))) (hj : (fso ci).getD j 9 = 0) : (wd ad cA h).set a (ad a, .inr (ci, (fvs ad h a ci rs).set j (.int x))) = wd ad cA (si h a j x) := by
  refine wd_upd (kd_lt hk) (fun b hb => cellE_eq (h := h) (h' := si h a j x) (up2_a _ _ _ hb) rfl rfl rfl _) ?_
  rw [hk]
  show Sum.inr (ci, fvs ad (si h a j x) a ci rs) = _
  rw [fvs_set (h := h) (h' := si h a j x) (v := .int x)]
  · have h0 : (fso ci).getD j 0 = 0 := by
      rcases Nat.lt_or_ge j (fso ci).length with q | q
      · rw [← hj]; simp [List.getD_eq_getElem?_getD, List.getElem?_eq_getElem q]
      · simp [List.getD_eq_getElem?_getD, List.getElem?_eq_none q]
    rw [h0]
    show Value.int (up2 h.1 a j x a j) = _
    rw [up2_s]
  · intro k hk
    unfold fv gi gl si
    simp only
    rw [up2_k _ _ _ hk]
theorem wd_sl {ad : Nat → Nat} {cA : Nat → ClassId} {h : PH} {a ci j : Nat} {rs : List (Option Nat)} {x : Int64} (hk : kd a = some (.inl (ci, rs))) (hj : (fso ci).getD j 9 = 1) : (wd ad cA h).set a (ad a, .inr (ci, (fvs ad h a ci rs).set j (.long x))) = wd ad cA (sl h a j x) := by
  refine wd_upd (kd_lt hk) (fun b hb => cellE_eq (h := h) (h' := sl h a j x) rfl (up2_a _ _ _ hb) rfl rfl _) ?_
  rw [hk]
  show Sum.inr (ci, fvs ad (sl h a j x) a ci rs) = _
  rw [fvs_set (h := h) (h' := sl h a j x) (v := .long x)]
  · have h0 : (fso ci).getD j 0 = 1 := by
      rcases Nat.lt_or_ge j (fso ci).length with q | q
      · rw [← hj]; simp [List.getD_eq_getElem?_getD, List.getElem?_eq_getElem q]
      · exfalso; rw [List.getD_eq_getElem?_getD, List.getElem?_eq_none q] at hj; cases hj
    rw [h0]
    show Value.long (up2 h.2.1 a j x a j) = _
    rw [up2_s]
  · intro k hk
    unfold fv gi gl sl
    simp only
    rw [up2_k _ _ _ hk]
theorem wd_sai {ad : Nat → Nat} {cA : Nat → ClassId} {h : PH} {a n k : Nat} {x : Int32} {t : Nat} (hk : kd a = some (.inr (t, n))) (ht : t = 0 ∨ t = 1) : (wd ad cA h).set a (ad a, .inl (cA t, n, .inl (upd (h.1 a) k x))) = wd ad cA (si h a k x) := by
  refine wd_upd (kd_lt hk) (fun b hb => cellE_eq (h := h) (h' := si h a k x) (up2_a _ _ _ hb) rfl rfl rfl _) ?_
  rw [hk]
  have e : up2 h.1 a k x a = upd (h.1 a) k x := by funext j; simp [up2, upd]
  rcases ht with rfl | rfl
  · show Sum.inl (cA 0, n, Sum.inl (up2 h.1 a k x a)) = _
    rw [e]
  · show Sum.inl (cA 1, n, Sum.inl (up2 h.1 a k x a)) = _
    rw [e]
theorem wd_sal {ad : Nat → Nat} {cA : Nat → ClassId} {h : PH} {a n k : Nat} {x : Int64} (hk : kd a = some (.inr (2, n))) : (wd ad cA h).set a (ad a, .inl (cA 2, n, .inr (.inl (vp_updL (h.2.1 a) k x)))) = wd ad cA (sl h a k x) := by
  refine wd_upd (kd_lt hk) (fun b hb => cellE_eq (h := h) (h' := sl h a k x) rfl (up2_a _ _ _ hb) rfl rfl _) ?_
  rw [hk]
  have e : up2 h.2.1 a k x a = vp_updL (h.2.1 a) k x := by funext j; simp [up2, vp_updL]
  show Sum.inl (cA 2, n, Sum.inr (Sum.inl (up2 h.2.1 a k x a))) = _
  rw [e]
theorem wd_cpi {ad : Nat → Nat} {cA : Nat → ClassId} {h : PH} {a b n sp dp m : Nat} (hk : kd b = some (.inr (0, n))) : (wd ad cA h).set b (ad b, .inl (cA 0, n, .inl (va_cpy (h.1 a) (h.1 b) sp dp m))) = wd ad cA (cpi h a sp b dp m) := by
  refine wd_upd (kd_lt hk) (fun c hc => cellE_eq (h := h) (h' := cpi h a sp b dp m) (by show (if c = b then _ else _) = _; rw [if_neg hc]) rfl rfl rfl _) ?_
  rw [hk]
  show Sum.inl (cA 0, n, Sum.inl (if b = b then _ else _)) = _
  rw [if_pos rfl]
theorem wd_cpl {ad : Nat → Nat} {cA : Nat → ClassId} {h : PH} {a b n sp dp m : Nat} (hk : kd b = some (.inr (2, n))) : (wd ad cA h).set b (ad b, .inl (cA 2, n, .inr (.inl (va_cpy (h.2.1 a) (h.2.1 b) sp dp m)))) = wd ad cA (cpl h a sp b dp m) := by
  refine wd_upd (kd_lt hk) (fun c hc => cellE_eq (h := h) (h' := cpl h a sp b dp m) rfl (by show (if c = b then _ else _) = _; rw [if_neg hc]) rfl rfl _) ?_
  rw [hk]
  show Sum.inl (cA 2, n, Sum.inr (Sum.inl (if b = b then _ else _))) = _
  rw [if_pos rfl]
/-! locals -/
theorem tr_cat (ad : Nat → Nat) (v : Value) : (tr ad v).category = v.category := by cases v <;> rfl
theorem tl_mem {ad : Nat → Nat} {ls : Lc} {q : Nat × Value} : q ∈ tl ad ls ↔ ∃ v, ls.getD q.1 none = some v ∧ q.2 = tr ad v := by
  unfold tl
  rw [List.mem_filterMap]
  constructor
  · rintro ⟨i, -, hi⟩
    cases hv : ls.getD i none with
    | none => rw [hv] at hi; cases hi
    | some v => rw [hv] at hi; cases hi; exact ⟨v, hv, rfl⟩
  · rintro ⟨v, hv, he⟩
    refine ⟨q.1, ?_, by rw [hv]; show some (q.1, tr ad v) = some q; rw [← he]⟩
    rw [List.mem_range]
    rcases Nat.lt_or_ge q.1 ls.length with h | h
    · exact h
    · rw [List.getD_eq_getElem?_getD, List.getElem?_eq_none h] at hv; cases hv
theorem tl_get {ad : Nat → Nat} {ls : Lc} {lsA : Array Slot} {n i : Nat} {v : Value} (hl : lv_has lsA n (tl ad ls)) (h : lget ls i = some v) : lsA[i]? = some (.val (tr ad v)) :=
  hl.2.2 (i, tr ad v) (tl_mem.mpr ⟨v, h, rfl⟩)
theorem lv_mono {lsA : Array Slot} {n : Nat} {l l' : List (Nat × Value)} (h : lv_has lsA n l) (hs : ∀ q ∈ l', q ∈ l) : lv_has lsA n l' := ⟨h.1, h.2.1, fun q hq => h.2.2 q (hs q hq)⟩
theorem getD_set {ls : Lc} {i j : Nat} {o : Option Value} {v : Value} (h : (ls.set i o).getD j none = some v) : (j = i ∧ o = some v) ∨ (j ≠ i ∧ ls.getD j none = some v) := by
  by_cases hj : j = i
  · subst hj
    rcases Nat.lt_or_ge j ls.length with q | q
    · rw [List.getD_eq_getElem?_getD, List.getElem?_set_self q] at h
      exact Or.inl ⟨rfl, h⟩
    · rw [List.getD_eq_getElem?_getD, List.getElem?_eq_none (by rw [List.length_set]; exact q)] at h
      cases h
  · rw [List.getD_eq_getElem?_getD, List.getElem?_set_ne (Ne.symm hj), ← List.getD_eq_getElem?_getD] at h
    exact Or.inr ⟨hj, h⟩
theorem lclr_get {ls : Lc} {i j : Nat} {v : Value} (h : (lclr ls i).getD j none = some v) : ls.getD j none = some v ∧ (j + 1 = i → v.category ≠ 2) := by
  cases i with
  | zero => exact ⟨h, fun q => by cases q⟩
  | succ i =>
    have h' : (match ls.getD i none with
      | some w => (match w.category with
        | 2 => ls.set i none
        | _ => ls)
      | none => ls).getD j none = some v := h
    cases hw : ls.getD i none with
    | none =>
      rw [hw] at h'
      have h2 : ls.getD j none = some v := h'
      refine ⟨h2, fun e => ?_⟩
      have hji : j = i := by omega
      subst hji
      rw [hw] at h2
      cases h2
    | some w =>
      rw [hw] at h'
      by_cases hc : w.category = 2
      · have h2 : (ls.set i none).getD j none = some v := by
          cases w <;> first | exact h' | cases hc
        rcases getD_set h2 with ⟨-, q⟩ | ⟨q, q2⟩
        · cases q
        · exact ⟨q2, fun e => absurd (by omega) q⟩
      · have h2 : ls.getD j none = some v := by
          cases w <;> first | exact h' | exact absurd rfl hc
        refine ⟨h2, fun e => ?_⟩
        have hji : j = i := by omega
        subst hji
        rw [hw] at h2
        cases h2
        exact hc
theorem tl_put1 {ad : Nat → Nat} {ls : Lc} {i : Nat} {v : Value} : ∀ q ∈ tl ad (lput1 ls i v), q ∈ (i, tr ad v) :: (tl ad ls).filter (fun q => !(q.1 == i) && !(q.1 + 1 == i && q.2.category == 2)) := by
  intro q hq
  obtain ⟨u, hu, he⟩ := tl_mem.mp hq
  rcases getD_set hu with ⟨h1, h2⟩ | ⟨h1, h2⟩
  · cases h2
    have : q = (i, tr ad v) := by rw [← h1, ← he]
    rw [this]
    exact List.mem_cons_self
  · obtain ⟨h3, h4⟩ := lclr_get h2
    refine List.mem_cons_of_mem _ (List.mem_filter.mpr ⟨tl_mem.mpr ⟨u, h3, he⟩, ?_⟩)
    rw [he, tr_cat]
    by_cases h5 : q.1 + 1 = i
    · simp [h1, h4 h5]
    · simp [h1, h5]
theorem tl_put2 {ad : Nat → Nat} {ls : Lc} {i : Nat} {v : Value} : ∀ q ∈ tl ad (lput2 ls i v), q ∈ (i, tr ad v) :: (tl ad ls).filter (fun q => !(q.1 == i) && (!(q.1 == i + 1) && !(q.1 + 1 == i && q.2.category == 2))) := by
  intro q hq
  obtain ⟨u, hu, he⟩ := tl_mem.mp hq
  rcases getD_set hu with ⟨-, h2⟩ | ⟨h0, hu⟩
  · cases h2
  rcases getD_set hu with ⟨h1, h2⟩ | ⟨h1, h2⟩
  · cases h2
    have : q = (i, tr ad v) := by rw [← h1, ← he]
    rw [this]
    exact List.mem_cons_self
  · obtain ⟨h3, h4⟩ := lclr_get h2
    refine List.mem_cons_of_mem _ (List.mem_filter.mpr ⟨tl_mem.mpr ⟨u, h3, he⟩, ?_⟩)
    rw [he, tr_cat]
    by_cases h5 : q.1 + 1 = i
    · simp [h0, h1, h4 h5]
    · simp [h0, h1, h5]
theorem tl_put0 {ad : Nat → Nat} {ls : Lc} {i : Nat} {w : Value} : ∀ q ∈ tl ad (lput0 ls i), q ∈ (i, w) :: (tl ad ls).filter (fun q => !(q.1 == i) && !(q.1 + 1 == i && q.2.category == 2)) := by
  intro q hq
  obtain ⟨u, hu, he⟩ := tl_mem.mp hq
  rcases getD_set hu with ⟨-, h2⟩ | ⟨h1, h2⟩
  · cases h2
  · obtain ⟨h3, h4⟩ := lclr_get h2
    refine List.mem_cons_of_mem _ (List.mem_filter.mpr ⟨tl_mem.mpr ⟨u, h3, he⟩, ?_⟩)
    rw [he, tr_cat]
    by_cases h5 : q.1 + 1 = i
    · simp [h1, h4 h5]
    · simp [h1, h5]
theorem cI_ofInt (n : Int) : Int32.ofInt n = cI n := by
  cases n with
  | ofNat k => rfl
  | negSucc k =>
    show Int32.ofInt (Int.negSucc k) = -(nI (k + 1))
    rw [Int.negSucc_eq]
    first
      | rw [Int32.ofInt_neg]; rfl
      | simp [Int32.ofInt_neg, nI]
end
section
/-! ===== a step of the pure machine is a step of the machine ===== -/
def AtC (M : MI) (Z : State → Prop) (p : Program) (l : Launch) (e : Env) (R : Room) (s : State) (m : MethodId) (args : Array Value) (below : List Frame) (meth : Method) (cc : Code) (ad : Nat → Nat) (cA : Nat → ClassId) (D : va_G) (A : Nat → Prop) (xs : PH) (L : Nat) : KT := fun pc c ls st h =>
  ∀ (H : Heap) (locs : List Loc) (cells slots : Nat) (lsA : Array Slot), WH ad cA D xs L A h s s.heap H locs → lv_has lsA M.nl (tl ad ls) → cells ≤ c → slots ≤ 6 * c → c ≤ M.cap → W p l e R s m args below meth cc H locs cells slots Z (F0 m pc lsA (st.map (tr ad)))
/-- from this point of M's code, with these locals, stack and pure heap, every run ends with Q -/
def At (M : MI) (Q : Res → PH → Prop) : KT := fun pc c ls st h =>
  ∀ (Z : State → Prop) (p : Program) (l : Launch) (e : Env) (R : Room) (s : State) (m : MethodId) (args : Array Value) (below : List Frame) (meth : Method) (cc : Code) (ad : Nat → Nat) (cA : Nat → ClassId) (D : va_G) (A : Nat → Prop) (xs : PH) (L : Nat),
    Cx M Q Z p l e R s m args below meth cc ad cA D A xs L → AtC M Z p l e R s m args below meth cc ad cA D A xs L pc c ls st h
section
variable {M : MI} {Q : Res → PH → Prop} {Z : State → Prop} {p : Program} {l : Launch} {e : Env} {R : Room} {s : State} {m : MethodId} {args : Array Value} {below : List Frame} {meth : Method} {cc : Code} {ad : Nat → Nat} {cA : Nat → ClassId} {D : va_G} {A : Nat → Prop} {xs : PH} {L : Nat} {k : KT} {pc c : Nat} {ls : Lc} {st : List Value} {h : PH}
theorem ac_stl (hx : p.tables.exec = Jvm.exec) (hb : cc.code = M.b) (hk : ∀ pc c ls st h, k pc c ls st h → AtC M Z p l e R s m args below meth cc ad cA D A xs L pc c ls st h) {q n : Nat}
    (hd : match q with
      | 0 => decode M.b pc = .ok (.iload n, 2)
      | 1 => decode M.b pc = .ok (.lload n, 2)
      | 2 => decode M.b pc = .ok (.fload n, 2)
      | 3 => decode M.b pc = .ok (.dload n, 2)
      | _ => decode M.b pc = .ok (.aload n, 2)) (hs : stl k q (pc + 2) c ls st h n) : AtC M Z p l e R s m args below meth cc ad cA D A xs L pc c ls st h := by
  intro H locs cells slots lsA hW hl h1 h2 h3
  unfold stl at hs
  split at hs
  · split at hs
    · rename_i x hg; exact lv_iload hx hb hd (tl_get hl hg) (hk _ _ _ _ _ hs H locs cells slots lsA hW hl h1 h2 h3)
    · cases hs
  · split at hs
    · rename_i x hg; exact lv_lload hx hb hd (tl_get hl hg) (hk _ _ _ _ _ hs H locs cells slots lsA hW hl h1 h2 h3)
    · cases hs
  · split at hs
    · rename_i x hg; exact lv_fload hx hb hd (tl_get hl hg) (hk _ _ _ _ _ hs H locs cells slots lsA hW hl h1 h2 h3)
    · cases hs
  · split at hs
    · rename_i x hg; exact lv_dload hx hb hd (tl_get hl hg) (hk _ _ _ _ _ hs H locs cells slots lsA hW hl h1 h2 h3)
    · cases hs
  · rename_i q0 q1 q2 q3
    split at hs
    · rename_i x hg; exact lv_aload hx hb (by simpa [q0, q1, q2, q3] using hd) (tl_get hl hg) (hk _ _ _ _ _ hs H locs cells slots lsA hW hl h1 h2 h3)
    · rename_i hg; exact lv_aloadN hx hb (by simpa [q0, q1, q2, q3] using hd) (tl_get hl hg) (hk _ _ _ _ _ hs H locs cells slots lsA hW hl h1 h2 h3)
    · cases hs
theorem ac_stl_n (hx : p.tables.exec = Jvm.exec) (hb : cc.code = M.b) (hk : ∀ pc c ls st h, k pc c ls st h → AtC M Z p l e R s m args below meth cc ad cA D A xs L pc c ls st h) {q : Nat} {n : Fin 4}
    (hd : match q with
      | 0 => decode M.b pc = .ok (.iload_n n, 1)
      | 1 => decode M.b pc = .ok (.lload_n n, 1)
      | 2 => decode M.b pc = .ok (.fload_n n, 1)
      | 3 => decode M.b pc = .ok (.dload_n n, 1)
      | _ => decode M.b pc = .ok (.aload_n n, 1)) (hs : stl k q (pc + 1) c ls st h n.val) : AtC M Z p l e R s m args below meth cc ad cA D A xs L pc c ls st h := by
  intro H locs cells slots lsA hW hl h1 h2 h3
  unfold stl at hs
  split at hs
  · split at hs
    · rename_i x hg; exact lv_iload_n hx hb hd rfl (tl_get hl hg) (hk _ _ _ _ _ hs H locs cells slots lsA hW hl h1 h2 h3)
    · cases hs
  · split at hs
    · rename_i x hg; exact lv_lload_n hx hb hd rfl (tl_get hl hg) (hk _ _ _ _ _ hs H locs cells slots lsA hW hl h1 h2 h3)
    · cases hs
  · split at hs
    · rename_i x hg; exact lv_fload_n hx hb hd rfl (tl_get hl hg) (hk _ _ _ _ _ hs H locs cells slots lsA hW hl h1 h2 h3)
    · cases hs
  · split at hs
    · rename_i x hg; exact lv_dload_n hx hb hd rfl (tl_get hl hg) (hk _ _ _ _ _ hs H locs cells slots lsA hW hl h1 h2 h3)
    · cases hs
  · rename_i q0 q1 q2 q3
    split at hs
    · rename_i x hg; exact lv_aload_n hx hb (by simpa [q0, q1, q2, q3] using hd) rfl (tl_get hl hg) (hk _ _ _ _ _ hs H locs cells slots lsA hW hl h1 h2 h3)
    · rename_i hg; exact lv_aload_nN hx hb (by simpa [q0, q1, q2, q3] using hd) rfl (tl_get hl hg) (hk _ _ _ _ _ hs H locs cells slots lsA hW hl h1 h2 h3)
    · cases hs
theorem blt_of {a b : Nat} (h : Nat.blt a b = true) : a < b := by simpa [Nat.blt_eq] using h
theorem ac_sts (hx : p.tables.exec = Jvm.exec) (hb : cc.code = M.b) (hk : ∀ pc c ls st h, k pc c ls st h → AtC M Z p l e R s m args below meth cc ad cA D A xs L pc c ls st h) {q n : Nat}
    (hd : match q with
      | 0 => decode M.b pc = .ok (.istore n, 2)
      | 1 => decode M.b pc = .ok (.lstore n, 2)
      | 2 => decode M.b pc = .ok (.fstore n, 2)
      | 3 => decode M.b pc = .ok (.dstore n, 2)
      | _ => decode M.b pc = .ok (.astore n, 2)) (hs : sts M.nl k q (pc + 2) c ls st h n) : AtC M Z p l e R s m args below meth cc ad cA D A xs L pc c ls st h := by
  intro H locs cells slots lsA hW hl h1 h2 h3
  unfold sts at hs
  split at hs
  · split at hs
    · rename_i x r hn; exact lv_istore hx hb hd hl (blt_of hn) rfl (fun ls' hl' => hk _ _ _ _ _ hs H locs cells slots ls' hW (lv_mono hl' tl_put1) h1 h2 h3)
    · cases hs
  · split at hs
    · rename_i x r hn; exact lv_lstore hx hb hd hl (blt_of hn) rfl (fun ls' hl' => hk _ _ _ _ _ hs H locs cells slots ls' hW (lv_mono hl' tl_put2) h1 h2 h3)
    · cases hs
  · split at hs
    · rename_i x r hn; exact lv_fstore hx hb hd hl (blt_of hn) rfl (fun ls' hl' => hk _ _ _ _ _ hs H locs cells slots ls' hW (lv_mono hl' tl_put1) h1 h2 h3)
    · cases hs
  · split at hs
    · rename_i x r hn; exact lv_dstore hx hb hd hl (blt_of hn) rfl (fun ls' hl' => hk _ _ _ _ _ hs H locs cells slots ls' hW (lv_mono hl' tl_put2) h1 h2 h3)
    · cases hs
  · rename_i q0 q1 q2 q3
    split at hs
    · rename_i x r hn; exact lv_astore hx hb (by simpa [q0, q1, q2, q3] using hd) hl (blt_of hn) rfl (fun ls' hl' => hk _ _ _ _ _ hs H locs cells slots ls' hW (lv_mono hl' tl_put1) h1 h2 h3)
    · rename_i r hn; exact lv_astoreN hx hb (by simpa [q0, q1, q2, q3] using hd) hl (blt_of hn) rfl (fun ls' hl' => hk _ _ _ _ _ hs H locs cells slots ls' hW (lv_mono hl' tl_put1) h1 h2 h3)
    · cases hs
theorem ac_sts_n (hx : p.tables.exec = Jvm.exec) (hb : cc.code = M.b) (hk : ∀ pc c ls st h, k pc c ls st h → AtC M Z p l e R s m args below meth cc ad cA D A xs L pc c ls st h) {q : Nat} {n : Fin 4}
    (hd : match q with
      | 0 => decode M.b pc = .ok (.istore_n n, 1)
      | 1 => decode M.b pc = .ok (.lstore_n n, 1)
      | 2 => decode M.b pc = .ok (.fstore_n n, 1)
      | 3 => decode M.b pc = .ok (.dstore_n n, 1)
      | _ => decode M.b pc = .ok (.astore_n n, 1)) (hs : sts M.nl k q (pc + 1) c ls st h n.val) : AtC M Z p l e R s m args below meth cc ad cA D A xs L pc c ls st h := by
  intro H locs cells slots lsA hW hl h1 h2 h3
  unfold sts at hs
  split at hs
  · split at hs
    · rename_i x r hn; exact lv_istore_n hx hb hd rfl hl (blt_of hn) rfl (fun ls' hl' => hk _ _ _ _ _ hs H locs cells slots ls' hW (lv_mono hl' tl_put1) h1 h2 h3)
    · cases hs
  · split at hs
    · rename_i x r hn; exact lv_lstore_n hx hb hd rfl hl (blt_of hn) rfl (fun ls' hl' => hk _ _ _ _ _ hs H locs cells slots ls' hW (lv_mono hl' tl_put2) h1 h2 h3)
    · cases hs
  · split at hs
    · rename_i x r hn; exact lv_fstore_n hx hb hd rfl hl (blt_of hn) rfl (fun ls' hl' => hk _ _ _ _ _ hs H locs cells slots ls' hW (lv_mono hl' tl_put1) h1 h2 h3)
    · cases hs
  · split at hs
    · rename_i x r hn; exact lv_dstore_n hx hb hd rfl hl (blt_of hn) rfl (fun ls' hl' => hk _ _ _ _ _ hs H locs cells slots ls' hW (lv_mono hl' tl_put2) h1 h2 h3)
    · cases hs
  · rename_i q0 q1 q2 q3
    split at hs
    · rename_i x r hn; exact lv_astore_n hx hb (by simpa [q0, q1, q2, q3] using hd) rfl hl (blt_of hn) rfl (fun ls' hl' => hk _ _ _ _ _ hs H locs cells slots ls' hW (lv_mono hl' tl_put1) h1 h2 h3)
    · rename_i r hn; exact lv_astore_nN hx hb (by simpa [q0, q1, q2, q3] using hd) rfl hl (blt_of hn) rfl (fun ls' hl' => hk _ _ _ _ _ hs H locs cells slots ls' hW (lv_mono hl' tl_put1) h1 h2 h3)
    · cases hs
theorem ac_a2i (hk : ∀ pc c ls st h, k pc c ls st h → AtC M Z p l e R s m args below meth cc ad cA D A xs L pc c ls st h) {f : Int32 → Int32 → Int32}
    (row : ∀ (x y : Int32) (H : Heap) (locs : List Loc) (cells slots : Nat) (lsA : Array Slot) (rest : List Value), W p l e R s m args below meth cc H locs cells slots Z (F0 m (pc + 1) lsA (.int (f x y) :: rest)) → W p l e R s m args below meth cc H locs cells slots Z (F0 m pc lsA (.int y :: .int x :: rest)))
    (hs : a2i k pc c ls st h f) : AtC M Z p l e R s m args below meth cc ad cA D A xs L pc c ls st h := by
  intro H locs cells slots lsA hW hl h1 h2 h3
  unfold a2i at hs
  split at hs
  · exact row _ _ _ _ _ _ _ _ (hk _ _ _ _ _ hs H locs cells slots lsA hW hl h1 h2 h3)
  · cases hs
theorem ac_a2l (hk : ∀ pc c ls st h, k pc c ls st h → AtC M Z p l e R s m args below meth cc ad cA D A xs L pc c ls st h) {f : Int64 → Int64 → Int64}
    (row : ∀ (x y : Int64) (H : Heap) (locs : List Loc) (cells slots : Nat) (lsA : Array Slot) (rest : List Value), W p l e R s m args below meth cc H locs cells slots Z (F0 m (pc + 1) lsA (.long (f x y) :: rest)) → W p l e R s m args below meth cc H locs cells slots Z (F0 m pc lsA (.long y :: .long x :: rest)))
    (hs : a2l k pc c ls st h f) : AtC M Z p l e R s m args below meth cc ad cA D A xs L pc c ls st h := by
  intro H locs cells slots lsA hW hl h1 h2 h3
  unfold a2l at hs
  split at hs
  · exact row _ _ _ _ _ _ _ _ (hk _ _ _ _ _ hs H locs cells slots lsA hW hl h1 h2 h3)
  · cases hs
theorem ac_if (hx : p.tables.exec = Jvm.exec) (hb : cc.code = M.b) (hk : ∀ pc c ls st h, k pc c ls st h → AtC M Z p l e R s m args below meth cc ad cA D A xs L pc c ls st h) {cd : Jvm.ClassFile.Cond} {off : Int} {t : Nat} {x : Int32} {r : List Value}
    (hd : decode M.b pc = .ok (.ifCond cd off, 3)) (ht : (pc : Int) + off = (t : Int)) (hs : stcc cd x 0 (k t c ls r h) (k (pc + 3) c ls r h)) : AtC M Z p l e R s m args below meth cc ad cA D A xs L pc c ls (.int x :: r) h := by
  intro H locs cells slots lsA hW hl h1 h2 h3
  have g1 : ∀ pc' : Nat, k pc' c ls r h → W p l e R s m args below meth cc H locs cells slots Z (F0 m pc' lsA (r.map (tr ad))) := fun pc' h9 => hk _ _ _ _ _ h9 H locs cells slots lsA hW hl h1 h2 h3
  cases cd
  · exact lv_if_eq hx hb hd ht (fun q => g1 _ (hs.1 q)) (fun q => g1 _ (hs.2 q))
  · exact lv_if_ne hx hb hd ht (fun q => g1 _ (hs.1 q)) (fun q => g1 _ (hs.2 q))
  · exact lv_if_lt hx hb hd ht (fun q => g1 _ (hs.1 q)) (fun q => g1 _ (hs.2 q))
  · exact lv_if_ge hx hb hd ht (fun q => g1 _ (hs.1 q)) (fun q => g1 _ (hs.2 q))
  · exact lv_if_gt hx hb hd ht (fun q => g1 _ (hs.1 q)) (fun q => g1 _ (hs.2 q))
  · exact lv_if_le hx hb hd ht (fun q => g1 _ (hs.1 q)) (fun q => g1 _ (hs.2 q))
theorem ac_icmp (hx : p.tables.exec = Jvm.exec) (hb : cc.code = M.b) (hk : ∀ pc c ls st h, k pc c ls st h → AtC M Z p l e R s m args below meth cc ad cA D A xs L pc c ls st h) {cd : Jvm.ClassFile.Cond} {off : Int} {t : Nat} {x y : Int32} {r : List Value}
    (hd : decode M.b pc = .ok (.if_icmp cd off, 3)) (ht : (pc : Int) + off = (t : Int)) (hs : stcc cd x y (k t c ls r h) (k (pc + 3) c ls r h)) : AtC M Z p l e R s m args below meth cc ad cA D A xs L pc c ls (.int y :: .int x :: r) h := by
  intro H locs cells slots lsA hW hl h1 h2 h3
  have g1 : ∀ pc' : Nat, k pc' c ls r h → W p l e R s m args below meth cc H locs cells slots Z (F0 m pc' lsA (r.map (tr ad))) := fun pc' h9 => hk _ _ _ _ _ h9 H locs cells slots lsA hW hl h1 h2 h3
  cases cd
  · exact lv_icmp_eq hx hb hd ht (fun q => g1 _ (hs.1 q)) (fun q => g1 _ (hs.2 q))
  · exact lv_icmp_ne hx hb hd ht (fun q => g1 _ (hs.1 q)) (fun q => g1 _ (hs.2 q))
  · exact lv_icmp_lt hx hb hd ht (fun q => g1 _ (hs.1 q)) (fun q => g1 _ (hs.2 q))
  · exact lv_icmp_ge hx hb hd ht (fun q => g1 _ (hs.1 q)) (fun q => g1 _ (hs.2 q))
  · exact lv_icmp_gt hx hb hd ht (fun q => g1 _ (hs.1 q)) (fun q => g1 _ (hs.2 q))
  · exact lv_icmp_le hx hb hd ht (fun q => g1 _ (hs.1 q)) (fun q => g1 _ (hs.2 q))
theorem fld_of {idx ci j so q : Nat} (h : fldOk M idx ci j so q = true) : ∃ (C : String) (T : u_T) (N : Nat), pmCl[ci]? = some (C, T, N) ∧ j < N ∧ Cond.fieldLink M.y.cls idx (T j).1 (T j).2.1 (T j).2.2.1 ∈ tbG ∧ N = (fso ci).length ∧
    ((so = 0 ∧ (fso ci).getD j 9 = 0 ∧ (T j).2.2.1 = "I") ∨ (so = 1 ∧ (fso ci).getD j 9 = 0 ∧ (T j).2.2.1 = "Z") ∨ (so = 2 ∧ (fso ci).getD j 9 = 1 ∧ (T j).2.2.1 = "J") ∨ (so = 3 ∧ (fso ci).getD j 9 = 2)) := by
  unfold fldOk at h
  split at h
  · rename_i C T N hc
    simp only [Bool.and_eq_true] at h
    obtain ⟨⟨⟨a1, a2⟩, a3⟩, a4⟩ := h
    refine ⟨C, T, N, hc, blt_of a1, tbG_at a2, Nat.eq_of_beq_eq_true a3, ?_⟩
    split at a4
    · rename_i e1; exact Or.inl ⟨rfl, e1, of_decide_eq_true a4⟩
    · rename_i e1; exact Or.inr (Or.inl ⟨rfl, e1, of_decide_eq_true a4⟩)
    · rename_i e1; exact Or.inr (Or.inr (Or.inl ⟨rfl, e1, of_decide_eq_true a4⟩))
    · rename_i e1; exact Or.inr (Or.inr (Or.inr ⟨rfl, e1⟩))
    · cases a4
  · cases h
theorem obR_of {a j b ci : Nat} {rs : List (Option Nat)} (hk : kd a = some (.inl (ci, rs))) (h : obR a j = some b) : rs.getD j none = some b := by
  unfold obR at h
  rw [hk] at h
  exact h
theorem ac_stg (hx : p.tables.exec = Jvm.exec) (hb : cc.code = M.b) (hown : s.vm.findClass M.y.cls = some m.cls) (hts : ∀ w ∈ tbG, w.before args s = true) (hK : va_K D pmCl (pmTy cA) s) (hk : ∀ pc c ls st h, k pc c ls st h → AtC M Z p l e R s m args below meth cc ad cA D A xs L pc c ls st h) {idx ci j so q : Nat}
    (hd : decode M.b pc = .ok (.getfield idx, 3)) (hf : fldOk M idx ci j so q = true) (hs : stg k pc c ls st h ci j so) : AtC M Z p l e R s m args below meth cc ad cA D A xs L pc c ls st h := by
  intro H locs cells slots lsA hW hl h1 h2 h3
  obtain ⟨C, T, N, hc, hjN, hw, hN, hso⟩ := fld_of hf
  unfold stg at hs
  split at hs
  · rename_i a r
    split at hs
    · rename_i hob
      obtain ⟨rs, hkd⟩ := obC_of hob
      have row : ∀ v : Value, (fvs ad h a ci rs)[j]? = some v → W p l e R s m args below meth cc H locs cells slots Z (F0 m (pc + 3) lsA (v :: r.map (tr ad))) → W p l e R s m args below meth cc H locs cells slots Z (F0 m pc lsA ((Value.ref a :: r).map (tr ad))) := by
        intro v hv kk
        exact va_get (D := D) (ci := ci) (v := v) (C := C) (T := T) (N := N) hx hb hts (cl_ok hc).1 hown hK hW.1 a (wd_ob hkd) hc j hjN (hts _ hw) (fun _ h9 => h9) hv hd kk
      rcases hso with ⟨rfl, e1, -⟩ | ⟨rfl, e1, -⟩ | ⟨rfl, e1, -⟩ | ⟨rfl, e1⟩
      · exact row _ (fvs_get e1 (by decide)) (hk _ _ _ _ _ hs H locs cells slots lsA hW hl h1 h2 h3)
      · exact row _ (fvs_get e1 (by decide)) (hk _ _ _ _ _ hs H locs cells slots lsA hW hl h1 h2 h3)
      · exact row _ (fvs_get e1 (by decide)) (hk _ _ _ _ _ hs H locs cells slots lsA hW hl h1 h2 h3)
      · simp only at hs
        split at hs
        · rename_i b hb2
          have e2 := fvs_get (ad := ad) (h := h) (a := a) (rs := rs) e1 (by decide)
          have e3 : fv ad h a rs 2 j = .ref (ad b) := by
            unfold fv
            simp only
            rw [obR_of hkd hb2]
            rfl
          rw [e3] at e2
          exact row _ e2 (hk _ _ _ _ _ hs H locs cells slots lsA hW hl h1 h2 h3)
        · cases hs
    · cases hs
  · cases hs
end
end
section
/-! ===== steps that write, arrays, switches ===== -/
theorem pd_I : parseFieldDescriptor "I" = some .int := by decide +kernel
theorem pd_Z : parseFieldDescriptor "Z" = some .boolean := by decide +kernel
theorem pd_J : parseFieldDescriptor "J" = some .long := by decide +kernel
theorem scr_si {xs : PH} {L a j : Nat} {x : Int32} {h : PH} (ha : a < NK) (hs : scr xs L h) : scr xs L (si h a j x) := by
  have hN : NK = 130 := rfl
  intro b hb
  obtain ⟨e1, e2, e3, e4⟩ := hs b hb
  exact ⟨(up2_a _ _ _ (by omega)).trans e1, e2, e3, e4⟩
theorem scr_sl {xs : PH} {L a j : Nat} {x : Int64} {h : PH} (ha : a < NK) (hs : scr xs L h) : scr xs L (sl h a j x) := by
  have hN : NK = 130 := rfl
  intro b hb
  obtain ⟨e1, e2, e3, e4⟩ := hs b hb
  exact ⟨e1, (up2_a _ _ _ (by omega)).trans e2, e3, e4⟩
theorem scr_sr {xs : PH} {L a j : Nat} {x : Option Nat} {h : PH} (ha : a < NK) (hs : scr xs L h) : scr xs L (sr h a j x) := by
  have hN : NK = 130 := rfl
  intro b hb
  obtain ⟨e1, e2, e3, e4⟩ := hs b hb
  exact ⟨e1, e2, (up2_a _ _ _ (by omega)).trans e3, e4⟩
theorem scr_cpi {xs : PH} {L a sp b dp n : Nat} {h : PH} (hb : b < NK) (hs : scr xs L h) : scr xs L (cpi h a sp b dp n) := by
  have hN : NK = 130 := rfl
  intro d hd
  obtain ⟨e1, e2, e3, e4⟩ := hs d hd
  exact ⟨(if_neg (by omega : ¬ d = b)).trans e1, e2, e3, e4⟩
theorem scr_cpl {xs : PH} {L a sp b dp n : Nat} {h : PH} (hb : b < NK) (hs : scr xs L h) : scr xs L (cpl h a sp b dp n) := by
  have hN : NK = 130 := rfl
  intro d hd
  obtain ⟨e1, e2, e3, e4⟩ := hs d hd
  exact ⟨e1, (if_neg (by omega : ¬ d = b)).trans e2, e3, e4⟩
section
variable {M : MI} {Q : Res → PH → Prop} {Z : State → Prop} {p : Program} {l : Launch} {e : Env} {R : Room} {s : State} {m : MethodId} {args : Array Value} {below : List Frame} {meth : Method} {cc : Code} {ad : Nat → Nat} {cA : Nat → ClassId} {D : va_G} {A : Nat → Prop} {xs : PH} {L : Nat} {k : KT} {pc c : Nat} {ls : Lc} {st : List Value} {h : PH}
theorem ac_put (hx : p.tables.exec = Jvm.exec) (hb : cc.code = M.b) (hown : s.vm.findClass M.y.cls = some m.cls) (hts : ∀ w ∈ tbG, w.before args s = true) (hK : va_K D pmCl (pmTy cA) s) (hk : ∀ pc c ls st h, k pc c ls st h → AtC M Z p l e R s m args below meth cc ad cA D A xs L pc c ls st h) {idx ci j so q : Nat}
    (hd : decode M.b pc = .ok (.putfield idx, 3)) (hf : fldOk M idx ci j so q = true) (hfin : (match pmCl[ci]? with
      | some (_, T, _) => !(T j).2.2.2
      | none => false) = true) (hs : stp0 k pc c ls st h ci j so) : AtC M Z p l e R s m args below meth cc ad cA D A xs L pc c ls st h := by
  intro H locs cells slots lsA hW hl h1 h2 h3
  obtain ⟨C, T, N, hc, hjN, hw, hN, hso⟩ := fld_of hf
  rw [hc] at hfin
  have hfin2 : (T j).2.2.2 = false := by
    have h9 : (!(T j).2.2.2) = true := hfin
    simpa using h9
  obtain ⟨hin, ⟨ty0, hty⟩, hnm⟩ := cl_ok hc
  have row : ∀ (a : Nat) (rs : List (Option Nat)) (v : Value) (ty : FieldType) (h' : PH) (r : List Value), kd a = some (.inl (ci, rs)) → parseFieldDescriptor (T j).2.2.1 = some ty → narrow ty v = v → fits ty v = true →
      (wd ad cA h).set a (ad a, .inr (ci, (fvs ad h a ci rs).set j v)) = wd ad cA h' → scr xs L h' → k (pc + 3) c ls r h' →
      W p l e R s m args below meth cc H locs cells slots Z (F0 m pc lsA (v :: .ref (ad a) :: r.map (tr ad))) := by
    intro a rs v ty h' r hkd hpd hn hfit he hsc hkk
    refine va_put (D := D) (ci := ci) (v := v) (ty := ty) (C := C) (T := T) (N := N) hx hb hts hin ty0 hty hnm hown hK hW.1 hW.2.1 hW.2.2.1 a (wd_ob hkd) hc j hjN (hts _ hw) (fun _ h9 => h9) hfin2 hpd hn hfit (by rw [fvs_len, ← hN]; exact hjN) hd ?_
    intro H1 locs1 hP hD hS
    rw [he] at hP hD
    exact hk _ _ _ _ _ hkk H1 locs1 cells slots lsA ⟨hP, hD, hS, hsc⟩ hl h1 h2 h3
  unfold stp0 at hs
  rcases hso with ⟨rfl, e1, e2⟩ | ⟨rfl, e1, e2⟩ | ⟨rfl, e1, e2⟩ | ⟨rfl, e1⟩
  · simp only at hs
    split at hs
    · rename_i x a r
      split at hs
      · rename_i hob
        obtain ⟨rs, hkd⟩ := obC_of hob
        exact row a rs (.int x) .int _ r hkd (by rw [e2]; exact pd_I) rfl rfl (wd_si hkd e1) (scr_si (kd_lt hkd) hW.2.2.2) hs
      · cases hs
    · cases hs
  · simp only at hs
    split at hs
    · rename_i x a r
      split at hs
      · rename_i hob
        obtain ⟨rs, hkd⟩ := obC_of hob
        obtain ⟨hB, hs⟩ := hs
        refine row a rs (.int x) .boolean _ r hkd (by rw [e2]; exact pd_Z) ?_ ?_ (wd_si hkd e1) (scr_si (kd_lt hkd) hW.2.2.2) hs
        · rcases hB with rfl | rfl <;> rfl
        · rcases hB with rfl | rfl <;> rfl
      · cases hs
    · cases hs
  · simp only at hs
    split at hs
    · rename_i x a r
      split at hs
      · rename_i hob
        obtain ⟨rs, hkd⟩ := obC_of hob
        exact row a rs (.long x) .long _ r hkd (by rw [e2]; exact pd_J) rfl rfl (wd_sl hkd e1) (scr_sl (kd_lt hkd) hW.2.2.2) hs
      · cases hs
    · cases hs
  · exact absurd hs (by simp)
theorem ty_at (cA : Nat → ClassId) : (pmTy cA)[0]? = some (cA 0, .int) ∧ (pmTy cA)[1]? = some (cA 1, .byte) ∧ (pmTy cA)[2]? = some (cA 2, .long) ∧ (pmTy cA)[3]? = some (cA 3, .double) ∧ (pmTy cA)[4]? = some (cA 4, .object RX8) ∧ (pmTy cA)[5]? = some (cA 5, .object "WaveUpgrade$Command") := ⟨rfl, rfl, rfl, rfl, rfl, rfl⟩
theorem rf_map (ad : Nat → Nat) (o : Option Nat) : va_rf (o.map ad) = tr ad (rf1 o) := by cases o <;> rfl
theorem ac_sta (hx : p.tables.exec = Jvm.exec) (hb : cc.code = M.b) (hK : va_K D pmCl (pmTy cA) s) (hk : ∀ pc c ls st h, k pc c ls st h → AtC M Z p l e R s m args below meth cc ad cA D A xs L pc c ls st h) {q : Nat}
    (hd : match q with
      | 0 => decode M.b pc = .ok (.iaload, 1)
      | 1 => decode M.b pc = .ok (.baload, 1)
      | 2 => decode M.b pc = .ok (.laload, 1)
      | 3 => decode M.b pc = .ok (.daload, 1)
      | _ => decode M.b pc = .ok (.aaload, 1)) (hq : q ≤ 5) (hs : sta k q pc c ls st h) : AtC M Z p l e R s m args below meth cc ad cA D A xs L pc c ls st h := by
  intro H locs cells slots lsA hW hl h1 h2 h3
  unfold sta at hs
  split at hs
  · rename_i i a r
    split at hs
    · rename_i n hn
      have hkd := arN_of hn
      obtain ⟨hin, hs⟩ := hs
      have t := ty_at cA
      have go : ∀ (pc' : Nat) (st' : List Value), k pc' c ls st' h → W p l e R s m args below meth cc H locs cells slots Z (F0 m pc' lsA (st'.map (tr ad))) := fun pc' st' h9 => hk _ _ _ _ _ h9 H locs cells slots lsA hW hl h1 h2 h3
      match q, hd, hs, hkd, hq with
      | 0, hd, hs, hkd, _ => exact va_iald hx hb hK hW.1 a 0 (wd_ar hkd) t.1 hin hd (go _ _ hs)
      | 1, hd, hs, hkd, _ => exact va_bald hx hb hK hW.1 a 1 (wd_ar hkd) t.2.1 hin hd (go _ _ hs)
      | 2, hd, hs, hkd, _ => exact va_lald hx hb hK hW.1 a 2 (wd_ar hkd) t.2.2.1 hin hd (go _ _ hs)
      | 3, hd, hs, hkd, _ => exact hs.elim
      | 4, hd, hs, hkd, _ =>
        refine va_aldq hx hb hK hW.1 a 4 (wd_ar hkd) t.2.2.2.2.1 hin hd ?_
        show W p l e R s m args below meth cc H locs cells slots Z (F0 m (pc + 1) lsA (va_rf ((gr h a i.toNatClampNeg).map ad) :: r.map (tr ad)))
        cases hg : gr h a i.toNatClampNeg with
        | none => exact go _ _ (hs.2 hg)
        | some b => exact go _ _ (hs.1 b hg)
      | 5, hd, hs, hkd, _ =>
        refine va_aldq hx hb hK hW.1 a 5 (wd_ar hkd) t.2.2.2.2.2 hin hd ?_
        show W p l e R s m args below meth cc H locs cells slots Z (F0 m (pc + 1) lsA (va_rf ((gr h a i.toNatClampNeg).map ad) :: r.map (tr ad)))
        cases hg : gr h a i.toNatClampNeg with
        | none => exact go _ _ (hs.2 hg)
        | some b => exact go _ _ (hs.1 b hg)
      | q + 6, _, _, _, hq => omega
    · cases hs
  · cases hs
theorem ac_stq (hx : p.tables.exec = Jvm.exec) (hb : cc.code = M.b) (hK : va_K D pmCl (pmTy cA) s) (hk : ∀ pc c ls st h, k pc c ls st h → AtC M Z p l e R s m args below meth cc ad cA D A xs L pc c ls st h) {q : Nat}
    (hd : match q with
      | 0 => decode M.b pc = .ok (.iastore, 1)
      | 1 => decode M.b pc = .ok (.bastore, 1)
      | 2 => decode M.b pc = .ok (.lastore, 1)
      | _ => decode M.b pc = .ok (.dastore, 1)) (hs : stq k q pc c ls st h) : AtC M Z p l e R s m args below meth cc ad cA D A xs L pc c ls st h := by
  intro H locs cells slots lsA hW hl h1 h2 h3
  have t := ty_at cA
  have go : ∀ (r : List Value) (h' : PH) (w' : va_W), k (pc + 1) c ls r h' → w' = wd ad cA h' → scr xs L h' → ∀ (H1 : Heap) (locs1 : List Loc), va_P D pmCl w' H1 → va_D A w' → va_S A s.heap H1 locs1 → W p l e R s m args below meth cc H1 locs1 cells slots Z (F0 m (pc + 1) lsA (r.map (tr ad))) := by
    intro r h' w' hkk he hsc H1 locs1 hP hD hS
    subst he
    exact hk _ _ _ _ _ hkk H1 locs1 cells slots lsA ⟨hP, hD, hS, hsc⟩ hl h1 h2 h3
  unfold stq at hs
  match q, hd, hs with
  | 0, hd, hs =>
    simp only at hs
    split at hs
    · rename_i x i a r _
      split at hs
      · rename_i n hn
        have hkd := arN_of hn
        exact va_iast hx hb hK hW.1 hW.2.1 hW.2.2.1 a 0 (wd_ar hkd) t.1 hs.1 hd (go _ _ _ hs.2 (wd_sai hkd (Or.inl rfl)) (scr_si (kd_lt hkd) hW.2.2.2))
      · cases hs
    · cases hs
  | 1, hd, hs =>
    simp only at hs
    split at hs
    · rename_i x i a r _
      split at hs
      · rename_i n hn
        have hkd := arN_of hn
        exact va_bast hx hb hK hW.1 hW.2.1 hW.2.2.1 a 1 (wd_ar hkd) t.2.1 hs.1 hd (go _ _ _ hs.2 (by rw [vp_nar_byte]; exact wd_sai hkd (Or.inr rfl)) (scr_si (kd_lt hkd) hW.2.2.2))
      · cases hs
    · cases hs
  | 2, hd, hs =>
    simp only at hs
    split at hs
    · rename_i x i a r _
      split at hs
      · rename_i n hn
        have hkd := arN_of hn
        exact va_last hx hb hK hW.1 hW.2.1 hW.2.2.1 a 2 (wd_ar hkd) t.2.2.1 hs.1 hd (go _ _ _ hs.2 (wd_sal hkd) (scr_sl (kd_lt hkd) hW.2.2.2))
      · cases hs
    · cases hs
  | q + 3, _, hs => exact absurd hs (by simp)
theorem ac_alen (hx : p.tables.exec = Jvm.exec) (hb : cc.code = M.b) (hK : va_K D pmCl (pmTy cA) s) (hk : ∀ pc c ls st h, k pc c ls st h → AtC M Z p l e R s m args below meth cc ad cA D A xs L pc c ls st h) {a n : Nat} {r : List Value}
    (hd : decode M.b pc = .ok (.arraylength, 1)) (hn : arL a = some n) (hs : k (pc + 1) c ls (.int (nI n) :: r) h) : AtC M Z p l e R s m args below meth cc ad cA D A xs L pc c ls (.ref a :: r) h := by
  intro H locs cells slots lsA hW hl h1 h2 h3
  obtain ⟨t, hkd⟩ := arL_of hn
  have go := hk _ _ _ _ _ hs H locs cells slots lsA hW hl h1 h2 h3
  have ht : ∃ ty, (pmTy cA)[t]? = some (cA t, ty) := by
    have hall : (List.range NK).all (fun a => match kd a with
      | some (.inr (t, _)) => Nat.blt t 6
      | _ => true) = true := by decide +kernel
    have h5 := List.all_eq_true.mp hall a (List.mem_range.mpr (kd_lt hkd))
    rw [hkd] at h5
    have h6 : t < 6 := blt_of h5
    match t, h6 with
    | 0, _ => exact ⟨_, rfl⟩
    | 1, _ => exact ⟨_, rfl⟩
    | 2, _ => exact ⟨_, rfl⟩
    | 3, _ => exact ⟨_, rfl⟩
    | 4, _ => exact ⟨_, rfl⟩
    | 5, _ => exact ⟨_, rfl⟩
    | t + 6, h6 => omega
  obtain ⟨ty, ht⟩ := ht
  exact va_alen hx hb hK hW.1 a t (wd_ar hkd) ht rfl hd go
theorem swc_get {x : Int32} {r : List Value} : ∀ (ts : List Nat) (v i t : Nat), swc k x c ls r h v ts → ts[i]? = some t → x = nI (v + i) → k t c ls r h := by
  intro ts
  induction ts with
  | nil => intro v i t _ h9; simp at h9
  | cons u us ih =>
    intro v i t hs hi hxv
    cases i with
    | zero =>
      simp at hi
      subst hi
      exact hs.1 hxv
    | succ i =>
      simp at hi
      exact ih (v + 1) i t hs.2 hi (by rw [hxv]; congr 1; omega)
theorem ac_sw (hx : p.tables.exec = Jvm.exec) (hb : cc.code = M.b) (hk : ∀ pc c ls st h, k pc c ls st h → AtC M Z p l e R s m args below meth cc ad cA D A xs L pc c ls st h) {d lo hi : Int} {offs : Array Int} {len dt l0 : Nat} {ts : List Nat} {x : Int32} {r : List Value}
    (hd : decode M.b pc = .ok (.tableswitch d lo hi offs, len)) (e1 : (pc : Int) + d = (dt : Int)) (e2 : lo = (l0 : Int)) (e3 : hi + 1 = (l0 : Int) + (ts.length : Int)) (e4 : offs.toList.map (fun o => (pc : Int) + o) = ts.map (fun t => ((t : Nat) : Int))) (e5 : l0 + ts.length < 100000)
    (hs : ((∀ j : Nat, l0 ≤ j → j < l0 + ts.length → ¬ x = nI j) → k dt c ls r h) ∧ swc k x c ls r h l0 ts) : AtC M Z p l e R s m args below meth cc ad cA D A xs L pc c ls (.int x :: r) h := by
  intro H locs cells slots lsA hW hl h1 h2 h3
  have go : ∀ pc' : Nat, k pc' c ls r h → W p l e R s m args below meth cc H locs cells slots Z (F0 m pc' lsA (r.map (tr ad))) := fun pc' h9 => hk _ _ _ _ _ h9 H locs cells slots lsA hW hl h1 h2 h3
  by_cases hin : lo ≤ x.toInt ∧ x.toInt ≤ hi
  · obtain ⟨q1, q2⟩ := hin
    have hlen : offs.toList.length = ts.length := by
      have := congrArg List.length e4
      simpa using this
    have hj : (x.toInt - lo).toNat < ts.length := by omega
    obtain ⟨t, ht⟩ : ∃ t, ts[(x.toInt - lo).toNat]? = some t := ⟨_, List.getElem?_eq_getElem hj⟩
    obtain ⟨o, ho⟩ : ∃ o, offs.toList[(x.toInt - lo).toNat]? = some o := ⟨_, List.getElem?_eq_getElem (by rw [hlen]; exact hj)⟩
    have hto : (pc : Int) + o = (t : Int) := by
      have h9 := congrArg (fun l => l[(x.toInt - lo).toNat]?) e4
      simp only [List.getElem?_map, ho, ht, Option.map_some, Option.some.injEq] at h9
      exact h9
    have hxv : x = nI (l0 + (x.toInt - lo).toNat) := by
      have h7 : x.toInt = ((l0 + (x.toInt - lo).toNat : Nat) : Int) := by omega
      apply Int32.toInt_inj.mp
      rw [nI_toInt (by omega)]
      exact h7
    exact lv_tableIn hx hb hd (by omega) (by omega) (by rw [← Array.getElem?_toList]; exact ho) hto (go _ (swc_get ts l0 _ t hs.2 ht hxv))
  · refine lv_tableOut hx hb hd (by omega) e1 (go _ (hs.1 ?_))
    intro j hj1 hj2 he
    apply hin
    rw [he, nI_toInt (by omega)]
    omega
end
end
section
/-! ===== calls ===== -/
section
variable {p : Program} {l : Launch} {e : Env} {R : Room} {s : State} {m : MethodId} {args : Array Value} {below : List Frame} {meth : Method} {c : Code} {T : State} {H : Heap} {locs : List Loc} {cells slots : Nat}
theorem pm_callSN (X : Stand p l e R s m args below meth c T locs cells slots) (hexec : p.tables.exec = Jvm.exec) {own host : String} {index : Nat} {y : MethodName} {bytes : ByteArray} {maxL : Nat} {ret : Option FieldType}
    (hown : s.vm.findClass own = some m.cls) (hlink : (Cond.methodLinkNest own index y host).before args s = true) (hstat : (Cond.static y).before args s = true) (hinit : (Cond.initialized y.cls).before args s = true)
    (hcode : (Cond.code y bytes maxL ret).before args s = true) (hy : y.cls ≠ "java/lang/invoke/MethodHandle" ∧ y.cls ≠ "java/lang/invoke/VarHandle")
    {W9 : Nat} {Pre : Pt → Array Value → Prop} {Post : Pt → Array Value → Option Value → Pt → Prop} {PostX : Pt → Array Value → Addr → Pt → Prop} (hK : vx_Back l R p e below s args y 3 W9 Pre Post PostX)
    {g : JFrame} (hg : g.method = m) (hsize : g.locals.size = c.maxLocals) {argsL rest : List Value} (hlen : ∀ sig, parseMethodDescriptor y.desc = some sig → argsL.length = sig.parameters.length)
    (hstack : g.stack = argsL.reverse ++ rest) (hW : 2 * g.monitorRoom + (rest.map fun v => v.category).sum ≤ W9) (hdg : decode c.code g.pc = .ok (.invokestatic index, 3))
    (hpre : ∀ vm₁, s.WarmedH vm₁ → Pre ⟨T.setVm vm₁, locs, cells, slots⟩ argsL.toArray) :
    (∃ (v : Option Value) (vm₁ : Vm) (B : Pt), s.WarmedH vm₁ ∧ Stand p l e R s m args below meth c B.U B.locs B.cells B.slots ∧ Post ⟨T.setVm vm₁, locs, cells, slots⟩ argsL.toArray v B ∧
      ∀ target, Steps p.tables e below (B.U.setTop { g with pc := g.pc + 3, stack := v.toList ++ rest }) target → Steps p.tables e below (T.setTop g) target) ∨
    (∃ (q : Addr) (vm₁ : Vm) (B : Pt), s.WarmedH vm₁ ∧ Stand p l e R s m args below meth c B.U B.locs B.cells B.slots ∧ PostX ⟨T.setVm vm₁, locs, cells, slots⟩ argsL.toArray q B ∧
      Steps p.tables e below (T.setTop g) ((B.U.setTop { g with stack := rest }).pushFrame (.throwing q))) := by
  obtain ⟨mk, hnamed⟩ := Cond.code_named hcode
  obtain ⟨methM, cM, hmethM, -, -, -, -, -, -, hsigM⟩ := Cond.code_spec hnamed hcode
  have hstatic : methM.isStatic = true := Cond.static_spec hnamed hmethM hstat
  obtain ⟨kP, hkP, -⟩ := className_of_methodNamed hnamed
  have hinitP : kP.init = .initialized := Cond.initialized_spec (findClass_of_methodNamed hnamed) hkP hinit
  obtain ⟨vm₁, X₁, hstep₁⟩ := X.invokestaticNest hexec hown hlink hnamed hmethM hstatic hkP hinitP hy (g := g) hg (argsL := argsL) (rest := rest) (hlen _ hsigM) hstack hdg
  rcases hK m meth c ⟨T.setVm vm₁, locs, cells, slots⟩ { g with stack := rest } (.invokestatic index) mk argsL.toArray X₁ hg hsize hdg hW (X₁.named hnamed) (hpre vm₁ X₁.warmed) with ⟨v, B, X', hpost, hsteps⟩ | ⟨q, B, X', hpost, hsteps⟩
  · exact Or.inl ⟨v, vm₁, B, X₁.warmed, X', hpost, fun target h => hstep₁ _ fun acts => by rw [doInvoke_state]; exact hsteps.trans h⟩
  · exact Or.inr ⟨q, vm₁, B, X₁.warmed, X', hpost, hstep₁ _ fun acts => by rw [doInvoke_state]; exact hsteps⟩
theorem pm_runSN {y : MethodName} {bytes cc : ByteArray} {maxL nL mc ms n index : Nat} {ret : Option FieldType} {ws : List Cond} {rm : Room} {Pc : Array Value → State → Prop} {Qc : Array Value → State → Outcome → State → Prop} {XC : String → State → State → Prop} {free : Addr → Prop} {Ts : List Cond} {own host : String} {As rest : List Value} {g : JFrame}
    (S : CallFix p m c cc nL s args Ts own) (hM : vx_Met l y ws rm Pc Qc XC mc ms free) (cw : va_CN R s args own index y host bytes maxL ret ws rm mc ms n ∧ (Cond.static y).before args s = true) (hp : PreS s H Pc As)
    (hg : g.method = m) (hn : As.length = n) (hsize : g.locals.size = nL) (hstack : g.stack = As.reverse ++ rest) (hW : 2 * g.monitorRoom + (rest.map fun v => v.category).sum ≤ 8) (hdg : decode cc g.pc = .ok (.invokestatic index, 3)) (hf : cells + mc ≤ R.cells ∧ slots + ms ≤ R.slots) :
    vx_Run p l e R s m args below meth c H locs cells slots mc ms g rest (Qc As.toArray) XC free := by
  obtain ⟨⟨⟨hrc, hrs, hfr, hlo, hws, hcw⟩, hcode, hini, hy, hlen, hl⟩, hx1⟩ := cw
  have hK : vx_Back l R p e below s args y 3 8 (PreOf R mc ms Pc) (PostOf Qc mc ms free) (vx_Post XC mc ms free) := vx_back (bytes := bytes) (maxL := maxL) (ret := ret) hM hp.1 hrc hrs hfr hlo hws hcw (fun a' U hW => word_at hW (Or.inl (by first | rfl | simp [Cond.onTables, Cond.keeps, Cond.steady])) hini)
  obtain ⟨hx, hb, hml, ho, -⟩ := S
  intro T hT X
  rcases pm_callSN X hx (bytes := bytes) (maxL := maxL) (ret := ret) ho hl hx1 hini hcode hy hK hg (hsize.trans hml.symm) (argsL := As) (rest := rest) (fun sig h => hn.trans (hlen sig h)) hstack hW (by rw [hb]; exact hdg)
    (fun vm₁ hW₁ => ⟨hf.1, hf.2, hp.2 (T.setVm vm₁) hT hW₁⟩) with ⟨v, vm₁, ⟨U', l2, c2, s2⟩, hW₁, X', ⟨g', mk, t, L, e1, e2, hq, h1, hL, h2, h3⟩, st⟩ | ⟨q, vm₁, ⟨U', l2, c2, s2⟩, hW₁, X', ⟨g', mk, t, L, E, ce, e1, e2, hq, hce, hcv, hcl, h1, hL, h2, h3⟩, st⟩
  · dsimp only [Pt.U, Pt.locs, Pt.cells, Pt.slots] at X' e1 e2 h1 h2 h3 st
    subst h1; subst h2; subst h3
    exact Or.inl ⟨v, (T.setVm vm₁).calling g' mk As.toArray, t, U', L, hT, X', hL, e1, e2, hq, st⟩
  · dsimp only [Pt.U, Pt.locs, Pt.cells, Pt.slots] at X' e1 e2 h1 h2 h3 st hcl
    subst h1; subst h2; subst h3
    exact Or.inr ⟨q, (T.setVm vm₁).calling g' mk As.toArray, t, U', L, E, ce, hT, X', hL, e1, e2, hq, hce, hcv, vx_cls hW₁ hcl, st⟩
end
theorem tbG_good : GoodIn tbG tbG := fun w hw => ⟨hw, good_of_word (List.mem_filter.mp hw).2⟩
theorem wsM_good {M : MI} (h : MOK M) : GoodIn tbG (wsM M) := by
  intro w hw
  rcases List.mem_cons.mp hw with rfl | hw
  · exact tbG_good _ h.1
  · exact tbG_good _ hw
theorem wd_ad {ad : Nat → Nat} {cA : Nat → ClassId} {h h' : PH} {A : Nat → Prop} (hD : va_D A (wd ad cA h)) {B : Nat → Prop} (hB : ∀ a, a < NK → B (ad a)) : va_D B (wd ad cA h') := by
  have key : ∀ (h : PH) (i : Nat) (q : Nat × va_E), (wd ad cA h)[i]? = some q → i < NK ∧ q.1 = ad i := by
    intro h i q hq
    have hi : i < NK := by
      have := (List.getElem?_eq_some_iff.mp hq).1
      simpa [wd] using this
    rw [wd_get hi] at hq
    cases hq
    exact ⟨hi, rfl⟩
  refine ⟨fun i j x y hi hj hxy => ?_, fun k q hk => ?_⟩
  · obtain ⟨a1, a2⟩ := key _ i x hi
    obtain ⟨b1, b2⟩ := key _ j y hj
    exact hD.1 i j _ _ (wd_get a1) (wd_get b1) (by show ad i = ad j; rw [← a2, ← b2, hxy])
  · obtain ⟨a1, a2⟩ := key _ k q hk
    rw [a2]
    exact hB k a1
theorem wd_A {ad : Nat → Nat} {cA : Nat → ClassId} {h : PH} {A : Nat → Prop} (hD : va_D A (wd ad cA h)) {a : Nat} (ha : a < NK) : A (ad a) := hD.2 a _ (wd_get ha)
theorem adA_sub {ad : Nat → Nat} {cA : Nat → ClassId} {h : PH} {A : Nat → Prop} {H0 H : Heap} {locs : List Loc} (hD : va_D A (wd ad cA h)) (hA : ∀ q, H0.size ≤ q → A q) (hS : va_S A H0 H locs) : ∀ q, adA ad H.size q → A q := by
  intro q hq
  rcases hq with ⟨a, ha, rfl⟩ | hq
  · exact wd_A hD ha
  · exact hA q (Nat.le_trans hS.1 hq)
section
variable {M : MI} {Q : Res → PH → Prop} {Z : State → Prop} {p : Program} {l : Launch} {e : Env} {R : Room} {s : State} {m : MethodId} {args : Array Value} {below : List Frame} {meth : Method} {cc : Code} {ad : Nat → Nat} {cA : Nat → ClassId} {D : va_G} {A : Nat → Prop} {xs : PH} {L : Nat} {k : KT} {pc c : Nat} {ls : Lc} {st : List Value} {h : PH} {H : Heap} {locs : List Loc} {cells slots : Nat}
/-- the caller's world is a callee's start -/
theorem pc_start (hK : va_K D pmCl (pmTy cA) s) (hA : ∀ q, s.heap.size ≤ q → A q) (hC : CF ad A s s.heap) (hx : xwOk ad s) (hW : WH ad cA D xs L A h s s.heap H locs) {As : List Value} : PreS s H (va_Pc (As.map (tr ad)) (PcM ad cA D xs L H.size h)) (As.map (tr ad)) := by
  refine ⟨fun a U g mk hq => ?_, fun U hU hWU => ⟨rfl, ?_⟩⟩
  · obtain ⟨q0, q1, q2, q3, q4, q5, q6, q7⟩ := hq
    exact ⟨q0, q1, q2, va_K.moved (u := U) (U := U.calling g mk a) (Vm.Alike.refl U.vm) q3, q4, q5, (q6.moved (u := U) (U := U.calling g mk a) (Vm.Alike.refl U.vm)), q7.same (u := U) (U := U.calling g mk a) rfl⟩
  · obtain ⟨w1, w2, w3, w4⟩ := hW
    refine ⟨by rw [hU], by rw [hU]; exact w1, va_K.moved hWU.alike hK, w2.weaken (fun _ _ _ _ => trivial), w4, ?_, hx.warm hWU⟩
    rw [hU]
    exact ((hC.kept (fun a h1 h2 => w3.2.1 a h1 h2)).moved hWU.alike).narrow (adA_sub w2 hA w3)
theorem ac_run {M' : MI} {Q' : Res → PH → Prop} {rest : List Value} {st0 : List Value} {lsA : Array Slot} {a : Array Value} (hA : ∀ q, s.heap.size ≤ q → A q) (hW : WH ad cA D xs L A h s s.heap H locs)
    (hr : vx_Run p l e R s m args below meth cc H locs cells slots M'.cap (6 * M'.cap) (F0 m pc lsA st0) rest (QcM ad cA D xs L H.size Q' a) (XcM ad cA D xs L H.size Q') (adA ad H.size))
    (kx : ∀ (x : Nat) (h' : PH) (H1 : Heap) (locs1 : List Loc) (q : Addr) (ce : Cell), Q' (.inr x) h' → WH ad cA D xs L A h' s s.heap H1 locs1 → H1[q]? = some ce → ce.vm = .none → s.vm.findClass (exN x) = some ce.cls → vx_W p l e R s m args below meth cc H1 locs1 (cells + M'.cap) (slots + 6 * M'.cap) Z (F0 m pc lsA rest) q)
    (kk : ∀ (v : Option Value) (h' : PH) (H1 : Heap) (locs1 : List Loc), Q' (.inl v) h' → WH ad cA D xs L A h' s s.heap H1 locs1 → W p l e R s m args below meth cc H1 locs1 (cells + M'.cap) (slots + 6 * M'.cap) Z (F0 m (pc + 3) lsA ((v.map (tr ad)).toList ++ rest))) :
    W p l e R s m args below meth cc H locs cells slots Z (F0 m pc lsA st0) := by
  have hsub := adA_sub hW.2.1 hA hW.2.2.1
  have hw : ∀ (h' : PH) (st₀ t T' : State) (L' : List Loc), st₀.heap = H → T'.heap = t.heap → (∀ q ∈ L', adA ad H.size q.base) → va_F (adA ad H.size) st₀ t → PoM ad cA D xs L (adA ad H.size) h' t → WH ad cA D xs L A h' s s.heap T'.heap (locs ++ L') := by
    intro h' st₀ t T' L' h0 e1 hL hF hP
    obtain ⟨-, -, k3⟩ := vx_keep h0 e1 hW.2.2.1 (fun q _ hq => hsub q hq) hsub hL hF
    exact ⟨by rw [e1]; exact hP.1, wd_ad hW.2.1 (fun a ha => wd_A hW.2.1 ha), k3, hP.2.2⟩
  intro T hT X
  rcases hr T hT X with ⟨v, st₀, t, T', L', h0, X', hL, e1, e2, ⟨⟨v', h', hv, hq, hP⟩, hF⟩, st⟩ | ⟨q, st₀, t, T', L', E, ce, h0, X', hL, e1, e2, ⟨⟨x, h', hE, hq, hP⟩, hF⟩, hce, hcv, hcl, st⟩
  · cases hv
    obtain ⟨t2, a1, b1⟩ := kk v' h' T'.heap (locs ++ L') hq (hw h' st₀ t T' L' h0 e1 hL hF hP) T' rfl X'
    exact ⟨t2, st t2 a1, b1⟩
  · subst hE
    obtain ⟨t2, a1, b1⟩ := kx x h' T'.heap (locs ++ L') q ce hq (hw h' st₀ t T' L' h0 e1 hL hF hP) (by rw [e1]; exact hce) hcv hcl T' rfl X'
    exact ⟨t2, st.trans a1, b1⟩
end
end
section
/-! ===== java.lang.Math.floorMod(II)I, by its body: a method that no table of natives has a row for ===== -/
theorem fm_at0 : decode cJ9_floorMod_7cf53 0 = .ok (.iload_n 0, 1) := by decide +kernel
theorem fm_at1 : decode cJ9_floorMod_7cf53 1 = .ok (.iload_n 1, 1) := by decide +kernel
theorem fm_at2 : decode cJ9_floorMod_7cf53 2 = .ok (.irem, 1) := by decide +kernel
theorem fm_at3 : decode cJ9_floorMod_7cf53 3 = .ok (.istore_n 2, 1) := by decide +kernel
theorem fm_at4 : decode cJ9_floorMod_7cf53 4 = .ok (.iload_n 0, 1) := by decide +kernel
theorem fm_at5 : decode cJ9_floorMod_7cf53 5 = .ok (.iload_n 1, 1) := by decide +kernel
theorem fm_at6 : decode cJ9_floorMod_7cf53 6 = .ok (.ixor, 1) := by decide +kernel
theorem fm_at7 : decode cJ9_floorMod_7cf53 7 = .ok (.ifCond .ge 11, 3) := by decide +kernel
theorem fm_at10 : decode cJ9_floorMod_7cf53 10 = .ok (.iload_n 2, 1) := by decide +kernel
theorem fm_at11 : decode cJ9_floorMod_7cf53 11 = .ok (.ifCond .eq 7, 3) := by decide +kernel
theorem fm_at14 : decode cJ9_floorMod_7cf53 14 = .ok (.iload_n 2, 1) := by decide +kernel
theorem fm_at15 : decode cJ9_floorMod_7cf53 15 = .ok (.iload_n 1, 1) := by decide +kernel
theorem fm_at16 : decode cJ9_floorMod_7cf53 16 = .ok (.iadd, 1) := by decide +kernel
theorem fm_at17 : decode cJ9_floorMod_7cf53 17 = .ok (.ireturn, 1) := by decide +kernel
theorem fm_at18 : decode cJ9_floorMod_7cf53 18 = .ok (.iload_n 2, 1) := by decide +kernel
theorem fm_at19 : decode cJ9_floorMod_7cf53 19 = .ok (.ireturn, 1) := by decide +kernel
theorem fm_row0 : (NativeRow.find? natives yJ9_floorMod_7cf53.cls yJ9_floorMod_7cf53.name yJ9_floorMod_7cf53.desc).isNone = true := by decide +kernel
theorem fm_row (p : Program) : NativeRow.find? p.tables.natives yJ9_floorMod_7cf53.cls yJ9_floorMod_7cf53.name yJ9_floorMod_7cf53.desc = none := by
  cases p <;> exact Option.isNone_iff_eq_none.mp fm_row0
def fmS (a b : Int32) : Spec where
  pre := .and (.code yJ9_floorMod_7cf53 cJ9_floorMod_7cf53 3 (some .int)) (.and (.count 2) (.and (.isInt (.arg 0)) (.and (.isInt (.arg 1)) (.and (.eq (.arg 0) (.int a)) (.eq (.arg 1) (.int b))))))
  post := .and .returned (.eq .result (.int (fmV a b)))
  changes := some []
theorem fm_meets (l : Launch) {a b : Int32} (hb0 : ¬ b = 0) : MeetsLoose l yJ9_floorMod_7cf53 (fmS a b) := by
  refine MeetsLoose.of_body_ov (code := cJ9_floorMod_7cf53) (maxLocals := 3) (ret := some .int) fm_row ?_ ?_
  · intro args s h
    simp only [fmS, Cond.before_and, Bool.and_eq_true] at h
    exact h.1
  · intro p e s m args below meth c s₁ B
    have hpre := B.pre
    simp only [fmS, Cond.before_and, Bool.and_eq_true] at hpre
    obtain ⟨-, q0, q1, q2, q3, q4⟩ := hpre
    obtain ⟨a', b', rfl⟩ := Cond.two_ints q0 q1 q2
    have ea : a' = a := by simpa [Cond.before, Cond.holds, Cond.value, Term.eval] using q3
    have eb : b' = b := by simpa [Cond.before, Cond.holds, Cond.value, Term.eval] using q4
    subst ea; subst eb
    have hloc : argsToLocals #[.int a', .int b'] 3 = #[.val (.int a'), .val (.int b'), .unset] := rfl
    have fin : ∀ r : Int32, (∀ fs, Steps p.tables e below (s₁.setTop (entryFrame m #[.int a', .int b'] 3)) (s₁.setFrames fs) ∨ handOver s₁ (some (.int r)) below ≠ some fs) →
        ((fmS a' b').post.after #[.int a', .int b'] s (.returned (some (.int r))) = fun _ => true) →
        ∃ s₂ o, Steps p.tables e below (s₁.setTop (entryFrame m #[.int a', .int b'] 3)) s₂ ∧ s₂.status = .running ∧ Ended s₂ below o ∧
          (fmS a' b').ensures #[.int a', .int b'] s o s₂ := by
      intro r hwalk hpost
      obtain ⟨fs, hfs⟩ := handOver_isSome (s := s₁) (some (.int r)) B.hears₁
      refine ⟨s₁.setFrames fs, .returned (some (.int r)), (hwalk fs).resolve_right (fun h => h hfs), B.here.running, B.ended hfs (by intro h; cases h), ?_, State.sameBut_nil.mpr ?_⟩
      · rw [hpost]
      · rw [State.frames_setFrames _ B.cur₁, B.back]
    by_cases h1 : 0 ≤ a' ^^^ b'
    · refine fin (a' - a' / b' * b') (fun fs => ?_) (by funext s'; simp [fmS, Cond.after, Cond.holds, Cond.value, Term.eval, fmV, h1])
      by_cases hfs : handOver s₁ (some (.int (a' - a' / b' * b'))) below = some fs
      · left
        unfold entryFrame; rw [hloc]
        refine Steps.instrAtOv (c := _) (by simpa using B.here) ?_
        simp [jvm, wpRun, exec, B.here.top, B.exec, B.bytes, fm_at0]
        refine Steps.instrAtOv (c := _) (by simpa using B.here) ?_
        simp [jvm, wpRun, exec, B.here.top, B.exec, B.bytes, fm_at1]
        refine Steps.instrAtOv (c := _) (by simpa using B.here) ?_
        simp [jvm, wpRun, exec, B.here.top, B.exec, B.bytes, fm_at2, hb0]
        refine Steps.instrAtOv (c := _) (by simpa using B.here) ?_
        simp [jvm, wpRun, exec, B.here.top, B.exec, B.bytes, fm_at3]
        refine ⟨#[.val (.int a'), .val (.int b'), .val (.int (a' - a' / b' * b'))], rfl, ?_⟩
        refine Steps.instrAtOv (c := _) (by simpa using B.here) ?_
        simp [jvm, wpRun, exec, B.here.top, B.exec, B.bytes, fm_at4]
        refine Steps.instrAtOv (c := _) (by simpa using B.here) ?_
        simp [jvm, wpRun, exec, B.here.top, B.exec, B.bytes, fm_at5]
        refine Steps.instrAtOv (c := _) (by simpa using B.here) ?_
        simp [jvm, wpRun, exec, B.here.top, B.exec, B.bytes, fm_at6]
        refine Steps.instrAtOv (c := _) (by simpa using B.here) ?_
        simp [jvm, wpRun, exec, B.here.top, B.exec, B.bytes, fm_at7, if_icmp.holds, ifCond.holds, h1]
        refine Steps.instrAtOv (c := _) (by simpa using B.here) ?_
        simp [jvm, wpRun, exec, B.here.top, B.exec, B.bytes, fm_at18]
        refine Steps.instrAtOv (c := _) (by simpa using B.here) ?_
        simp [jvm, wpRun, exec, B.here.top, B.exec, B.bytes, fm_at19, B.method₁, B.returns, narrow]
        intro acts
        rw [ret_to B.frames₁ B.method₁ B.notSynchronized rfl rfl hfs]
        exact Steps.refl _
      · exact Or.inr hfs
    by_cases h2 : a' - a' / b' * b' = 0
    · refine fin (0 : Int32) (fun fs => ?_) (by funext s'; simp [fmS, Cond.after, Cond.holds, Cond.value, Term.eval, fmV, h1, h2])
      by_cases hfs : handOver s₁ (some (.int (0 : Int32))) below = some fs
      · left
        unfold entryFrame; rw [hloc]
        refine Steps.instrAtOv (c := _) (by simpa using B.here) ?_
        simp [jvm, wpRun, exec, B.here.top, B.exec, B.bytes, fm_at0]
        refine Steps.instrAtOv (c := _) (by simpa using B.here) ?_
        simp [jvm, wpRun, exec, B.here.top, B.exec, B.bytes, fm_at1]
        refine Steps.instrAtOv (c := _) (by simpa using B.here) ?_
        simp [jvm, wpRun, exec, B.here.top, B.exec, B.bytes, fm_at2, hb0]
        refine Steps.instrAtOv (c := _) (by simpa using B.here) ?_
        simp [jvm, wpRun, exec, B.here.top, B.exec, B.bytes, fm_at3]
        refine ⟨#[.val (.int a'), .val (.int b'), .val (.int (a' - a' / b' * b'))], rfl, ?_⟩
        refine Steps.instrAtOv (c := _) (by simpa using B.here) ?_
        simp [jvm, wpRun, exec, B.here.top, B.exec, B.bytes, fm_at4]
        refine Steps.instrAtOv (c := _) (by simpa using B.here) ?_
        simp [jvm, wpRun, exec, B.here.top, B.exec, B.bytes, fm_at5]
        refine Steps.instrAtOv (c := _) (by simpa using B.here) ?_
        simp [jvm, wpRun, exec, B.here.top, B.exec, B.bytes, fm_at6]
        refine Steps.instrAtOv (c := _) (by simpa using B.here) ?_
        simp [jvm, wpRun, exec, B.here.top, B.exec, B.bytes, fm_at7, if_icmp.holds, ifCond.holds, h1, h2]
        refine Steps.instrAtOv (c := _) (by simpa using B.here) ?_
        simp [jvm, wpRun, exec, B.here.top, B.exec, B.bytes, fm_at10]
        refine Steps.instrAtOv (c := _) (by simpa using B.here) ?_
        simp [jvm, wpRun, exec, B.here.top, B.exec, B.bytes, fm_at11, if_icmp.holds, ifCond.holds, h1, h2]
        refine Steps.instrAtOv (c := _) (by simpa using B.here) ?_
        simp [jvm, wpRun, exec, B.here.top, B.exec, B.bytes, fm_at18]
        refine Steps.instrAtOv (c := _) (by simpa using B.here) ?_
        simp [jvm, wpRun, exec, B.here.top, B.exec, B.bytes, fm_at19, B.method₁, B.returns, narrow]
        intro acts
        rw [ret_to B.frames₁ B.method₁ B.notSynchronized rfl rfl hfs]
        exact Steps.refl _
      · exact Or.inr hfs
    · refine fin ((a' - a' / b' * b') + b') (fun fs => ?_) (by funext s'; simp [fmS, Cond.after, Cond.holds, Cond.value, Term.eval, fmV, h1, h2])
      by_cases hfs : handOver s₁ (some (.int ((a' - a' / b' * b') + b'))) below = some fs
      · left
        unfold entryFrame; rw [hloc]
        refine Steps.instrAtOv (c := _) (by simpa using B.here) ?_
        simp [jvm, wpRun, exec, B.here.top, B.exec, B.bytes, fm_at0]
        refine Steps.instrAtOv (c := _) (by simpa using B.here) ?_
        simp [jvm, wpRun, exec, B.here.top, B.exec, B.bytes, fm_at1]
        refine Steps.instrAtOv (c := _) (by simpa using B.here) ?_
        simp [jvm, wpRun, exec, B.here.top, B.exec, B.bytes, fm_at2, hb0]
        refine Steps.instrAtOv (c := _) (by simpa using B.here) ?_
        simp [jvm, wpRun, exec, B.here.top, B.exec, B.bytes, fm_at3]
        refine ⟨#[.val (.int a'), .val (.int b'), .val (.int (a' - a' / b' * b'))], rfl, ?_⟩
        refine Steps.instrAtOv (c := _) (by simpa using B.here) ?_
        simp [jvm, wpRun, exec, B.here.top, B.exec, B.bytes, fm_at4]
        refine Steps.instrAtOv (c := _) (by simpa using B.here) ?_
        simp [jvm, wpRun, exec, B.here.top, B.exec, B.bytes, fm_at5]
        refine Steps.instrAtOv (c := _) (by simpa using B.here) ?_
        simp [jvm, wpRun, exec, B.here.top, B.exec, B.bytes, fm_at6]
        refine Steps.instrAtOv (c := _) (by simpa using B.here) ?_
        simp [jvm, wpRun, exec, B.here.top, B.exec, B.bytes, fm_at7, if_icmp.holds, ifCond.holds, h1, h2]
        refine Steps.instrAtOv (c := _) (by simpa using B.here) ?_
        simp [jvm, wpRun, exec, B.here.top, B.exec, B.bytes, fm_at10]
        refine Steps.instrAtOv (c := _) (by simpa using B.here) ?_
        simp [jvm, wpRun, exec, B.here.top, B.exec, B.bytes, fm_at11, if_icmp.holds, ifCond.holds, h1, h2]
        refine Steps.instrAtOv (c := _) (by simpa using B.here) ?_
        simp [jvm, wpRun, exec, B.here.top, B.exec, B.bytes, fm_at14]
        refine Steps.instrAtOv (c := _) (by simpa using B.here) ?_
        simp [jvm, wpRun, exec, B.here.top, B.exec, B.bytes, fm_at15]
        refine Steps.instrAtOv (c := _) (by simpa using B.here) ?_
        simp [jvm, wpRun, exec, B.here.top, B.exec, B.bytes, fm_at16]
        refine Steps.instrAtOv (c := _) (by simpa using B.here) ?_
        simp [jvm, wpRun, exec, B.here.top, B.exec, B.bytes, fm_at17, B.method₁, B.returns, narrow]
        intro acts
        rw [ret_to B.frames₁ B.method₁ B.notSynchronized rfl rfl hfs]
        exact Steps.refl _
      · exact Or.inr hfs
theorem mm_fmod : Cond.static yJ9_floorMod_7cf53 ∈ tbG ∧ Cond.initialized "java/lang/Math" ∈ tbG ∧ Cond.code yJ9_floorMod_7cf53 cJ9_floorMod_7cf53 3 (some .int) ∈ tbG := ⟨tbG_at (p := 1762) (by decide +kernel), tbG_at (p := 10) (by decide +kernel), tbG_at (p := 1763) (by decide +kernel)⟩
section
variable {p : Program} {l : Launch} {e : Env} {R : Room} {s : State} {m : MethodId} {args : Array Value} {below : List Frame} {meth : Method} {c : Code} {H : Heap} {locs : List Loc} {cells slots : Nat} {Q : State → Prop}
variable {pc : Nat} {ls : Array Slot} {rest : List Value}
theorem va_fmod {cc : ByteArray} (hexec : p.tables.exec = Jvm.exec) (hb : c.code = cc) (hml : c.maxLocals = ls.size) {own : String} {index : Nat} (hown : s.vm.findClass own = some m.cls) (hlink : (Cond.methodLink own index yJ9_floorMod_7cf53).before args s = true) (hstat : (Cond.static yJ9_floorMod_7cf53).before args s = true) (hini : (Cond.initialized "java/lang/Math").before args s = true) (hcode : (Cond.code yJ9_floorMod_7cf53 cJ9_floorMod_7cf53 3 (some .int)).before args s = true)
    (hframes : 1 ≤ R.frames) (hlocals : (rest.map fun v => v.category).sum + 14 ≤ R.locals) (hc : cells ≤ R.cells) (hs : slots ≤ R.slots) {x y : Int32} (hy : ¬ y = 0) (hdg : decode cc pc = .ok (.invokestatic index, 3))
    (kk : W p l e R s m args below meth c H locs cells slots Q (F0 m (pc + 3) ls (.int (fmV x y) :: rest))) : W p l e R s m args below meth c H locs cells slots Q (F0 m pc ls (.int y :: .int x :: rest)) := by
  intro T hT X
  obtain ⟨v, vm', X', ⟨first, t, hpost⟩, hstep⟩ := X.staticByContractHK hexec hown hlink hstat hini hcode (by decide) (fm_meets l (a := x) hy)
    rfl rfl rfl rfl
    (fun args' first o s₂ h => by
      simp only [fmS, Cond.after_and, Bool.and_eq_true] at h
      cases o with
      | returned r => exact ⟨r, rfl⟩
      | threw y => simp [Cond.after, Cond.holds, Cond.value] at h)
    (g := F0 m pc ls (.int y :: .int x :: rest)) rfl (by rw [hml]) (argsL := [.int x, .int y]) (rest := rest)
    (fun sig hs => by
      have h : parseMethodDescriptor "(II)I" = some { parameters := [.int, .int], returnType := some .int } := by decide +kernel
      rw [show yJ9_floorMod_7cf53.desc = "(II)I" from rfl, h] at hs
      rw [← Option.some.inj hs]; rfl)
    rfl (by rw [hb]; exact hdg)
    (fun vm' hW => by
      simp only [fmS, Cond.before_and, Bool.and_eq_true]
      refine ⟨?_, rfl, rfl, rfl, ?_, ?_⟩
      · have q := hcode
        rw [← Cond.code_setVm hW.alike] at q
        simp only [Cond.before, Cond.holds, Cond.value, State.methodNamed?, State.vm_setVm] at q ⊢
        exact q
      · simp [Cond.before, Cond.holds, Cond.value, Term.eval]
      · simp [Cond.before, Cond.holds, Cond.value, Term.eval])
    (by show 0 + 1 ≤ R.frames; omega) (by show 2 * 0 + (rest.map fun v => v.category).sum + (3 + 11) + 0 ≤ R.locals; omega) (by show cells + 0 ≤ R.cells; omega) (by show slots + 0 ≤ R.slots; omega)
  obtain rfl : v = some (.int (fmV x y)) := by
    rcases v with _ | w
    · simp [fmS, Cond.after, Cond.holds, Cond.value, Term.eval] at hpost
    · cases w <;> simp [fmS, Cond.after, Cond.holds, Cond.value, Term.eval] at hpost
      rename_i r
      rw [hpost]
  obtain ⟨t, a1, b1⟩ := kk (T.setVm vm') hT X'
  exact ⟨t, hstep t a1, b1⟩
end
end
section
/-! ===== the soundness of one step ===== -/
theorem mm_min : Cond.static Lib.Math.min.name ∈ tbG ∧ Cond.initialized "java/lang/Math" ∈ tbG ∧ Cond.code Lib.Math.min.name Lib.Math.min.code 2 (some .int) ∈ tbG := ⟨tbG_at (p := 697) (by decide +kernel), tbG_at (p := 10) (by decide +kernel), tbG_at (p := 698) (by decide +kernel)⟩
theorem mm_max : Cond.static Lib.Math.max.name ∈ tbG ∧ Cond.initialized "java/lang/Math" ∈ tbG ∧ Cond.code Lib.Math.max.name Lib.Math.max.code 2 (some .int) ∈ tbG := ⟨tbG_at (p := 928) (by decide +kernel), tbG_at (p := 10) (by decide +kernel), tbG_at (p := 929) (by decide +kernel)⟩
theorem mm_abs : Cond.static Lib.Math.abs.name ∈ tbG ∧ Cond.initialized "java/lang/Math" ∈ tbG ∧ Cond.code Lib.Math.abs.name Lib.Math.abs.code 1 (some .int) ∈ tbG := ⟨tbG_at (p := 572) (by decide +kernel), tbG_at (p := 10) (by decide +kernel), tbG_at (p := 573) (by decide +kernel)⟩
theorem mm_cpy : Cond.native arraycopyName ∈ tbG ∧ Cond.static arraycopyName ∈ tbG ∧ Cond.initialized "java/lang/System" ∈ tbG := ⟨tbG_at (p := 701) (by decide +kernel), tbG_at (p := 700) (by decide +kernel), tbG_at (p := 12) (by decide +kernel)⟩
theorem conk_inl {rt : Nat} {q : Nat → PH → Prop} {kk : List Value → PH → Prop} {v : Option Value} {h : PH} (hc : conk rt q kk (.inl v) h) : kk v.toList h := by
  unfold conk at hc
  split at hc
  · rcases v with _ | v
    · exact hc
    · cases hc
  · rcases v with _ | v
    · cases hc
    · cases v <;> first | exact hc | cases hc
  · rcases v with _ | v
    · cases hc
    · cases v <;> first | exact hc | cases hc
  · rcases v with _ | v
    · cases hc
    · cases v <;> first | exact hc | cases hc
  · rcases v with _ | v
    · cases hc
    · cases v <;> first | exact hc | cases hc
  · rcases v with _ | v
    · cases hc
    · cases v <;> first | exact hc | cases hc
theorem conk_inr {rt : Nat} {q : Nat → PH → Prop} {kk : List Value → PH → Prop} {x : Nat} {h : PH} (hc : conk rt q kk (.inr x) h) : q x h := by
  unfold conk at hc
  split at hc <;> exact hc
theorem tr_toList (ad : Nat → Nat) (v : Option Value) : (v.map (tr ad)).toList = v.toList.map (tr ad) := by cases v <;> rfl
theorem cat8_of {st : List Value} {P : Prop} (h : cat8 st P) : (st.map (fun v => v.category)).sum ≤ 8 ∧ P := by
  unfold cat8 at h
  split at h
  · rename_i hb; exact ⟨Nat.le_of_ble_eq_true hb, h⟩
  · cases h
theorem cat_tr (ad : Nat → Nat) (st : List Value) : (st.map (tr ad)).map (fun v => v.category) = st.map (fun v => v.category) := by
  rw [List.map_map]
  apply List.map_congr_left
  intro v _
  exact tr_cat ad v
theorem capk_of {c mcv cap : Nat} {P : Prop} (h : capk c mcv cap P) (hc : c ≤ cap) : c + mcv ≤ cap ∧ P := by
  unfold capk at h
  split at h
  · exact ⟨hc, h⟩
  · exact h
theorem retC_rt {rt : Nat} {r : Option FieldType} (h : retC rt r = true) : True := trivial
theorem calB_of {M M' : MI} {n mcv rt : Nat} (h : calB M M' n mcv rt = true) : mcv = M'.cap ∧ M'.fr + 1 ≤ M.fr ∧ 8 + (M'.nl + 11) + M'.lo ≤ M.lo ∧ M'.y.cls ≠ "java/lang/invoke/MethodHandle" ∧ M'.y.cls ≠ "java/lang/invoke/VarHandle" ∧ (parseMethodDescriptor M'.y.desc).map (fun d => d.parameters.length) = some n := by
  simp only [calB, Bool.and_eq_true, decide_eq_true_eq] at h
  obtain ⟨⟨⟨⟨h1, h2⟩, h3⟩, -⟩, h4⟩ := h
  exact ⟨Nat.eq_of_beq_eq_true h1, Nat.le_of_ble_eq_true h2, Nat.le_of_ble_eq_true h3, h4⟩
section
variable {M : MI} {Q : Res → PH → Prop} {Z : State → Prop} {p : Program} {l : Launch} {e : Env} {R : Room} {s : State} {m : MethodId} {args : Array Value} {below : List Frame} {meth : Method} {cc : Code} {ad : Nat → Nat} {cA : Nat → ClassId} {D : va_G} {A : Nat → Prop} {xs : PH} {L : Nat} {k : KT} {pc c : Nat} {ls : Lc} {st : List Value} {h : PH}
theorem ac_str (hC : Cx M Q Z p l e R s m args below meth cc ad cA D A xs L) {i : Instr} {rt : Nat} (hd : decode M.b pc = .ok (i, 1))
    (hok : ∀ v : Option Value, (match rt with
      | 0 => v = none
      | 1 => ∃ x, v = some (.int x)
      | 2 => ∃ x, v = some (.long x)
      | 3 => ∃ x, v = some (.float x)
      | 4 => ∃ x, v = some (.double x)
      | 5 => v = some .null ∨ ∃ a, v = some (.ref a)
      | 6 => ∃ x, v = some (.int x) ∧ isB x
      | 7 => ∃ x, v = some (.int x) ∧ narrow .byte (.int x) = .int x
      | _ => ∃ x, v = some (.int x) ∧ narrow .char (.int x) = .int x) → rtOk M.ret i v) (hs : str Q rt st h) : AtC M Z p l e R s m args below meth cc ad cA D A xs L pc c ls st h := by
  intro H locs cells slots lsA hW hl h1 h2 h3
  obtain ⟨-, -, -, -, -, -, -, -, -, hend, -, -⟩ := hC
  have fin : ∀ v : Option Value, st = v.toList → rtOk M.ret i v → Q (.inl v) h → W p l e R s m args below meth cc H locs cells slots Z (F0 m pc lsA (st.map (tr ad))) := by
    intro v hv hr hq
    have := hend v h H locs cells slots pc i lsA hd hr hq hW (by omega) (by omega)
    rw [tr_toList, ← hv] at this
    exact this
  unfold str at hs
  split at hs
  · split at hs
    · exact fin none rfl (hok none rfl) hs
    · cases hs
  · split at hs
    · exact fin (some _) rfl (hok _ ⟨_, rfl⟩) hs
    · cases hs
  · split at hs
    · exact fin (some _) rfl (hok _ ⟨_, rfl⟩) hs
    · cases hs
  · split at hs
    · exact fin (some _) rfl (hok _ ⟨_, rfl⟩) hs
    · cases hs
  · split at hs
    · exact fin (some _) rfl (hok _ ⟨_, rfl⟩) hs
    · cases hs
  · split at hs
    · exact fin (some _) rfl (hok _ (Or.inr ⟨_, rfl⟩)) hs
    · exact fin (some _) rfl (hok _ (Or.inl rfl)) hs
    · cases hs
  · split at hs
    · exact fin (some _) rfl (hok _ ⟨_, rfl, hs.1⟩) hs.2
    · cases hs
  · split at hs
    · exact fin (some _) rfl (hok _ ⟨_, rfl, hs.1⟩) hs.2
    · cases hs
  · rename_i r0 r1 r2 r3 r4 r5 r6 r7
    split at hs
    · exact fin (some _) rfl (hok _ (by
        split
        · exact absurd rfl r0
        · exact ⟨_, rfl⟩
        · exact absurd rfl r2
        · exact absurd rfl r3
        · exact absurd rfl r4
        · exact absurd rfl r5
        · exact absurd rfl r6
        · exact absurd rfl r7
        · exact ⟨_, rfl, hs.1⟩)) hs.2
    · cases hs
theorem ac_new (hC : Cx M Q Z p l e R s m args below meth cc ad cA D A xs L) {ik ic x : Nat} (hth : thOk M pc ik ic x) (h8 : (st.map (fun v => v.category)).sum ≤ 8) (hcap : c + 1 ≤ M.cap) (hq : Q (.inr x) h) : AtC M Z p l e R s m args below meth cc ad cA D A xs L pc c ls st h := by
  intro H locs cells slots lsA hW hl h1 h2 h3
  obtain ⟨-, -, -, -, -, -, -, -, -, -, hthr, -⟩ := hC
  exact hthr x h H locs cells slots pc ik ic lsA _ hth hq hW (by omega) (by omega) hl.1 (by rw [cat_tr]; exact h8)
theorem wl_mono {H : Heap} {locs : List Loc} {cells slots : Nat} {g : JFrame} (hk : ∀ (pc c : Nat) (ls : Lc) (st : List Value) (h : PH), k pc c ls st h → AtC M Z p l e R s m args below meth cc ad cA D A xs L pc c ls st h) : True := trivial
/-- an exception of a call: to the handler, or out -/
theorem ac_hnd (hC : Cx M Q Z p l e R s m args below meth cc ad cA D A xs L) {a : KT} (ha : ∀ pc c ls st h, a pc c ls st h → AtC M Z p l e R s m args below meth cc ad cA D A xs L pc c ls st h) {hs : List Nat} (hok : okI.hsOk M pc hs = true)
    {x c' : Nat} {h' : PH} (hh : hnd Q a c' ls hs x h') {H1 : Heap} {locs1 : List Loc} {cells1 slots1 : Nat} {lsA : Array Slot} {rest : List Value} {q : Addr} {ce : Cell} (hW : WH ad cA D xs L A h' s s.heap H1 locs1) (hl : lv_has lsA M.nl (tl ad ls)) (h1 : cells1 ≤ c') (h2 : slots1 ≤ 6 * c') (h3 : c' ≤ M.cap)
    (hce : H1[q]? = some ce) (hcv : ce.vm = .none) (hcl : s.vm.findClass (exN x) = some ce.cls) : vx_W p l e R s m args below meth cc H1 locs1 cells1 slots1 Z (F0 m pc lsA rest) q := by
  obtain ⟨⟨hx, hb, hml, hown, hts⟩, hK, hA, hCF, hxw, hsc, hst, hroom, htab, hend, hthr, hprop⟩ := hC
  have out : Q (.inr x) h' → vx_W p l e R s m args below meth cc H1 locs1 cells1 slots1 Z (F0 m pc lsA rest) q := fun hq =>
    hprop x h' H1 locs1 cells1 slots1 pc lsA rest q ce hq hW (by omega) (by omega) hce hcv hcl
  unfold hnd at hh
  split at hh
  · exact out hh
  · rename_i hne
    split at hh
    · exact out hh
    · rename_i hane
      cases hs with
      | nil => exact absurd rfl hne
      | cons _ _ => cases hok
end
end
section
/-! ===== calls and the JDK's own; the soundness of a step ===== -/
section
variable {M : MI} {Q : Res → PH → Prop} {Z : State → Prop} {p : Program} {l : Launch} {e : Env} {R : Room} {s : State} {m : MethodId} {args : Array Value} {below : List Frame} {meth : Method} {cc : Code} {ad : Nat → Nat} {cA : Nat → ClassId} {D : va_G} {A : Nat → Prop} {xs : PH} {L : Nat} {k : KT} {pc c : Nat} {ls : Lc} {st : List Value} {h : PH}
theorem len9_of {n : Nat} {st : List Value} {P : Prop} (h : len9 n st P) : n ≤ st.length ∧ P := by
  unfold len9 at h
  split at h
  · rename_i hb; exact ⟨Nat.le_of_ble_eq_true hb, h⟩
  · cases h
theorem nfw7 : nativeFrameWords "java/lang/System" "arraycopy" 5 = 7 := by decide +kernel
theorem take_tr (ad : Nat → Nat) (st : List Value) (n : Nat) : ((st.take n).reverse).map (tr ad) = ((st.map (tr ad)).take n).reverse := by
  rw [List.map_reverse, List.map_take]
theorem st_split (ad : Nat → Nat) (st : List Value) (n : Nat) : st.map (tr ad) = (((st.take n).reverse).map (tr ad)).reverse ++ (st.drop n).map (tr ad) := by
  rw [List.map_reverse, List.reverse_reverse, ← List.map_append, List.take_append_drop]
theorem ac_stc (hC : Cx M Q Z p l e R s m args below meth cc ad cA D A xs L) {a : KT} (ha : ∀ pc c ls st h, a pc c ls st h → AtC M Z p l e R s m args below meth cc ad cA D A xs L pc c ls st h) (hk : ∀ pc c ls st h, k pc c ls st h → AtC M Z p l e R s m args below meth cc ad cA D A xs L pc c ls st h)
    {idx kind n rt rc mcv : Nat} {hs : List Nat} {M' : MI} (hM' : MOK M')
    (hd : match kind with
      | 0 => decode M.b pc = .ok (.invokevirtual idx, 3)
      | 5 => decode M.b pc = .ok (.invokevirtual idx, 3)
      | _ => decode M.b pc = .ok (.invokestatic idx, 3))
    (hB : calB M M' n mcv rt = true) (hH : okI.hsOk M pc hs = true)
    (hKd : match kind with
      | 0 => M'.sk = 0 ∧ Cond.methodLink M.y.cls idx M'.y ∈ tbG ∧ ∃ (C : String) (T : u_T) (N : Nat), pmCl[rc]? = some (C, T, N) ∧ M'.y.cls = C
      | 1 => M'.sk = 1 ∧ Cond.methodLink M.y.cls idx M'.y ∈ tbG
      | 3 => M'.sk = 2 ∧ Cond.methodLink M.y.cls idx M'.y ∈ tbG
      | 2 => M'.sk = 1 ∧ Cond.methodLinkNest M.y.cls idx M'.y RX11 ∈ XW
      | 5 => M'.sk = 0 ∧ Cond.methodLink M.y.cls idx M'.y ∈ tbG ∧ M'.y.cls = cNm rc
      | _ => False)
    (hs9 : stc MetPM M Q a k pc M' kind n rt rc mcv hs c ls st h) : AtC M Z p l e R s m args below meth cc ad cA D A xs L pc c ls st h := by
  intro H locs cells slots lsA hW hl h1 h2 h3
  have hC0 := hC
  obtain ⟨⟨hx, hb, hml, hown, hts⟩, hK, hA, hCF, hxw, hsc, hst, hroom, htab, hend, hthr, hprop⟩ := hC
  obtain ⟨e1, e2, e3, e4, e5, e6⟩ := calB_of hB
  subst e1
  have hR : (rmM M').frames + 1 ≤ R.frames ∧ 8 + (M'.nl + 11) + (rmM M').locals ≤ R.locals := ⟨by show M'.fr + 1 ≤ _; omega, by show 8 + (M'.nl + 11) + M'.lo ≤ _; omega⟩
  have hcap : c + M'.cap ≤ M.cap → cells + M'.cap ≤ R.cells ∧ slots + 6 * M'.cap ≤ R.slots := fun h9 => ⟨by omega, by omega⟩
  have hini : (Cond.initialized M'.y.cls).before args s = true := hts _ hM'.2.1
  have hcode0 : headM M' ∈ tbG := hM'.1
  have goW : ∀ (rest : List Value) (as : List Value) (aa : Array Value), c + M'.cap ≤ M.cap → MetPM M' as h (conk rt (hnd Q a (c + M'.cap) ls hs) (fun vs h' => k (pc + 3) (c + M'.cap) ls (vs ++ rest) h')) →
      (∀ (Q' : Res → PH → Prop), MetPM M' as h Q' → vx_Run p l e R s m args below meth cc H locs cells slots M'.cap (6 * M'.cap) (F0 m pc lsA (st.map (tr ad))) (rest.map (tr ad)) (QcM ad cA D xs L H.size Q' aa) (XcM ad cA D xs L H.size Q') (adA ad H.size)) →
      W p l e R s m args below meth cc H locs cells slots Z (F0 m pc lsA (st.map (tr ad))) := by
    intro rest as aa hcp hmp hrun
    refine ac_run (M' := M') hA hW (hrun _ hmp) ?_ ?_
    · intro x h' H1 locs1 q ce hq hW1 hce hcv hcl
      exact ac_hnd hC0 ha hH (conk_inr hq) hW1 hl (by omega) (by omega) hcp hce hcv hcl
    · intro v h' H1 locs1 hq hW1
      have hq1 : k (pc + 3) (c + M'.cap) ls (v.toList ++ rest) h' := conk_inl (kk := fun vs h' => k (pc + 3) (c + M'.cap) ls (vs ++ rest) h') hq
      have := hk _ _ _ _ _ hq1 H1 locs1 (cells + M'.cap) (slots + 6 * M'.cap) lsA hW1 hl (by omega) (by omega) hcp
      rw [List.map_append, ← tr_toList] at this
      exact this
  have hmet : ∀ (as : List Value) (Q' : Res → PH → Prop), MetPM M' as h Q' → vx_Met l M'.y (wsM M') (rmM M') (va_Pc (as.map (tr ad)) (PcM ad cA D xs L H.size h)) (QcM ad cA D xs L H.size Q') (XcM ad cA D xs L H.size Q') M'.cap (6 * M'.cap) (adA ad H.size) := fun as Q' hmp => hmp l ad cA D xs L H.size hst
  have hpre := fun (As : List Value) => pc_start (As := As) hK hA hCF hxw hW
  unfold stc at hs9
  match kind, hd, hKd, hs9 with
  | 0, hd, hKd, hs9 =>
    obtain ⟨hsk, hlink, C, T, N, hci, hcls⟩ := hKd
    obtain ⟨-, -, -, hx3⟩ := id hM'
    rw [hsk] at hx3
    obtain ⟨hhh, hinst, hsel⟩ := hx3
    have hhead : headM M' = Cond.code M'.y M'.b M'.nl M'.ret := by unfold headM; rw [hhh]
    simp only at hs9
    split at hs9
    · rename_i b rest hdrop
      have hlen : (st.take n).length = n := by
        rw [List.length_take]
        have h9 := congrArg List.length hdrop
        rw [List.length_drop, List.length_cons] at h9
        omega
      unfold obIf at hs9
      split at hs9
      · rename_i hob
        obtain ⟨rs, hkd⟩ := obC_of hob
        obtain ⟨h8, hs9⟩ := cat8_of hs9
        obtain ⟨hcp, hmp⟩ := capk_of hs9 h3
        refine goW rest _ (Value.ref (ad b) :: ((st.take n).reverse.map (tr ad))).toArray hcp hmp ?_
        intro Q' hQ'
        have hst9 : st.map (tr ad) = ((st.take n).reverse.map (tr ad)).reverse ++ Value.ref (ad b) :: rest.map (tr ad) := by
          rw [st_split ad st n, hdrop]
          rfl
        refine vx_runV (g := F0 m pc lsA (st.map (tr ad))) (C := M'.y.cls) (y := M'.y) (bytes := M'.b) (maxL := M'.nl) (ret := M'.ret) (n := n) (b := ad b) (As := (st.take n).reverse.map (tr ad)) (rest := rest.map (tr ad)) (Ts := tbG) ⟨hx, hb, hml, hown, hts⟩ (hmet _ _ hQ') ⟨callB_of n hts (wsM_good hM') (by unfold wsM; rw [hhead]) rfl rfl hini (hts _ hlink) ⟨e4, e5, e6⟩ hR, hts _ hinst, hts _ hsel⟩ ⟨(hpre _).1, ?_, fun U hU hWU => (hpre (.ref b :: (st.take n).reverse)).2 U hU hWU⟩ rfl (by rw [List.length_map, List.length_reverse]; exact hlen) hl.1 hst9 (lv_room (by rw [cat_tr]; exact h8)) hd (hcap hcp)
        have hrecv := va_recv (q := (C, T, N)) hK hW.1 (ci := rc) (q0 := b) hci (wd_ob hkd)
        rw [hcls]
        exact hrecv
      · cases hs9
    · cases hs9
  | 5, hd, hKd, hs9 =>
    obtain ⟨hsk, hlink, hcls⟩ := hKd
    obtain ⟨-, -, -, hx3⟩ := id hM'
    rw [hsk] at hx3
    obtain ⟨hhh, hinst, hsel⟩ := hx3
    have hhead : headM M' = Cond.code M'.y M'.b M'.nl M'.ret := by unfold headM; rw [hhh]
    simp only at hs9
    split at hs9
    · rename_i b rest hdrop
      have hlen : (st.take n).length = n := by
        rw [List.length_take]
        have h9 := congrArg List.length hdrop
        rw [List.length_drop, List.length_cons] at h9
        omega
      obtain ⟨hco, hs9⟩ := hs9
      obtain ⟨h8, hs9⟩ := cat8_of hs9
      obtain ⟨hcp, hmp⟩ := capk_of hs9 h3
      refine goW rest _ (Value.ref (ad b) :: ((st.take n).reverse.map (tr ad))).toArray hcp hmp ?_
      intro Q' hQ'
      have hst9 : st.map (tr ad) = ((st.take n).reverse.map (tr ad)).reverse ++ Value.ref (ad b) :: rest.map (tr ad) := by
        rw [st_split ad st n, hdrop]
        rfl
      refine vx_runV (g := F0 m pc lsA (st.map (tr ad))) (C := M'.y.cls) (y := M'.y) (bytes := M'.b) (maxL := M'.nl) (ret := M'.ret) (n := n) (b := ad b) (As := (st.take n).reverse.map (tr ad)) (rest := rest.map (tr ad)) (Ts := tbG) ⟨hx, hb, hml, hown, hts⟩ (hmet _ _ hQ') ⟨callB_of n hts (wsM_good hM') (by unfold wsM; rw [hhead]) rfl rfl hini (hts _ hlink) ⟨e4, e5, e6⟩ hR, hts _ hinst, hts _ hsel⟩ ⟨(hpre _).1, ?_, fun U hU hWU => (hpre (.ref b :: (st.take n).reverse)).2 U hU hWU⟩ rfl (by rw [List.length_map, List.length_reverse]; exact hlen) hl.1 hst9 (lv_room (by rw [cat_tr]; exact h8)) hd (hcap hcp)
      rw [hcls]
      exact va_Orecv (hCF.2.2.2.1 rc b hco) hW.2.2.1
    · cases hs9
  | 1, hd, hKd, hs9 =>
    obtain ⟨hsk, hlink⟩ := hKd
    obtain ⟨-, -, -, hx3⟩ := id hM'
    rw [hsk] at hx3
    obtain ⟨hhh, hstat⟩ := hx3
    have hhead : headM M' = Cond.code M'.y M'.b M'.nl M'.ret := by unfold headM; rw [hhh]
    simp only at hs9
    obtain ⟨hlen0, hs9⟩ := len9_of hs9
    have hlen : (st.take n).length = n := by rw [List.length_take]; omega
    obtain ⟨h8, hs9⟩ := cat8_of hs9
    obtain ⟨hcp, hmp⟩ := capk_of hs9 h3
    refine goW (st.drop n) _ ((st.take n).reverse.map (tr ad)).toArray hcp hmp ?_
    intro Q' hQ'
    exact vx_runS (g := F0 m pc lsA (st.map (tr ad))) (y := M'.y) (bytes := M'.b) (maxL := M'.nl) (ret := M'.ret) (n := n) (As := (st.take n).reverse.map (tr ad)) (rest := (st.drop n).map (tr ad)) (Ts := tbG) ⟨hx, hb, hml, hown, hts⟩ (hmet _ _ hQ') ⟨callB_of n hts (wsM_good hM') (by unfold wsM; rw [hhead]) rfl rfl hini (hts _ hlink) ⟨e4, e5, e6⟩ hR, hts _ hstat⟩ (hpre _) rfl (by rw [List.length_map, List.length_reverse]; exact hlen) hl.1 (st_split ad st n) (lv_room (by rw [cat_tr]; exact h8)) hd (hcap hcp)
  | 2, hd, hKd, hs9 =>
    obtain ⟨hsk, hlink⟩ := hKd
    obtain ⟨-, -, -, hx3⟩ := id hM'
    rw [hsk] at hx3
    obtain ⟨hhh, hstat⟩ := hx3
    have hhead : headM M' = Cond.code M'.y M'.b M'.nl M'.ret := by unfold headM; rw [hhh]
    simp only at hs9
    obtain ⟨hlen0, hs9⟩ := len9_of hs9
    have hlen : (st.take n).length = n := by rw [List.length_take]; omega
    obtain ⟨h8, hs9⟩ := cat8_of hs9
    obtain ⟨hcp, hmp⟩ := capk_of hs9 h3
    refine goW (st.drop n) _ ((st.take n).reverse.map (tr ad)).toArray hcp hmp ?_
    intro Q' hQ'
    exact pm_runSN (g := F0 m pc lsA (st.map (tr ad))) (host := RX11) (y := M'.y) (bytes := M'.b) (maxL := M'.nl) (ret := M'.ret) (n := n) (As := (st.take n).reverse.map (tr ad)) (rest := (st.drop n).map (tr ad)) (Ts := tbG) ⟨hx, hb, hml, hown, hts⟩ (hmet _ _ hQ') ⟨va_cnB n hts (wsM_good hM') (by unfold wsM; rw [hhead]) rfl rfl (hxw.1 _ hlink) hini ⟨e4, e5, e6⟩ hR, hts _ hstat⟩ (hpre _) rfl (by rw [List.length_map, List.length_reverse]; exact hlen) hl.1 (st_split ad st n) (lv_room (by rw [cat_tr]; exact h8)) hd (hcap hcp)
  | 3, hd, hKd, hs9 =>
    obtain ⟨hsk, hlink⟩ := hKd
    obtain ⟨-, -, -, hx3⟩ := id hM'
    rw [hsk] at hx3
    obtain ⟨hhh, hstat⟩ := hx3
    have hhead : headM M' = Cond.codeWith M'.y M'.b M'.nl M'.ret M'.hh := by
      unfold headM
      split
      · rename_i h9; exact absurd h9 hhh
      · rfl
    simp only at hs9
    obtain ⟨hlen0, hs9⟩ := len9_of hs9
    have hlen : (st.take n).length = n := by rw [List.length_take]; omega
    obtain ⟨h8, hs9⟩ := cat8_of hs9
    obtain ⟨hcp, hmp⟩ := capk_of hs9 h3
    refine goW (st.drop n) _ ((st.take n).reverse.map (tr ad)).toArray hcp hmp ?_
    intro Q' hQ'
    have hT : GoodIn tbG (va_wsS M.y.cls idx M'.y (wsM M')) := by
      intro w hw
      unfold va_wsS at hw
      rcases List.mem_append.mp hw with hw | hw
      · simp only [List.mem_cons, List.mem_nil_iff, or_false] at hw
        rcases hw with rfl | rfl | rfl
        · exact tbG_good _ hlink
        · exact tbG_good _ hstat
        · exact tbG_good _ hM'.2.1
      · exact wsM_good hM' w hw
    exact vx_runSX (hh := M'.hh) (g := F0 m pc lsA (st.map (tr ad))) (y := M'.y) (bytes := M'.b) (maxL := M'.nl) (ret := M'.ret) (n := n) (As := (st.take n).reverse.map (tr ad)) (rest := (st.drop n).map (tr ad)) (Ts := tbG) ⟨hx, hb, hml, hown, hts⟩ (hmet _ _ hQ') (vx_cwSW n hts hT (by unfold wsM; rw [hhead]) rfl rfl ⟨e4, e5, e6⟩ hR) (hpre _) rfl (by rw [List.length_map, List.length_reverse]; exact hlen) hl.1 (st_split ad st n) (lv_room (by rw [cat_tr]; exact h8)) hd (hcap hcp)
  | 4, hd, hKd, hs9 => exact hKd.elim
  | k9 + 6, hd, hKd, hs9 => exact hKd.elim
theorem ow_code : Cond.code yJx29ce0_ordinal_8abf5 cJx29ce0_ordinal_8abf5 1 (some .int) ∈ tbG := tbG_at (p := 496) (by decide +kernel)
theorem ow_fl : Cond.fieldLink "java/lang/Enum" 7 "java/lang/Enum" "ordinal" "I" ∈ tbG := tbG_at (p := 1845) (by decide +kernel)
theorem ow_inst : Cond.instanceMethod yJx29ce0_ordinal_8abf5 ∈ tbG := tbG_at (p := 495) (by decide +kernel)
theorem ow_ini : Cond.initialized "java/lang/Enum" ∈ tbG := tbG_at (p := 34) (by decide +kernel)
theorem ow_20 : Cond.sameMethod (cNm 20) "java/lang/Enum" "ordinal" "()I" ∈ tbG ∧ Cond.selects (cNm 20) ⟨cNm 20, "ordinal", "()I"⟩ yJx29ce0_ordinal_8abf5 ∈ tbG := ⟨tbG_at (p := 492) (by decide +kernel), tbG_at (p := 494) (by decide +kernel)⟩
theorem no21 {a : Nat} : ¬ cOk a 21 := fun h => by rcases h with ⟨q, -⟩ | ⟨-, q1, q2⟩ | ⟨q, -⟩
                                                   · cases q
                                                   · omega
                                                   · cases q
theorem od_0 : decode cJx29ce0_ordinal_8abf5 0 = .ok (.aload_n 0, 1) := by decide +kernel
theorem od_1 : decode cJx29ce0_ordinal_8abf5 1 = .ok (.getfield 7, 3) := by decide +kernel
theorem od_4 : decode cJx29ce0_ordinal_8abf5 4 = .ok (.ireturn, 1) := by decide +kernel
/-- Enum.ordinal(), of a constant -/
theorem c_ordinal (l : Launch) (t : Nat) (v : Int32) : Met l yJx29ce0_ordinal_8abf5 (.code yJx29ce0_ordinal_8abf5 cJx29ce0_ordinal_8abf5 1 (some .int) :: tbG) ({ frames := 0, cells := 0, slots := 0, locals := 0 }) (va_Pc [.ref t] (fun U => va_OF "java/lang/Enum" "ordinal" "I" (.int v) t (fun _ => False) U U.heap)) (va_Qi (fun (r : Int32) (_ : Unit) => r = v) (fun _ _ => True) (fun _ => False)) 0 0 (fun _ => False) := by
  refine Met.ofW (cc := cJx29ce0_ordinal_8abf5) (maxL := 1) (ret := some .int) (by decide +kernel) rfl ?_
  intro p e s m args below meth c s₁ B hml hv
  obtain ⟨rfl, hE⟩ := hv
  have hx := B.exec
  have hb := B.bytes
  have hr := B.returns
  have hts := atoms_spec (ws := .code yJx29ce0_ordinal_8abf5 cJx29ce0_ordinal_8abf5 1 (some .int) :: tbG) B.pre
  have hown : s.vm.findClass "java/lang/Enum" = some m.cls := findClass_of_methodNamed B.named
  have hlocks := B.notSynchronized
  have hl := lv_entry ([.ref t]) (n := 1) (Nat.le_of_ble_eq_true rfl)
  rw [lg_entry_eq]
  generalize (lg_sl ([.ref t]) ++ List.replicate (1 - (lg_sl ([.ref t])).length) Slot.unset).toArray = ls at hl ⊢
  have hl : lv_has ls 1 [(0, .ref t)] := hl
  have hS : va_S (fun _ => False) s.heap s.heap [] := va_S.rf
  refine lv_aload_n hx hb od_0 rfl (lv_at hl 0 rfl) ?_
  refine vk_getf hx hb hE hS hown (hts _ (List.mem_cons_of_mem _ ow_fl)) (fun _ h9 => h9) od_1 ?_
  exact W.iret hx hb hr (fun t ht hW => ⟨⟨v, (), rfl, rfl, trivial⟩, hS.F ht⟩) hS.2.2 od_4
theorem ac_ord (hC : Cx M Q Z p l e R s m args below meth cc ad cA D A xs L) (hk : ∀ pc c ls st h, k pc c ls st h → AtC M Z p l e R s m args below meth cc ad cA D A xs L pc c ls st h) {idx ci : Nat} {a : Nat} {r : List Value} (hci : ci = 20 ∨ ci = 21) (hd : decode M.b pc = .ok (.invokevirtual idx, 3)) (hR : okI.jdkR M = true)
    (hlink : Cond.methodLink M.y.cls idx ⟨cNm ci, "ordinal", "()I"⟩ ∈ tbG) (hco : cOk a ci) (hs : cat8 r (k (pc + 3) c ls (.int (cfv a 9) :: r) h)) : AtC M Z p l e R s m args below meth cc ad cA D A xs L pc c ls (.ref a :: r) h := by
  intro H locs cells slots lsA hW hl h1 h2 h3
  obtain ⟨⟨hx, hb, hml, hown, hts⟩, hK, hA, hCF, hxw, hsc, hst, hroom, htab, hend, hthr, hprop⟩ := hC
  simp only [okI.jdkR, Bool.and_eq_true] at hR
  have r1 := Nat.le_of_ble_eq_true hR.1
  have r2 := Nat.le_of_ble_eq_true hR.2
  obtain ⟨h8, hs⟩ := cat8_of hs
  have hE : va_OF "java/lang/Enum" "ordinal" "I" (.int (cfv a 9)) (ad a) A s s.heap := by
    rcases hci with rfl | rfl
    · exact hCF.2.2.1 20 9 _ _ _ false rfl a hco
    · exact absurd hco no21
  have hw2 : Cond.sameMethod (cNm ci) "java/lang/Enum" "ordinal" "()I" ∈ tbG ∧ Cond.selects (cNm ci) ⟨cNm ci, "ordinal", "()I"⟩ yJx29ce0_ordinal_8abf5 ∈ tbG := by
    rcases hci with rfl | rfl
    · exact ow_20
    · exact absurd hco no21
  have hG : GoodIn tbG (va_wsU M.y.cls idx (cNm ci) "java/lang/Enum" ⟨cNm ci, "ordinal", "()I"⟩ yJx29ce0_ordinal_8abf5 (.code yJx29ce0_ordinal_8abf5 cJx29ce0_ordinal_8abf5 1 (some .int) :: tbG)) := by
    intro w hw
    unfold va_wsU at hw
    rcases List.mem_append.mp hw with hw | hw
    · simp only [List.mem_cons, List.mem_nil_iff, or_false] at hw
      rcases hw with rfl | rfl | rfl | rfl | rfl
      · exact tbG_good _ hlink
      · exact tbG_good _ hw2.1
      · exact tbG_good _ hw2.2
      · exact tbG_good _ ow_inst
      · exact tbG_good _ ow_ini
    · rcases List.mem_cons.mp hw with rfl | hw
      · exact tbG_good _ ow_code
      · exact tbG_good _ hw
  have hEH := hE.kept (fun a h1 h2 => hW.2.2.1.2.1 a h1 h2)
  refine va_calli (A1 := fun _ => False) (free := fun _ => False) (va_runU (g := F0 m pc lsA ((Value.ref a :: r).map (tr ad))) (C := cNm ci) (owner := "java/lang/Enum") (x := ⟨cNm ci, "ordinal", "()I"⟩) (b := ad a) (As := []) (rest := r.map (tr ad)) (Ts := tbG) (nL := M.nl) (n := 0) ⟨hx, hb, hml, hown, hts⟩ (c_ordinal l (ad a) (cfv a 9)) (va_cwU 0 hts hG rfl rfl rfl rfl ⟨by decide, by decide, by show (parseMethodDescriptor "()I").map (fun d => d.parameters.length) = some 0; decide +kernel⟩ ⟨by show 0 + 1 ≤ R.frames; omega, by show 8 + (1 + 11) + 0 ≤ R.locals; omega⟩) ⟨?_, ?_, ?_⟩ rfl rfl hl.1 rfl (lv_room (by rw [cat_tr]; exact h8)) hd ⟨by omega, by omega⟩) hW.2.2.1 (fun _ _ h9 => h9.elim) (fun _ h9 => h9.elim) ?_
  · intro a9 U g mk q
    obtain ⟨q0, q1⟩ := q
    exact ⟨q0, q1.moved (u := U) (U := U.calling g mk a9) (Vm.Alike.refl U.vm)⟩
  · exact va_Orecv (hCF.2.2.2.1 ci a hco) hW.2.2.1
  · intro U hU hWU
    refine ⟨rfl, ?_⟩
    show va_OF _ _ _ _ _ _ U U.heap
    rw [hU]
    exact (hEH.moved hWU.alike).narrow (fun _ h9 => h9.elim)
  · intro r9 u t H1 locs1 ht hvm hw hB hz hk1 hS
    rw [hw]
    exact hk _ _ _ _ _ hs H1 locs1 cells slots lsA ⟨hW.1.kept (fun k9 q hq => hk1 q.1 (hW.1 k9 q hq).lt (fun z => z)), hW.2.1, hS, hW.2.2.2⟩ hl h1 h2 h3
theorem c_inj (hCF : CF ad A s s.heap) {x y : Nat} (hx : cOk x 21) (hy : cOk y 21) (h : ad x = ad y) : x = y := by
  exact absurd hx no21
theorem wd_sar {ad : Nat → Nat} {cA : Nat → ClassId} {h : PH} {a n k v : Nat} (hk : kd a = some (.inr (5, n))) : (wd ad cA h).set a (ad a, .inl (cA 5, n, .inr (.inr (.inr (.inr (va_up (fun j => (h.2.2.1 a j).map ad) k (some (ad v)))))))) = wd ad cA (sr h a k (some v)) := by
  refine wd_upd (kd_lt hk) (fun b hb => cellE_eq (h := h) (h' := sr h a k (some v)) rfl rfl (up2_a _ _ _ hb) rfl _) ?_
  rw [hk]
  have e : (fun j => (up2 h.2.2.1 a k (some v) a j).map ad) = va_up (fun j => (h.2.2.1 a j).map ad) k (some (ad v)) := by
    funext j
    simp only [up2, va_up, if_true]
    split <;> rfl
  show Sum.inl (cA 5, n, Sum.inr (Sum.inr (Sum.inr (Sum.inr (fun j => (up2 h.2.2.1 a k (some v) a j).map ad))))) = _
  rw [e]
theorem ac_aast (hC : Cx M Q Z p l e R s m args below meth cc ad cA D A xs L) (hk : ∀ pc c ls st h, k pc c ls st h → AtC M Z p l e R s m args below meth cc ad cA D A xs L pc c ls st h) {x b n : Nat} {i : Int32} {r : List Value} (hd : decode M.b pc = .ok (.aastore, 1)) (hn : arN b 5 = some n) (hco : cOk x 21) (hin : vp_in i n) (hs : k (pc + 1) c ls r (sr h b i.toNatClampNeg (some x))) : AtC M Z p l e R s m args below meth cc ad cA D A xs L pc c ls (.ref x :: .int i :: .ref b :: r) h := by
  intro H locs cells slots lsA hW hl h1 h2 h3
  obtain ⟨⟨hx, hb, hml, hown, hts⟩, hK, hA, hCF, hxw, hsc, hst, hroom, htab, hend, hthr, hprop⟩ := hC
  have hkd := arN_of hn
  have hany : va_Any "WaveUpgrade$Command" s H (ad x) := by
    obtain ⟨cell, q1, q2, q3⟩ := va_Orecv (hCF.2.2.2.1 21 x hco) hW.2.2.1
    obtain ⟨kC, q4, -⟩ := Vm.findClass_spec q3
    refine ⟨cell, q1, q2, ⟨kC, q4⟩, fun comp hcomp => ?_⟩
    have hce := Option.some.inj (q3.symm.trans hcomp)
    rw [hce]
    first | exact Vm.assignable_self _ _ | exact assignable_self _ _ | simp [Vm.assignable]
  refine va_astqM hx hb hK hW.1 hW.2.1 hW.2.2.1 b 5 (wd_ar hkd) (ty_at cA).2.2.2.2.2 hany hin hd ?_
  intro H1 locs1 hP hD hS
  have e9 := wd_sar (ad := ad) (cA := cA) (h := h) (a := b) (n := n) (k := i.toNatClampNeg) (v := x) hkd
  have hP' : va_P D pmCl (wd ad cA (sr h b i.toNatClampNeg (some x))) H1 := by rw [← e9]; exact hP
  have hD' : va_D A (wd ad cA (sr h b i.toNatClampNeg (some x))) := by rw [← e9]; exact hD
  exact hk _ _ _ _ _ hs H1 locs1 cells slots lsA ⟨hP', hD', hS, scr_sr (kd_lt hkd) hW.2.2.2⟩ hl h1 h2 h3
theorem ac_stac (hC : Cx M Q Z p l e R s m args below meth cc ad cA D A xs L) (hk : ∀ pc c ls st h, k pc c ls st h → AtC M Z p l e R s m args below meth cc ad cA D A xs L pc c ls st h) {t : Nat}
    (hd : match t with
      | 0 => decode M.b pc = .ok (.iaload, 1)
      | 1 => decode M.b pc = .ok (.baload, 1)
      | 6 => decode M.b pc = .ok (.iaload, 1)
      | _ => decode M.b pc = .ok (.aaload, 1)) (ht : t = 0 ∨ t = 1 ∨ t = 4 ∨ t = 5 ∨ (t = 6 ∧ M.sk = 3)) (hs : stac k t pc c ls st h) : AtC M Z p l e R s m args below meth cc ad cA D A xs L pc c ls st h := by
  intro H locs cells slots lsA hW hl h1 h2 h3
  obtain ⟨⟨hx, hb, hml, hown, hts⟩, hK, hA, hCF, hxw, hsc, hst, hroom, htab, hend, hthr, hprop⟩ := hC
  unfold stac at hs
  split at hs
  · rename_i i b r
    have go : ∀ (st' : List Value), k (pc + 1) c ls st' h → W p l e R s m args below meth cc H locs cells slots Z (F0 m (pc + 1) lsA (st'.map (tr ad))) := fun st' h9 => hk _ _ _ _ _ h9 H locs cells slots lsA hW hl h1 h2 h3
    rcases ht with rfl | rfl | rfl | rfl | ⟨rfl, h9⟩
    · obtain ⟨q1, q2, q3⟩ := hs
      exact va_ti hx hb (hCF.2.2.2.2.1 0 b q1) hW.2.2.1 q2 rfl hd (go _ q3)
    · obtain ⟨q1, q2, q3⟩ := hs
      exact va_tb hx hb (hCF.2.2.2.2.1 1 b q1) hW.2.2.1 q2 rfl hd (go _ q3)
    · obtain ⟨q1, q2, q3⟩ := hs
      exact vb_tq hx hb (hCF.2.2.2.2.1 4 b q1) hW.2.2.1 q2 rfl hd (go _ q3)
    · obtain ⟨q1, q2, q3⟩ := hs
      exact vb_tq hx hb (hCF.2.2.2.2.1 5 b q1) hW.2.2.1 q2 rfl hd (go _ q3)
    · exact hs.elim
  · cases hs
theorem ac_stln (hC : Cx M Q Z p l e R s m args below meth cc ad cA D A xs L) (hk : ∀ pc c ls st h, k pc c ls st h → AtC M Z p l e R s m args below meth cc ad cA D A xs L pc c ls st h) {t : Nat}
    (hd : decode M.b pc = .ok (.arraylength, 1)) (ht : t = 0 ∨ t = 1 ∨ t = 4 ∨ t = 5 ∨ (t = 6 ∧ M.sk = 3)) (hs : stln k t pc c ls st h) : AtC M Z p l e R s m args below meth cc ad cA D A xs L pc c ls st h := by
  intro H locs cells slots lsA hW hl h1 h2 h3
  obtain ⟨⟨hx, hb, hml, hown, hts⟩, hK, hA, hCF, hxw, hsc, hst, hroom, htab, hend, hthr, hprop⟩ := hC
  unfold stln at hs
  split at hs
  · rename_i b r
    have go : ∀ (st' : List Value), k (pc + 1) c ls st' h → W p l e R s m args below meth cc H locs cells slots Z (F0 m (pc + 1) lsA (st'.map (tr ad))) := fun st' h9 => hk _ _ _ _ _ h9 H locs cells slots lsA hW hl h1 h2 h3
    split at hs
    · exact hs.elim
    · obtain ⟨q1, q3⟩ := hs
      exact va_tlen hx hb (hCF.2.2.2.2.1 t b q1) hW.2.2.1 rfl hd (go _ q3)
  · cases hs
theorem ac_stb (hC : Cx M Q Z p l e R s m args below meth cc ad cA D A xs L) (hk : ∀ pc c ls st h, k pc c ls st h → AtC M Z p l e R s m args below meth cc ad cA D A xs L pc c ls st h) {idx kind : Nat} (hne : kind ≠ 20 ∧ kind ≠ 21) (hd : decode M.b pc = .ok (.invokestatic idx, 3)) (hR : okI.jdkR M = true)
    (hKd : match kind with
      | 10 => Cond.methodLink M.y.cls idx Lib.Math.min.name ∈ tbG
      | 11 => Cond.methodLink M.y.cls idx Lib.Math.max.name ∈ tbG
      | 12 => Cond.methodLink M.y.cls idx Lib.Math.abs.name ∈ tbG
      | 13 => Cond.methodLink M.y.cls idx yJ9_floorMod_7cf53 ∈ tbG
      | _ => Cond.methodLink M.y.cls idx arraycopyName ∈ tbG)
    (hs : stb M k pc kind c ls st h) : AtC M Z p l e R s m args below meth cc ad cA D A xs L pc c ls st h := by
  intro H locs cells slots lsA hW hl h1 h2 h3
  obtain ⟨⟨hx, hb, hml, hown, hts⟩, hK, hA, hCF, hxw, hsc, hst, hroom, htab, hend, hthr, hprop⟩ := hC
  simp only [okI.jdkR, Bool.and_eq_true] at hR
  have r1 := Nat.le_of_ble_eq_true hR.1
  have r2 := Nat.le_of_ble_eq_true hR.2
  have hsz : cc.maxLocals = lsA.size := by rw [hml, hl.1]
  have hno : kind ≠ 20 ∧ kind ≠ 21 := hne
  unfold stb at hs
  split at hs
  · exact absurd rfl hno.1
  · exact absurd rfl hno.2
  · split at hs
    · rename_i y x r
      obtain ⟨h8, hs⟩ := cat8_of hs
      exact va_mmin hx hb hsz hown (hts _ hKd) (hts _ mm_min.1) (hts _ mm_min.2.1) (hts _ mm_min.2.2) (by omega) (by rw [cat_tr]; omega) (by omega) (by omega) hd (hk _ _ _ _ _ hs H locs cells slots lsA hW hl h1 h2 h3)
    · cases hs
  · split at hs
    · rename_i y x r
      obtain ⟨h8, hs⟩ := cat8_of hs
      exact va_mmax hx hb hsz hown (hts _ hKd) (hts _ mm_max.1) (hts _ mm_max.2.1) (hts _ mm_max.2.2) (by omega) (by rw [cat_tr]; omega) (by omega) (by omega) hd (hk _ _ _ _ _ hs H locs cells slots lsA hW hl h1 h2 h3)
    · cases hs
  · split at hs
    · rename_i x r
      obtain ⟨h8, hs⟩ := cat8_of hs
      exact va_mabs hx hb hsz hown (hts _ hKd) (hts _ mm_abs.1) (hts _ mm_abs.2.1) (hts _ mm_abs.2.2) (by omega) (by rw [cat_tr]; omega) (by omega) (by omega) hd (hk _ _ _ _ _ hs H locs cells slots lsA hW hl h1 h2 h3)
    · cases hs
  · split at hs
    · rename_i y x r
      obtain ⟨h7, hs⟩ := hs
      obtain ⟨h8, hs⟩ := cat8_of hs
      exact va_fmod hx hb hsz hown (hts _ hKd) (hts _ mm_fmod.1) (hts _ mm_fmod.2.1) (hts _ mm_fmod.2.2) (by omega) (by rw [cat_tr]; omega) (by omega) (by omega) h7 hd (hk _ _ _ _ _ hs H locs cells slots lsA hW hl h1 h2 h3)
    · cases hs
  · split at hs
    · rename_i n dp b sp a r
      split at hs
      · rename_i n0 n1 g0 g1
        obtain ⟨h8, hs⟩ := cat8_of hs
        obtain ⟨⟨u1, u2, u3, u4, u5⟩, hs⟩ := hs
        have k0 := arN_of g0
        have k1 := arN_of g1
        refine va_copyi hx hb hsz hown (hts _ hKd) (hts _ mm_cpy.1) (hts _ mm_cpy.2.1) (hts _ mm_cpy.2.2) hK hW.1 hW.2.1 hW.2.2.1 a b 0 0 (wd_ar k0) (wd_ar k1) (ty_at cA).1 (ty_at cA).1 rfl u1 u2 u3 u4 u5 (fun i _ => rfl) (by omega) (by rw [cat_tr, nfw7]; omega) hd ?_
        intro H1 locs1 hP hD hS
        have e9 := wd_cpi (ad := ad) (cA := cA) (h := h) (a := a) (sp := sp.toNatClampNeg) (dp := dp.toNatClampNeg) (m := n.toNatClampNeg) k1
        have hP' : va_P D pmCl (wd ad cA (cpi h a sp.toNatClampNeg b dp.toNatClampNeg n.toNatClampNeg)) H1 := by rw [← e9]; exact hP
        have hD' : va_D A (wd ad cA (cpi h a sp.toNatClampNeg b dp.toNatClampNeg n.toNatClampNeg)) := by rw [← e9]; exact hD
        exact hk _ _ _ _ _ hs H1 locs1 cells slots lsA ⟨hP', hD', hS, scr_cpi (kd_lt k1) hW.2.2.2⟩ hl h1 h2 h3
      · cases hs
    · cases hs
  · split at hs
    · rename_i n dp b sp a r
      split at hs
      · rename_i n0 n1 g0 g1
        obtain ⟨h8, hs⟩ := cat8_of hs
        obtain ⟨⟨u1, u2, u3, u4, u5⟩, hs⟩ := hs
        have k0 := arN_of g0
        have k1 := arN_of g1
        refine va_copyl hx hb hsz hown (hts _ hKd) (hts _ mm_cpy.1) (hts _ mm_cpy.2.1) (hts _ mm_cpy.2.2) hK hW.1 hW.2.1 hW.2.2.1 a b 2 2 (wd_ar k0) (wd_ar k1) (ty_at cA).2.2.1 (ty_at cA).2.2.1 rfl u1 u2 u3 u4 u5 (fun i _ => rfl) (by omega) (by rw [cat_tr, nfw7]; omega) hd ?_
        intro H1 locs1 hP hD hS
        have e9 := wd_cpl (ad := ad) (cA := cA) (h := h) (a := a) (sp := sp.toNatClampNeg) (dp := dp.toNatClampNeg) (m := n.toNatClampNeg) k1
        have hP' : va_P D pmCl (wd ad cA (cpl h a sp.toNatClampNeg b dp.toNatClampNeg n.toNatClampNeg)) H1 := by rw [← e9]; exact hP
        have hD' : va_D A (wd ad cA (cpl h a sp.toNatClampNeg b dp.toNatClampNeg n.toNatClampNeg)) := by rw [← e9]; exact hD
        exact hk _ _ _ _ _ hs H1 locs1 cells slots lsA ⟨hP', hD', hS, scr_cpl (kd_lt k1) hW.2.2.2⟩ hl h1 h2 h3
      · cases hs
    · cases hs
  · cases hs
theorem exI {x : Nat} (h : x < 3) : Cond.initialized (exN x) ∈ tbG := by
  match x, h with
  | 0, _ => exact tbG_at (p := 32) (by decide +kernel)
  | 1, _ => exact tbG_at (p := 33) (by decide +kernel)
  | 2, _ => exact tbG_at (p := 37) (by decide +kernel)
theorem beq_of {a b : Nat} (h : Nat.beq a b = true) : a = b := Nat.eq_of_beq_eq_true h
theorem stp_atC (hC : Cx M Q Z p l e R s m args below meth cc ad cA D A xs L) {a : KT} (ha : ∀ pc c ls st h, a pc c ls st h → AtC M Z p l e R s m args below meth cc ad cA D A xs L pc c ls st h) (hk : ∀ pc c ls st h, k pc c ls st h → AtC M Z p l e R s m args below meth cc ad cA D A xs L pc c ls st h)
    {en : En} (hE : okE M en = true) (hms : ∀ M' ∈ en.2.2.2.2, MOK M') (hs : stp MetPM M Q a k en c ls st h) : AtC M Z p l e R s m args below meth cc ad cA D A xs L en.1 c ls st h := by
  obtain ⟨pc, i, len, ax, ms⟩ := en
  have hC0 := hC
  obtain ⟨⟨hx, hb, hml, hown, hts⟩, hK, hA, hCF, hxw, hsc, hst, hroom, htab, hend, hthr, hprop⟩ := hC
  simp only [okE, Bool.and_eq_true, decide_eq_true_eq] at hE
  obtain ⟨hd, hI⟩ := hE
  show AtC M Z p l e R s m args below meth cc ad cA D A xs L pc c ls st h
  have one : ∀ {st' : List Value} {h' : PH} {d : Nat}, k (pc + d) c ls st' h' → h' = h → ∀ (H : Heap) (locs : List Loc) (cells slots : Nat) (lsA : Array Slot), WH ad cA D xs L A h s s.heap H locs → lv_has lsA M.nl (tl ad ls) → cells ≤ c → slots ≤ 6 * c → c ≤ M.cap → W p l e R s m args below meth cc H locs cells slots Z (F0 m (pc + d) lsA (st'.map (tr ad))) := by
    intro st' h' d h9 he H locs cells slots lsA hW hl h1 h2 h3
    subst he
    exact hk _ _ _ _ _ h9 H locs cells slots lsA hW hl h1 h2 h3
  cases i with
  | iconst n =>
    obtain rfl := beq_of hI
    intro H locs cells slots lsA hW hl h1 h2 h3
    exact lv_iconst hx hb hd (cI_ofInt n) (one (d := 1) hs rfl H locs cells slots lsA hW hl h1 h2 h3)
  | bipush n =>
    simp only [okI, Bool.and_eq_true, decide_eq_true_eq] at hI
    obtain ⟨hI, hv⟩ := hI
    obtain rfl := beq_of hI
    intro H locs cells slots lsA hW hl h1 h2 h3
    exact lv_bipush hx hb hd hv (one (d := 2) hs rfl H locs cells slots lsA hW hl h1 h2 h3)
  | sipush n =>
    simp only [okI, Bool.and_eq_true, decide_eq_true_eq] at hI
    obtain ⟨hI, hv⟩ := hI
    obtain rfl := beq_of hI
    intro H locs cells slots lsA hW hl h1 h2 h3
    exact lv_sipush hx hb hd hv (one (d := 3) hs rfl H locs cells slots lsA hW hl h1 h2 h3)
  | lconst n =>
    obtain rfl := beq_of hI
    intro H locs cells slots lsA hW hl h1 h2 h3
    exact lv_lconst hx hb hd rfl (one (d := 1) hs rfl H locs cells slots lsA hW hl h1 h2 h3)
  | fconst f =>
    simp only [okI, Bool.and_eq_true, decide_eq_true_eq] at hI
    obtain ⟨hI, rfl⟩ := hI
    obtain rfl := beq_of hI
    intro H locs cells slots lsA hW hl h1 h2 h3
    exact lv_fconst0 hx hb hd (one (d := 1) hs rfl H locs cells slots lsA hW hl h1 h2 h3)
  | dconst f =>
    simp only [okI, Bool.and_eq_true, decide_eq_true_eq] at hI
    obtain ⟨hI, rfl⟩ := hI
    obtain rfl := beq_of hI
    intro H locs cells slots lsA hW hl h1 h2 h3
    exact lv_dconst0 hx hb hd (one (d := 1) hs rfl H locs cells slots lsA hW hl h1 h2 h3)
  | ldc idx =>
    simp only [okI, Bool.and_eq_true] at hI
    obtain ⟨hI, hv⟩ := hI
    obtain rfl := beq_of hI
    simp only [stp] at hs
    split at hs
    · rename_i n pl
      simp only at hv
      intro H locs cells slots lsA hW hl h1 h2 h3
      exact lv_ldc hx hb hown (hts _ (tbG_at hv)) hd (one (d := 2) hs rfl H locs cells slots lsA hW hl h1 h2 h3)
    · simp only [Bool.and_eq_true, decide_eq_true_eq] at hv
      obtain ⟨q1, q2⟩ := hv
      obtain rfl := beq_of q2
      intro H locs cells slots lsA hW hl h1 h2 h3
      exact va_ldcS hx hb (own := RX1) (by rw [← q1]; exact hown) hxw.2 hd (one (d := 2) hs rfl H locs cells slots lsA hW hl h1 h2 h3)
    · exact hs.elim
  | ldc_w idx =>
    simp only [okI, Bool.and_eq_true] at hI
    obtain ⟨hI, hv⟩ := hI
    obtain rfl := beq_of hI
    simp only [stp] at hs
    split at hs
    · rename_i n pl
      simp only at hv
      intro H locs cells slots lsA hW hl h1 h2 h3
      exact lv_ldcw hx hb hown (hts _ (tbG_at hv)) hd (one (d := 3) hs rfl H locs cells slots lsA hW hl h1 h2 h3)
    · exact hs.elim
  | ldc2_w idx =>
    simp only [okI, Bool.and_eq_true] at hI
    obtain ⟨hI, hv⟩ := hI
    obtain rfl := beq_of hI
    simp only [stp] at hs
    split at hs
    · rename_i n pl
      simp only at hv
      intro H locs cells slots lsA hW hl h1 h2 h3
      exact lv_ldc2 hx hb hown (hts _ (tbG_at hv)) hd (one (d := 3) hs rfl H locs cells slots lsA hW hl h1 h2 h3)
    · exact hs.elim
  | aconst_null =>
    obtain rfl := beq_of hI
    intro H locs cells slots lsA hW hl h1 h2 h3
    exact lv_null hx hb hd (one (d := 1) hs rfl H locs cells slots lsA hW hl h1 h2 h3)
  | iload n =>
    obtain rfl := beq_of hI
    exact ac_stl hx hb hk (q := 0) (n := n) hd hs
  | iload_n n =>
    obtain rfl := beq_of hI
    exact ac_stl_n hx hb hk (q := 0) (n := n) hd hs
  | istore n =>
    obtain rfl := beq_of hI
    exact ac_sts hx hb hk (q := 0) (n := n) hd hs
  | istore_n n =>
    obtain rfl := beq_of hI
    exact ac_sts_n hx hb hk (q := 0) (n := n) hd hs
  | lload n =>
    obtain rfl := beq_of hI
    exact ac_stl hx hb hk (q := 1) (n := n) hd hs
  | lload_n n =>
    obtain rfl := beq_of hI
    exact ac_stl_n hx hb hk (q := 1) (n := n) hd hs
  | lstore n =>
    obtain rfl := beq_of hI
    exact ac_sts hx hb hk (q := 1) (n := n) hd hs
  | lstore_n n =>
    obtain rfl := beq_of hI
    exact ac_sts_n hx hb hk (q := 1) (n := n) hd hs
  | fload n =>
    obtain rfl := beq_of hI
    exact ac_stl hx hb hk (q := 2) (n := n) hd hs
  | fload_n n =>
    obtain rfl := beq_of hI
    exact ac_stl_n hx hb hk (q := 2) (n := n) hd hs
  | fstore n =>
    obtain rfl := beq_of hI
    exact ac_sts hx hb hk (q := 2) (n := n) hd hs
  | fstore_n n =>
    obtain rfl := beq_of hI
    exact ac_sts_n hx hb hk (q := 2) (n := n) hd hs
  | dload n =>
    obtain rfl := beq_of hI
    exact ac_stl hx hb hk (q := 3) (n := n) hd hs
  | dload_n n =>
    obtain rfl := beq_of hI
    exact ac_stl_n hx hb hk (q := 3) (n := n) hd hs
  | dstore n =>
    obtain rfl := beq_of hI
    exact ac_sts hx hb hk (q := 3) (n := n) hd hs
  | dstore_n n =>
    obtain rfl := beq_of hI
    exact ac_sts_n hx hb hk (q := 3) (n := n) hd hs
  | aload n =>
    obtain rfl := beq_of hI
    exact ac_stl hx hb hk (q := 4) (n := n) hd hs
  | aload_n n =>
    obtain rfl := beq_of hI
    exact ac_stl_n hx hb hk (q := 4) (n := n) hd hs
  | astore n =>
    obtain rfl := beq_of hI
    exact ac_sts hx hb hk (q := 4) (n := n) hd hs
  | astore_n n =>
    obtain rfl := beq_of hI
    exact ac_sts_n hx hb hk (q := 4) (n := n) hd hs
  | iinc n v =>
    simp only [okI, Bool.and_eq_true] at hI
    obtain rfl := beq_of hI
    simp only [stp] at hs
    split at hs
    · rename_i x hg hn
      intro H locs cells slots lsA hW hl h1 h2 h3
      obtain ⟨k9, hk9⟩ := List.getElem?_of_mem (tl_mem (ad := ad) (ls := ls) (q := (n, Value.int x)) |>.mpr ⟨.int x, hg, rfl⟩)
      exact lv_iinc (v := x + cI v) hx hb hd hl hk9 (by rw [cI_ofInt]) (blt_of hn) rfl (fun ls' hl' => hk _ _ _ _ _ hs H locs cells slots ls' hW (lv_mono hl' tl_put1) h1 h2 h3)
    · exact hs.elim
  | iadd =>
    obtain rfl := beq_of hI
    exact ac_a2i hk (fun x y H locs cells slots lsA rest kk => lv_iadd hx hb hd kk) hs
  | isub =>
    obtain rfl := beq_of hI
    exact ac_a2i hk (fun x y H locs cells slots lsA rest kk => lv_isub hx hb hd kk) hs
  | imul =>
    obtain rfl := beq_of hI
    exact ac_a2i hk (fun x y H locs cells slots lsA rest kk => lv_imul hx hb hd kk) hs
  | iand =>
    obtain rfl := beq_of hI
    exact ac_a2i hk (fun x y H locs cells slots lsA rest kk => lv_iand hx hb hd kk) hs
  | ior =>
    obtain rfl := beq_of hI
    exact ac_a2i hk (fun x y H locs cells slots lsA rest kk => lv_ior hx hb hd kk) hs
  | ixor =>
    obtain rfl := beq_of hI
    exact ac_a2i hk (fun x y H locs cells slots lsA rest kk => lv_ixor hx hb hd kk) hs
  | ishl =>
    obtain rfl := beq_of hI
    exact ac_a2i hk (fun x y H locs cells slots lsA rest kk => lv_ishl hx hb hd kk) hs
  | ishr =>
    obtain rfl := beq_of hI
    exact ac_a2i hk (fun x y H locs cells slots lsA rest kk => lv_ishr hx hb hd kk) hs
  | iushr =>
    obtain rfl := beq_of hI
    exact ac_a2i hk (fun x y H locs cells slots lsA rest kk => lv_iushr hx hb hd rfl kk) hs
  | land =>
    obtain rfl := beq_of hI
    exact ac_a2l hk (fun x y H locs cells slots lsA rest kk => lv_land hx hb hd kk) hs
  | lor =>
    obtain rfl := beq_of hI
    exact ac_a2l hk (fun x y H locs cells slots lsA rest kk => lv_lor hx hb hd kk) hs
  | idiv =>
    obtain rfl := beq_of hI
    simp only [stp] at hs
    split at hs
    · intro H locs cells slots lsA hW hl h1 h2 h3
      exact lv_idiv hx hb hd hs.1 (one (d := 1) hs.2 rfl H locs cells slots lsA hW hl h1 h2 h3)
    · exact hs.elim
  | irem =>
    obtain rfl := beq_of hI
    simp only [stp] at hs
    split at hs
    · intro H locs cells slots lsA hW hl h1 h2 h3
      exact lv_irem hx hb hd hs.1 (one (d := 1) hs.2 rfl H locs cells slots lsA hW hl h1 h2 h3)
    · exact hs.elim
  | lshl =>
    obtain rfl := beq_of hI
    simp only [stp] at hs
    split at hs
    · intro H locs cells slots lsA hW hl h1 h2 h3
      exact lv_lshl hx hb hd rfl (one (d := 1) hs rfl H locs cells slots lsA hW hl h1 h2 h3)
    · exact hs.elim
  | lshr =>
    obtain rfl := beq_of hI
    simp only [stp] at hs
    split at hs
    · intro H locs cells slots lsA hW hl h1 h2 h3
      exact lv_lshr hx hb hd rfl (one (d := 1) hs rfl H locs cells slots lsA hW hl h1 h2 h3)
    · exact hs.elim
  | lcmp =>
    obtain rfl := beq_of hI
    simp only [stp] at hs
    split at hs
    · intro H locs cells slots lsA hW hl h1 h2 h3
      exact W.lcmp hx hb hd (one (d := 1) hs rfl H locs cells slots lsA hW hl h1 h2 h3)
    · exact hs.elim
  | i2l =>
    obtain rfl := beq_of hI
    simp only [stp] at hs
    split at hs
    · intro H locs cells slots lsA hW hl h1 h2 h3
      exact lv_i2l hx hb hd rfl (one (d := 1) hs rfl H locs cells slots lsA hW hl h1 h2 h3)
    · exact hs.elim
  | l2i =>
    obtain rfl := beq_of hI
    simp only [stp] at hs
    split at hs
    · intro H locs cells slots lsA hW hl h1 h2 h3
      exact lv_l2i hx hb hd rfl (one (d := 1) hs rfl H locs cells slots lsA hW hl h1 h2 h3)
    · exact hs.elim
  | i2b =>
    obtain rfl := beq_of hI
    simp only [stp] at hs
    split at hs
    · intro H locs cells slots lsA hW hl h1 h2 h3
      exact lv_i2b hx hb hd rfl (one (d := 1) hs rfl H locs cells slots lsA hW hl h1 h2 h3)
    · exact hs.elim
  | i2f =>
    obtain rfl := beq_of hI
    simp only [stp] at hs
    split at hs
    · intro H locs cells slots lsA hW hl h1 h2 h3
      exact lv_i2f hx hb hd (one (d := 1) hs rfl H locs cells slots lsA hW hl h1 h2 h3)
    · exact hs.elim
  | i2d =>
    obtain rfl := beq_of hI
    simp only [stp] at hs
    split at hs
    · intro H locs cells slots lsA hW hl h1 h2 h3
      exact lv_i2d hx hb hd (one (d := 1) hs rfl H locs cells slots lsA hW hl h1 h2 h3)
    · exact hs.elim
  | fdiv =>
    obtain rfl := beq_of hI
    simp only [stp] at hs
    split at hs
    · intro H locs cells slots lsA hW hl h1 h2 h3
      exact lv_fdiv hx hb hd hs.1 (one (d := 1) hs.2 rfl H locs cells slots lsA hW hl h1 h2 h3)
    · exact hs.elim
  | ddiv =>
    obtain rfl := beq_of hI
    simp only [stp] at hs
    split at hs
    · intro H locs cells slots lsA hW hl h1 h2 h3
      exact lv_ddiv hx hb hd hs.1 (one (d := 1) hs.2 rfl H locs cells slots lsA hW hl h1 h2 h3)
    · exact hs.elim
  | f2d =>
    obtain rfl := beq_of hI
    simp only [stp] at hs
    split at hs
    · intro H locs cells slots lsA hW hl h1 h2 h3
      exact lv_f2d hx hb hd hs.1 (one (d := 1) hs.2 rfl H locs cells slots lsA hW hl h1 h2 h3)
    · exact hs.elim
  | dup =>
    obtain rfl := beq_of hI
    simp only [stp] at hs
    split at hs
    · split at hs
      · rename_i hc
        intro H locs cells slots lsA hW hl h1 h2 h3
        exact lv_dup hx hb hd (by rw [tr_cat]; exact hc) (one (d := 1) hs rfl H locs cells slots lsA hW hl h1 h2 h3)
      · exact hs.elim
    · exact hs.elim
  | dup2 =>
    obtain rfl := beq_of hI
    simp only [stp] at hs
    split at hs
    · split at hs
      · rename_i hc1 hc2
        intro H locs cells slots lsA hW hl h1 h2 h3
        exact lv_dup2_11 hx hb hd (by rw [tr_cat]; exact hc1) (by rw [tr_cat]; exact hc2) (one (d := 1) hs rfl H locs cells slots lsA hW hl h1 h2 h3)
      · exact hs.elim
    · exact hs.elim
  | pop =>
    obtain rfl := beq_of hI
    simp only [stp] at hs
    split at hs
    · split at hs
      · rename_i hc
        intro H locs cells slots lsA hW hl h1 h2 h3
        exact lv_pop hx hb hd (by rw [tr_cat]; exact hc) (one (d := 1) hs rfl H locs cells slots lsA hW hl h1 h2 h3)
      · exact hs.elim
    · exact hs.elim
  | goto off =>
    simp only [okI, Bool.and_eq_true] at hI
    obtain ⟨hI, hv⟩ := hI
    obtain rfl := beq_of hI
    simp only [stp] at hs
    split at hs
    · rename_i t
      simp only [decide_eq_true_eq] at hv
      intro H locs cells slots lsA hW hl h1 h2 h3
      exact lv_goto hx hb hd hv (hk _ _ _ _ _ hs H locs cells slots lsA hW hl h1 h2 h3)
    · exact hs.elim
  | ifCond cd off =>
    simp only [okI, Bool.and_eq_true] at hI
    obtain ⟨hI, hv⟩ := hI
    obtain rfl := beq_of hI
    simp only [stp] at hs
    split at hs
    · rename_i t
      simp only [decide_eq_true_eq] at hv
      split at hs
      · exact ac_if hx hb hk hd hv hs
      · exact hs.elim
    · exact hs.elim
  | if_icmp cd off =>
    simp only [okI, Bool.and_eq_true] at hI
    obtain ⟨hI, hv⟩ := hI
    obtain rfl := beq_of hI
    simp only [stp] at hs
    split at hs
    · rename_i t
      simp only [decide_eq_true_eq] at hv
      split at hs
      · exact ac_icmp hx hb hk hd hv hs
      · exact hs.elim
    · exact hs.elim
  | ifnull off =>
    simp only [okI, Bool.and_eq_true] at hI
    obtain ⟨hI, hv⟩ := hI
    obtain rfl := beq_of hI
    simp only [stp] at hs
    split at hs
    · rename_i t
      simp only [decide_eq_true_eq] at hv
      split at hs
      · intro H locs cells slots lsA hW hl h1 h2 h3
        exact lv_ifnullN hx hb hd hv (hk _ _ _ _ _ hs H locs cells slots lsA hW hl h1 h2 h3)
      · intro H locs cells slots lsA hW hl h1 h2 h3
        exact lv_ifnull hx hb hd (hk _ _ _ _ _ hs H locs cells slots lsA hW hl h1 h2 h3)
      · exact hs.elim
    · exact hs.elim
  | ifnonnull off =>
    simp only [okI, Bool.and_eq_true] at hI
    obtain ⟨hI, hv⟩ := hI
    obtain rfl := beq_of hI
    simp only [stp] at hs
    split at hs
    · rename_i t
      simp only [decide_eq_true_eq] at hv
      split at hs
      · intro H locs cells slots lsA hW hl h1 h2 h3
        exact lv_ifnonnullN hx hb hd (hk _ _ _ _ _ hs H locs cells slots lsA hW hl h1 h2 h3)
      · intro H locs cells slots lsA hW hl h1 h2 h3
        exact lv_ifnonnull hx hb hd hv (hk _ _ _ _ _ hs H locs cells slots lsA hW hl h1 h2 h3)
      · exact hs.elim
    · exact hs.elim
  | tableswitch d lo hi offs =>
    simp only [stp] at hs
    split at hs
    · rename_i dt l0 ts
      simp only [okI, Bool.and_eq_true, decide_eq_true_eq] at hI
      obtain ⟨⟨⟨⟨q1, q2⟩, q3⟩, q4⟩, q5⟩ := hI
      split at hs
      · exact ac_sw hx hb hk hd q1 q2 q3 q4 (blt_of q5) hs
      · exact hs.elim
    · exact hs.elim
  | getfield idx =>
    simp only [okI, Bool.and_eq_true] at hI
    obtain ⟨hI, hv⟩ := hI
    obtain rfl := beq_of hI
    simp only [stp] at hs
    split at hs
    · simp only at hv
      exact ac_stg hx hb hown hts hK hk hd hv hs
    · rename_i ci j so pl z
      simp only at hv
      split at hv
      · rename_i o n d r hfld
        simp only [Bool.and_eq_true] at hv
        obtain ⟨q1, q2⟩ := hv
        unfold stgc at hs
        split at hs
        · rename_i a9 r9
          obtain ⟨hco, hs⟩ := hs
          intro H locs cells slots lsA hW hl h1 h2 h3
          have hOF := hCF.2.2.1 ci j o n d r hfld a9 hco
          refine vk_getf hx hb hOF hW.2.2.1 hown (hts _ (tbG_at q1)) (fun _ h9 => h9) hd ?_
          cases r with
          | true =>
            obtain rfl := beq_of q2
            exact one (d := 3) hs rfl H locs cells slots lsA hW hl h1 h2 h3
          | false =>
            obtain rfl := beq_of q2
            exact one (d := 3) hs rfl H locs cells slots lsA hW hl h1 h2 h3
        · exact hs.elim
      · cases hv
    · exact hs.elim
  | putfield idx =>
    simp only [okI, Bool.and_eq_true] at hI
    obtain ⟨hI, hv⟩ := hI
    obtain rfl := beq_of hI
    simp only [stp] at hs
    split at hs
    · simp only [Bool.and_eq_true] at hv
      exact ac_put hx hb hown hts hK hk hd hv.1 hv.2 hs
    · exact hs.elim
  | iaload =>
    simp only [okI, Bool.and_eq_true] at hI
    obtain ⟨hI, hv⟩ := hI
    obtain rfl := beq_of hI
    simp only [stp] at hs
    split at hv
    · exact ac_sta hx hb hK hk (q := 0) hd (by decide) hs
    · exact ac_stac hC0 hk (t := 0) hd (Or.inl rfl) hs
    · exact ac_stac hC0 hk (t := 6) hd (Or.inr (Or.inr (Or.inr (Or.inr ⟨rfl, beq_of hv⟩)))) hs
    · cases hv
  | baload =>
    simp only [okI, Bool.and_eq_true] at hI
    obtain ⟨hI, hv⟩ := hI
    obtain rfl := beq_of hI
    simp only [stp] at hs
    split at hv
    · exact ac_sta hx hb hK hk (q := 1) hd (by decide) hs
    · exact ac_stac hC0 hk (t := 1) hd (Or.inr (Or.inl rfl)) hs
    · cases hv
  | laload =>
    obtain rfl := beq_of hI
    exact ac_sta hx hb hK hk (q := 2) hd (by decide) hs
  | daload =>
    obtain rfl := beq_of hI
    exact ac_sta hx hb hK hk (q := 3) hd (by decide) hs
  | aaload =>
    simp only [okI, Bool.and_eq_true] at hI
    obtain ⟨hI, hv⟩ := hI
    obtain rfl := beq_of hI
    simp only [stp] at hs
    split at hs
    · rename_i q
      simp only [Bool.or_eq_true] at hv
      rcases hv with hv | hv <;> obtain rfl := beq_of hv
      · exact ac_sta hx hb hK hk (q := 4) hd (by decide) hs
      · exact ac_sta hx hb hK hk (q := 5) hd (by decide) hs
    · rename_i q t
      simp only [Bool.or_eq_true] at hv
      rcases hv with hv | hv <;> obtain rfl := beq_of hv
      · exact ac_stac hC0 hk (t := 4) hd (Or.inr (Or.inr (Or.inl rfl))) hs
      · exact ac_stac hC0 hk (t := 5) hd (Or.inr (Or.inr (Or.inr (Or.inl rfl)))) hs
    · exact hs.elim
  | aastore =>
    obtain rfl := beq_of hI
    simp only [stp] at hs
    split at hs
    · split at hs
      · rename_i n hn
        exact ac_aast hC0 hk hd hn hs.1 hs.2.1 hs.2.2
      · exact hs.elim
    · exact hs.elim
  | getstatic idx =>
    simp only [okI, Bool.and_eq_true] at hI
    obtain ⟨hI, hv⟩ := hI
    obtain rfl := beq_of hI
    simp only [stp] at hs
    split at hv
    · rename_i i0 p0
      simp only at hs
      split at hv
      · rename_i C9 n9 d9 hst9
        simp only [Bool.and_eq_true] at hv
        intro H locs cells slots lsA hW hl h1 h2 h3
        have hZ := hCF.2.2.2.2.2.1 i0 C9 n9 d9 hst9
        have hi0 : i0 ≠ 0 := by
          intro z
          have h5 := hv.1
          rw [z] at h5
          cases h5
        have hv9 : cSv ad i0 = .ref (ad i0) := by
          unfold cSv
          split
          · exact absurd rfl hi0
          · rfl
        rw [hv9] at hZ
        exact va_gets hx hb hZ hW.2.2.1 hown (hts _ (tbG_at hv.2)) (fun _ h9 => h9) hd (one (d := 3) hs rfl H locs cells slots lsA hW hl h1 h2 h3)
      · cases hv
    · rename_i z0 p0
      simp only at hs
      intro H locs cells slots lsA hW hl h1 h2 h3
      have hZ := hCF.2.2.2.2.2.1 0 _ _ _ rfl
      exact va_gets hx hb hZ hW.2.2.1 hown (hts _ (tbG_at hv)) (fun _ h9 => h9) hd (one (d := 3) hs rfl H locs cells slots lsA hW hl h1 h2 h3)
    · rename_i z0 p0
      simp only at hs
      intro H locs cells slots lsA hW hl h1 h2 h3
      rcases hCF.2.2.2.2.2.2 with hZ | hZ
      · exact va_gets hx hb hZ hW.2.2.1 hown (hts _ (tbG_at hv)) (fun _ h9 => h9) hd (one (d := 3) hs.1 rfl H locs cells slots lsA hW hl h1 h2 h3)
      · exact va_gets hx hb hZ hW.2.2.1 hown (hts _ (tbG_at hv)) (fun _ h9 => h9) hd (one (d := 3) hs.2 rfl H locs cells slots lsA hW hl h1 h2 h3)
    · cases hv
  | if_acmp cd off =>
    simp only [okI, Bool.and_eq_true] at hI
    obtain ⟨hI, hv⟩ := hI
    obtain rfl := beq_of hI
    simp only [stp] at hs
    split at hs
    · rename_i t
      simp only [decide_eq_true_eq] at hv
      split at hs
      · rename_i y x r
        obtain ⟨⟨c1, c2⟩, hs⟩ := hs
        intro H locs cells slots lsA hW hl h1 h2 h3
        have inj : (some (ad x) = some (ad y)) → x = y := fun q => c_inj hCF c1 c2 (Option.some.inj q)
        cases cd with
        | eq => exact lv_acmp_eq (rx := some (ad x)) (ry := some (ad y)) hx hb hd hv (fun q => hk _ _ _ _ _ (hs.1 (inj q)) H locs cells slots lsA hW hl h1 h2 h3) (fun q => hk _ _ _ _ _ (hs.2 (fun z => q (by rw [z]))) H locs cells slots lsA hW hl h1 h2 h3)
        | ne => exact lv_acmp_ne (rx := some (ad x)) (ry := some (ad y)) hx hb hd hv (fun q => hk _ _ _ _ _ (hs.1 (fun z => q (by rw [z]))) H locs cells slots lsA hW hl h1 h2 h3) (fun q => hk _ _ _ _ _ (hs.2 (inj q)) H locs cells slots lsA hW hl h1 h2 h3)
      · exact hs.elim
    · exact hs.elim
  | fcmp op =>
    obtain rfl := beq_of hI
    simp only [stp] at hs
    split at hs
    · intro H locs cells slots lsA hW hl h1 h2 h3
      exact lv_fcmp hx hb hd (one (d := 1) hs rfl H locs cells slots lsA hW hl h1 h2 h3)
    · exact hs.elim
  | dcmp op =>
    obtain rfl := beq_of hI
    simp only [stp] at hs
    split at hs
    · intro H locs cells slots lsA hW hl h1 h2 h3
      exact lv_dcmp hx hb hd (one (d := 1) hs rfl H locs cells slots lsA hW hl h1 h2 h3)
    · exact hs.elim
  | i2c =>
    obtain rfl := beq_of hI
    simp only [stp] at hs
    split at hs
    · intro H locs cells slots lsA hW hl h1 h2 h3
      exact lv_i2c hx hb hd rfl (one (d := 1) hs rfl H locs cells slots lsA hW hl h1 h2 h3)
    · exact hs.elim
  | iastore =>
    obtain rfl := beq_of hI
    exact ac_stq hx hb hK hk (q := 0) hd hs
  | bastore =>
    obtain rfl := beq_of hI
    exact ac_stq hx hb hK hk (q := 1) hd hs
  | lastore =>
    obtain rfl := beq_of hI
    exact ac_stq hx hb hK hk (q := 2) hd hs
  | dastore =>
    obtain rfl := beq_of hI
    exact ac_stq hx hb hK hk (q := 3) hd hs
  | arraylength =>
    simp only [okI, Bool.and_eq_true] at hI
    obtain ⟨hI, hv⟩ := hI
    obtain rfl := beq_of hI
    simp only [stp] at hs
    split at hv
    · simp only at hs
      split at hs
      · split at hs
        · rename_i n hn
          exact ac_alen hx hb hK hk hd hn hs
        · exact hs.elim
      · exact hs.elim
    · exact ac_stln hC0 hk (t := 6) hd (Or.inr (Or.inr (Or.inr (Or.inr ⟨rfl, beq_of hv⟩)))) hs
    · rename_i t _
      simp only [Bool.or_eq_true] at hv
      refine ac_stln hC0 hk (t := t) hd ?_ hs
      rcases hv with ((hv | hv) | hv) | hv
      · exact Or.inl (beq_of hv)
      · exact Or.inr (Or.inl (beq_of hv))
      · exact Or.inr (Or.inr (Or.inl (beq_of hv)))
      · exact Or.inr (Or.inr (Or.inr (Or.inl (beq_of hv))))
    · cases hv
  | return_ =>
    simp only [okI, Bool.and_eq_true, decide_eq_true_eq] at hI
    obtain ⟨hI, hr⟩ := hI
    obtain rfl := beq_of hI
    exact ac_str hC0 (rt := 0) hd (fun v hv => ⟨hv, hr⟩) hs
  | ireturn =>
    simp only [okI, Bool.and_eq_true] at hI
    obtain ⟨hI, hr⟩ := hI
    obtain rfl := beq_of hI
    simp only [stp] at hs
    split at hr
    · simp only [decide_eq_true_eq] at hr
      exact ac_str hC0 (rt := 1) hd (fun v hv => by obtain ⟨x, rfl⟩ := hv; exact ⟨x, .int, rfl, hr, rfl⟩) hs
    · simp only [decide_eq_true_eq] at hr
      exact ac_str hC0 (rt := 6) hd (fun v hv => by
        obtain ⟨x, rfl, hB⟩ := hv
        refine ⟨x, .boolean, rfl, hr, ?_⟩
        rcases hB with rfl | rfl <;> rfl) hs
    · simp only [decide_eq_true_eq] at hr
      exact ac_str hC0 (rt := 7) hd (fun v hv => by obtain ⟨x, rfl, hn⟩ := hv; exact ⟨x, .byte, rfl, hr, hn⟩) hs
    · simp only [decide_eq_true_eq] at hr
      exact ac_str hC0 (rt := 8) hd (fun v hv => by obtain ⟨x, rfl, hn⟩ := hv; exact ⟨x, .char, rfl, hr, hn⟩) hs
    · cases hr
  | lreturn =>
    simp only [okI, Bool.and_eq_true, decide_eq_true_eq] at hI
    obtain ⟨hI, hr⟩ := hI
    obtain rfl := beq_of hI
    exact ac_str hC0 (rt := 2) hd (fun v hv => by obtain ⟨x, rfl⟩ := hv; exact ⟨x, rfl, hr⟩) hs
  | freturn =>
    simp only [okI, Bool.and_eq_true, decide_eq_true_eq] at hI
    obtain ⟨hI, hr⟩ := hI
    obtain rfl := beq_of hI
    exact ac_str hC0 (rt := 3) hd (fun v hv => by obtain ⟨x, rfl⟩ := hv; exact ⟨x, rfl, hr⟩) hs
  | dreturn =>
    simp only [okI, Bool.and_eq_true, decide_eq_true_eq] at hI
    obtain ⟨hI, hr⟩ := hI
    obtain rfl := beq_of hI
    exact ac_str hC0 (rt := 4) hd (fun v hv => by obtain ⟨x, rfl⟩ := hv; exact ⟨x, rfl, hr⟩) hs
  | areturn =>
    simp only [okI, Bool.and_eq_true] at hI
    obtain ⟨hI, hr⟩ := hI
    obtain rfl := beq_of hI
    split at hr
    · rename_i nm hret
      exact ac_str hC0 (rt := 5) hd (fun v hv => ⟨Or.inl ⟨nm, hret⟩, hv⟩) hs
    · cases hr
  | new ik =>
    simp only [stp] at hs
    split at hs
    · rename_i x axr
      obtain ⟨h8, hcap, hq⟩ := cat8_of hs
      simp only [okI, Bool.and_eq_true] at hI
      obtain ⟨hI, hv⟩ := hI
      obtain rfl := beq_of hI
      split at hv
      · rename_i x' ic p1 p2 hax
        cases hax
        simp only [Bool.and_eq_true, decide_eq_true_eq] at hv
        obtain ⟨⟨⟨⟨⟨⟨⟨f1, f2⟩, f3⟩, q1⟩, q2⟩, q3⟩, q4⟩, q5⟩ := hv
        exact ac_new hC0 (ik := ik) (ic := ic) (x := x) ⟨hd, q1, q2, q3, Nat.le_of_ble_eq_true f1, Nat.le_of_ble_eq_true f2, blt_of f3, exI (blt_of f3), tbG_at q4, tbG_at q5⟩ h8 hcap hq
      · cases hv
    · exact hs.elim
  | invokevirtual idx =>
    simp only [okI, Bool.and_eq_true] at hI
    obtain ⟨hI, hv⟩ := hI
    obtain rfl := beq_of hI
    simp only [stp] at hs
    split at hv
    · rename_i n rt rc mcv p' hs' M'
      simp only [Bool.and_eq_true] at hv
      obtain ⟨⟨⟨⟨q1, q2⟩, q3⟩, q4⟩, q5⟩ := hv
      refine ac_stc hC0 ha hk (kind := 0) (hms M' (by simp)) hd q1 q5 ⟨beq_of q2, tbG_at q3, ?_⟩ hs
      split at q4
      · rename_i C T N hc
        exact ⟨C, T, N, hc, of_decide_eq_true q4⟩
      · cases q4
    · rename_i n rt rc mcv p' hs' M'
      simp only [Bool.and_eq_true] at hv
      obtain ⟨⟨⟨⟨q1, q2⟩, q3⟩, q4⟩, q5⟩ := hv
      exact ac_stc hC0 ha hk (kind := 5) (hms M' (by simp)) hd q1 q5 ⟨beq_of q2, tbG_at q3, of_decide_eq_true q4⟩ hs
    · simp only [Bool.and_eq_true] at hv
      simp only [stb] at hs
      split at hs
      · exact ac_ord hC0 hk (Or.inl rfl) hd hv.2 (tbG_at hv.1) hs.1 hs.2
      · exact hs.elim
    · cases hv
  | invokestatic idx =>
    simp only [okI, Bool.and_eq_true] at hI
    obtain ⟨hI, hv⟩ := hI
    obtain rfl := beq_of hI
    simp only [stp] at hs
    split at hv
    · rename_i kind n rt z mcv p' hs' M'
      simp only at hs
      simp only [Bool.and_eq_true] at hv
      obtain ⟨⟨q1, q2⟩, q3⟩ := hv
      split at q2
      · simp only [Bool.and_eq_true] at q2
        exact ac_stc hC0 ha hk (kind := 1) (hms M' (by simp)) hd q1 q3 ⟨beq_of q2.1, tbG_at q2.2⟩ hs
      · simp only [Bool.and_eq_true] at q2
        exact ac_stc hC0 ha hk (kind := 3) (hms M' (by simp)) hd q1 q3 ⟨beq_of q2.1, tbG_at q2.2⟩ hs
      · simp only [Bool.and_eq_true] at q2
        refine ac_stc hC0 ha hk (kind := 2) (hms M' (by simp)) hd q1 q3 ⟨beq_of q2.1, ?_⟩ hs
        have q4 := q2.2
        split at q4
        · rename_i w hw
          rw [← of_decide_eq_true q4]
          exact List.mem_of_getElem? hw
        · cases q4
      · cases q2
    · simp only [Bool.and_eq_true] at hv
      exact ac_stb hC0 hk (kind := 10) (by decide) hd hv.2 (tbG_at hv.1) hs
    · simp only [Bool.and_eq_true] at hv
      exact ac_stb hC0 hk (kind := 11) (by decide) hd hv.2 (tbG_at hv.1) hs
    · simp only [Bool.and_eq_true] at hv
      exact ac_stb hC0 hk (kind := 12) (by decide) hd hv.2 (tbG_at hv.1) hs
    · simp only [Bool.and_eq_true] at hv
      exact ac_stb hC0 hk (kind := 13) (by decide) hd hv.2 (tbG_at hv.1) hs
    · simp only [Bool.and_eq_true] at hv
      exact ac_stb hC0 hk (kind := 15) (by decide) hd hv.2 (tbG_at hv.1) hs
    · simp only [Bool.and_eq_true] at hv
      exact ac_stb hC0 hk (kind := 16) (by decide) hd hv.2 (tbG_at hv.1) hs
    · cases hv
  | _ => exact hs.elim
end
end
section
/-! ===== 'At' step by step; a method's contract out of its entry; what goes on behind a call ===== -/
theorem at_step {M : MI} {Q : Res → PH → Prop} {k : KT} {en : En} {c : Nat} {ls : Lc} {st : List Value} {h : PH} (hE : okE M en = true) (hms : ∀ M' ∈ en.2.2.2.2, MOK M') (hk : ∀ pc c ls st h, k pc c ls st h → At M Q pc c ls st h) (hs : stp MetPM M Q (At M Q) k en c ls st h) : At M Q en.1 c ls st h := by
  intro Z p l e R s m args below meth cc ad cA D A xs L hC
  exact stp_atC hC (fun pc c ls st h h9 => h9 Z p l e R s m args below meth cc ad cA D A xs L hC) (fun pc c ls st h h9 => hk pc c ls st h h9 Z p l e R s m args below meth cc ad cA D A xs L hC) hE hms hs
/-- a method's code, in blocks of rows by place / 16 -/
abbrev Cd : Type := List (List En)
def lkE (C : Cd) (pc : Nat) : Option En := (C.getD (pc / 16) []).find? (fun e => Nat.beq e.1 pc)
def okC (M : MI) (C : Cd) : Bool := C.all (fun b => b.all (fun e => okE M e))
def msC (C : Cd) : List MI := C.flatMap (fun b => b.flatMap (fun e => e.2.2.2.2))
theorem lkE_mem {C : Cd} {pc : Nat} {e : En} (h : lkE C pc = some e) : (∃ b ∈ C, e ∈ b) ∧ e.1 = pc := by
  unfold lkE at h
  refine ⟨?_, Nat.eq_of_beq_eq_true (List.find?_some (p := fun e : En => Nat.beq e.1 pc) h)⟩
  have hm := List.mem_of_find?_eq_some h
  rcases Nat.lt_or_ge (pc / 16) C.length with q | q
  · refine ⟨C[pc / 16], List.getElem_mem q, ?_⟩
    rw [List.getD_eq_getElem?_getD, List.getElem?_eq_getElem q] at hm
    exact hm
  · rw [List.getD_eq_getElem?_getD, List.getElem?_eq_none q] at hm
    cases hm
/-- the code is M's, and the tables know what it calls -/
def CdOk (M : MI) (C : Cd) : Prop := okC M C = true ∧ ∀ M' ∈ msC C, MOK M'
/-- n steps, or up to a place where to stop -/
def vc (C : Cd) (M : MI) (Q : Res → PH → Prop) (stops : List Nat) : Nat → KT
  | 0 => At M Q
  | n + 1 => fun pc c ls st h => match stops.elem pc with
    | true => At M Q pc c ls st h
    | false => match lkE C pc with
      | some e => stp MetPM M Q (At M Q) (vc C M Q stops n) e c ls st h
      | none => False
theorem step_of {C : Cd} {M : MI} (hC : CdOk M C) {Q : Res → PH → Prop} {k : KT} (hk : ∀ pc c ls st h, k pc c ls st h → At M Q pc c ls st h) {pc c : Nat} {ls : Lc} {st : List Value} {h : PH} {e : En} (he : lkE C pc = some e) (hs : stp MetPM M Q (At M Q) k e c ls st h) : At M Q pc c ls st h := by
  obtain ⟨⟨b, hb, heb⟩, hpc⟩ := lkE_mem he
  have h1 := List.all_eq_true.mp (List.all_eq_true.mp hC.1 b hb) e heb
  have h2 : ∀ M' ∈ e.2.2.2.2, MOK M' := fun M' hm => hC.2 M' (List.mem_flatMap.mpr ⟨b, hb, List.mem_flatMap.mpr ⟨e, heb, hm⟩⟩)
  rw [← hpc]
  exact at_step h1 h2 hk hs
theorem vc_ok {C : Cd} {M : MI} (hC : CdOk M C) {Q : Res → PH → Prop} {stops : List Nat} : ∀ (n pc c : Nat) (ls : Lc) (st : List Value) (h : PH), vc C M Q stops n pc c ls st h → At M Q pc c ls st h := by
  intro n
  induction n with
  | zero => intro pc c ls st h h9; exact h9
  | succ n ih =>
    intro pc c ls st h h9
    unfold vc at h9
    split at h9
    · exact h9
    · split at h9
      · rename_i e he
        exact step_of hC ih he h9
      · exact h9.elim
/-- from a stop on: the first step is taken -/
def vg (C : Cd) (M : MI) (Q : Res → PH → Prop) (stops : List Nat) (n : Nat) : KT := fun pc c ls st h => match lkE C pc with
  | some e => stp MetPM M Q (At M Q) (vc C M Q stops n) e c ls st h
  | none => False
theorem vg_ok {C : Cd} {M : MI} (hC : CdOk M C) {Q : Res → PH → Prop} {stops : List Nat} (n pc c : Nat) (ls : Lc) (st : List Value) (h : PH) (h9 : vg C M Q stops n pc c ls st h) : At M Q pc c ls st h := by
  unfold vg at h9
  split at h9
  · rename_i e he
    exact step_of hC (vc_ok hC n) he h9
  · exact h9.elim
/-- the locals at a method's entry -/
def ent : List Value → Lc
  | [] => []
  | v :: r => match v.category with
    | 2 => some v :: none :: ent r
    | _ => some v :: ent r
def entL (n : Nat) (as : List Value) : Lc := ent as ++ List.replicate (n - (ent as).length) none
end
section
/-! ===== a method's contract out of its entry ===== -/
def exNames : List String := ["java/lang/RuntimeException", "java/lang/Exception"]
/-- the words of a throw: each good one at its place of the tables, the others among XW -/
def exL (X : String) : List Jvm.Cond := (Bundle.throwableAtoms ++ Bundle.chain0Atoms X exNames) ++ (Bundle.ownAtoms0 "" 0 X exNames).drop 40
def thW (X : String) (ps : List Nat) : Bool := Nat.beq (exL X).length ps.length && ((exL X).zip ps).all (fun q => !vx_no q.1 || atW q.2 q.1 || XW.elem q.1)
theorem thW_0 : thW (exN 0) [29, 643, 652, 656, 659, 661, 644, 645, 44, 45, 646, 651, 657, 673, 633, 674, 635, 675, 637, 647, 0, 649, 0, 639, 1331, 1332, 1333, 666, 624, 666, 667, 668, 669, 626, 669, 670, 671, 644, 628, 1322, 1323, 1324, 654, 1325, 1326, 1327, 1328, 0, 0, 642, 641, 1329] = true := by decide +kernel
theorem thW_1 : thW (exN 1) [29, 643, 652, 656, 659, 661, 644, 645, 44, 45, 646, 651, 657, 673, 633, 674, 635, 675, 637, 647, 0, 649, 0, 639, 663, 664, 665, 666, 624, 666, 667, 668, 669, 626, 669, 670, 671, 644, 628, 622, 623, 630, 631, 632, 634, 636, 638, 0, 0, 642, 641, 640] = true := by decide +kernel
theorem thW_2 : thW (exN 2) [29, 643, 652, 656, 659, 661, 644, 645, 44, 45, 646, 651, 657, 673, 633, 674, 635, 675, 637, 647, 0, 649, 0, 639, 1402, 1403, 1404, 666, 624, 666, 667, 668, 669, 626, 669, 670, 671, 644, 628, 1393, 1394, 1395, 655, 1396, 1397, 1398, 1399, 0, 0, 642, 641, 1400] = true := by decide +kernel
theorem thW_of {X : String} {ps : List Nat} (h : thW X ps = true) {w : Jvm.Cond} (hw : w ∈ exL X) (hno : vx_no w = true) : w ∈ tbG ∨ w ∈ XW := by
  simp only [thW, Bool.and_eq_true] at h
  obtain ⟨h1, h2⟩ := h
  have h1 := Nat.eq_of_beq_eq_true h1
  obtain ⟨i, hi⟩ := List.getElem?_of_mem hw
  have hil : i < ps.length := by rw [← h1]; exact (List.getElem?_eq_some_iff.mp hi).1
  have h3 : ((exL X).zip ps)[i]? = some (w, ps[i]) := by
    rw [List.getElem?_zip_eq_some]
    exact ⟨hi, List.getElem?_eq_getElem hil⟩
  have h4 := List.all_eq_true.mp h2 _ (List.mem_of_getElem? h3)
  simp only [Bool.or_eq_true] at h4
  rcases h4 with (h4 | h4) | h4
  · rw [hno] at h4; cases h4
  · exact Or.inl (tbG_at h4)
  · exact Or.inr (List.elem_iff.mp h4)
theorem own_of {own X : String} {ic : Nat} {w : Jvm.Cond} (h : w ∈ Bundle.ownAtoms0 own ic X exNames) : w = .methodLink own ic (Bundle.init0 X) ∨ w ∈ exL X := by
  unfold Bundle.ownAtoms0 at h
  unfold exL
  rcases List.mem_append.mp h with h | h
  · exact Or.inr (List.mem_append_left _ h)
  · rcases List.mem_cons.mp h with h | h
    · exact Or.inl h
    · refine Or.inr (List.mem_append_right _ ?_)
      have e : (Bundle.ownAtoms0 "" 0 X exNames).drop 40 = _ := rfl
      rw [e]
      exact h
theorem th_words {own : String} {ic x : Nat} (hx : x < 3) {w : Jvm.Cond} (hw : w ∈ vx_at0 own ic (exN x) exNames) (hml : Cond.methodLink own ic (Bundle.init0 (exN x)) ∈ tbG) : w ∈ tbG ∨ w ∈ XW := by
  obtain ⟨h1, h2⟩ := List.mem_filter.mp hw
  rcases own_of h1 with h3 | h3
  · rw [h3]; exact Or.inl hml
  · match x, hx with
    | 0, _ => exact thW_of thW_0 h3 h2
    | 1, _ => exact thW_of thW_1 h3 h2
    | 2, _ => exact thW_of thW_2 h3 h2
theorem XW_on : XW.all (fun w => w.onTables) = true := by decide +kernel
theorem ot_of {w : Jvm.Cond} (h : w ∈ tbG ∨ w ∈ XW) : vx_ot w = true := by
  unfold vx_ot
  rcases h with h | h
  · rw [(List.mem_filter.mp h).2, Bool.or_true]
  · rw [List.all_eq_true.mp XW_on w h, Bool.true_or]
theorem st_before {ad : Nat → Nat} {s : State} {args : Array Value} (hts : ∀ w ∈ tbG, w.before args s = true) (hx : xwOk ad s) {w : Jvm.Cond} (h : w ∈ tbG ∨ w ∈ XW) : w.before args s = true := by
  rcases h with h | h
  · exact hts w h
  · exact va_Nw.use (List.all_eq_true.mp XW_on w h) (hx.1 w h)
theorem fit_x (x : Nat) : Bundle.fit (exN x) = true := by
  match x with
  | 0 => decide +kernel
  | 1 => decide +kernel
  | x + 2 =>
    show Bundle.fit "java/lang/IndexOutOfBoundsException" = true
    decide +kernel
theorem fit_n : ∀ n ∈ exNames, Bundle.fit n = true := by decide +kernel
theorem ent_lv (ad : Nat → Nat) : ∀ (as : List Value), (ent as).length = (lg_sl (as.map (tr ad))).length ∧ ∀ (i0 : Nat) (q : Nat × Value), (∃ v, (ent as).getD (q.1 - i0) none = some v ∧ i0 ≤ q.1 ∧ q.2 = tr ad v) → q ∈ lv_args i0 (as.map (tr ad)) := by
  intro as
  induction as with
  | nil => exact ⟨rfl, fun i0 q ⟨v, h, _⟩ => by simp [ent] at h⟩
  | cons v r ih =>
    obtain ⟨ih1, ih2⟩ := ih
    have hc : v.category = 1 ∨ v.category = 2 := lv_cat v
    rcases hc with hc | hc
    · have e : ent (v :: r) = some v :: ent r := by
        cases v <;> first | rfl | cases hc
      refine ⟨?_, ?_⟩
      · rw [e]
        simp only [lg_sl, List.map_cons, List.flatMap_cons, tr_cat, hc]
        simp [ih1, lg_sl]
      · intro i0 q ⟨u, h1, h2, h3⟩
        rw [e] at h1
        simp only [List.map_cons, lv_args, tr_cat, hc]
        by_cases h4 : q.1 = i0
        · rw [h4, Nat.sub_self] at h1
          simp at h1
          subst h1
          have : q = (i0, tr ad v) := by rw [← h4, ← h3]
          rw [this]
          exact List.mem_cons_self
        · refine List.mem_cons_of_mem _ (ih2 (i0 + 1) q ⟨u, ?_, by omega, h3⟩)
          have : q.1 - i0 = (q.1 - (i0 + 1)) + 1 := by omega
          rw [this] at h1
          simpa using h1
    · have e : ent (v :: r) = some v :: none :: ent r := by
        cases v <;> first | rfl | cases hc
      refine ⟨?_, ?_⟩
      · rw [e]
        simp only [lg_sl, List.map_cons, List.flatMap_cons, tr_cat, hc]
        simp [ih1, lg_sl]
      · intro i0 q ⟨u, h1, h2, h3⟩
        rw [e] at h1
        simp only [List.map_cons, lv_args, tr_cat, hc]
        by_cases h4 : q.1 = i0
        · rw [h4, Nat.sub_self] at h1
          simp at h1
          subst h1
          have : q = (i0, tr ad v) := by rw [← h4, ← h3]
          rw [this]
          exact List.mem_cons_self
        · by_cases h5 : q.1 = i0 + 1
          · have : q.1 - i0 = 0 + 1 := by omega
            rw [this] at h1
            simp at h1
          · refine List.mem_cons_of_mem _ (ih2 (i0 + 2) q ⟨u, ?_, by omega, h3⟩)
            have : q.1 - i0 = (q.1 - (i0 + 2)) + 1 + 1 := by omega
            rw [this] at h1
            simpa using h1
theorem getD_app {l : Lc} {n i : Nat} {v : Value} (h : (l ++ List.replicate n none).getD i none = some v) : l.getD i none = some v := by
  rcases Nat.lt_or_ge i l.length with q | q
  · rw [List.getD_eq_getElem?_getD, List.getElem?_append_left q] at h
    rw [List.getD_eq_getElem?_getD]; exact h
  · exfalso
    rw [List.getD_eq_getElem?_getD, List.getElem?_append_right q, List.getElem?_replicate] at h
    split at h <;> cases h
set_option maxHeartbeats 1000000 in
theorem met_of {M : MI} {as : List Value} {h : PH} {Q : Res → PH → Prop} (hM : MOK M) (hfr : (ent as).length ≤ M.nl) (hQ : M.hh ≠ [] → ∀ x h, ¬ Q (.inr x) h) (hat : At M Q 0 0 (entL M.nl as) [] h) : MetPM M as h Q := by
  intro l ad cA D xs L sz hst
  have body : ∀ (p : Program) (e : Env) (s : State) (m : MethodId) (args : Array Value) (below : List Frame) (meth : Method) (c : Code) (s₁ : State), BodyLoose p l M.y (headSpec (wsM M) (rmM M)) M.b M.nl M.ret e s m args below meth c s₁ → c.maxLocals = M.nl → c.exceptionTable.toList = tableOf M.hh → va_Pc (as.map (tr ad)) (PcM ad cA D xs L sz h) args s →
      W p l e (headSpec (wsM M) (rmM M)).room s m args below meth c s.heap [] 0 0 (vx_MQ below (QcM ad cA D xs L sz Q) (XcM ad cA D xs L sz Q) args s M.cap (6 * M.cap) (adA ad sz)) (entryFrame m args M.nl) := by
    intro p e s m args below meth c s₁ B hml htab hv
    obtain ⟨rfl, hsz, hP, hK, hD0, hscr, hCF, hxw⟩ := hv
    subst hsz
    have hts0 := atoms_spec (ws := wsM M) B.pre
    have hts : ∀ w ∈ tbG, w.before (as.map (tr ad)).toArray s = true := fun w hw => hts0 w (List.mem_cons_of_mem _ hw)
    have hown : s.vm.findClass M.y.cls = some m.cls := findClass_of_methodNamed B.named
    have hlocks := B.notSynchronized
    have hD : va_D (adA ad s.heap.size) (wd ad cA h) := wd_ad hD0 (fun a ha => Or.inl ⟨a, ha, rfl⟩)
    have hlv := lv_entry (as.map (tr ad)) (n := M.nl) (by rw [← (ent_lv ad as).1]; exact hfr)
    rw [lg_entry_eq]
    refine hat _ p l e _ s m _ below meth c ad cA D (adA ad s.heap.size) xs L ?_ s.heap [] 0 0 _ ⟨hP, hD, va_S.rf, hscr⟩ (lv_mono hlv ?_) (Nat.le_refl 0) (Nat.zero_le _) (Nat.zero_le _)
    · refine ⟨⟨B.exec, B.bytes, hml, hown, hts⟩, hK, fun q hq => Or.inr hq, hCF, hxw, (fun h3 => by have h4 := hM.2.2.2; rw [h3] at h4; exact h4.elim), hst, ⟨Nat.le_refl _, Nat.le_refl _, Nat.le_refl _, Nat.le_refl _⟩, htab, ?_, ?_, ?_⟩
      · intro v h' H locs cells slots pc i ls hd hr hq hW hc hs
        refine W.widen (k := M.cap) (n := 6 * M.cap) hc hs ?_
        refine vx_ret ?_
        have hqc : ∀ t : State, t.heap = H → s.WarmedH t.vm → QcM ad cA D xs L s.heap.size Q (as.map (tr ad)).toArray s (.returned (v.map (tr ad))) t := fun t ht _ => ⟨⟨v, h', rfl, hq, by rw [ht]; exact hW.1, hW.2.1, hW.2.2.2⟩, hW.2.2.1.F ht⟩
        have hf := hW.2.2.1.2.2
        have hret := B.returns
        cases i <;> simp only [rtOk] at hr
        case return_ =>
          obtain ⟨rfl, hr⟩ := hr
          exact W.vret B.exec B.bytes (hret.trans hr) hqc hf hd
        case ireturn =>
          obtain ⟨x, ty, rfl, hr, hn⟩ := hr
          exact W.zret B.exec B.bytes (hret.trans hr) hn hqc hf hd
        case lreturn =>
          obtain ⟨x, rfl, hr⟩ := hr
          exact W.lret B.exec B.bytes (hret.trans hr) hqc hf hd
        case freturn =>
          obtain ⟨x, rfl, hr⟩ := hr
          exact W.fret B.exec B.bytes (hret.trans hr) hqc hf hd
        case dreturn =>
          obtain ⟨x, rfl, hr⟩ := hr
          exact W.dret B.exec B.bytes (hret.trans hr) hqc hf hd
        case areturn =>
          obtain ⟨hty, hv⟩ := hr
          have hty2 : ∃ rt, M.ret = some rt ∧ ((∃ n, rt = .object n) ∨ ∃ t, rt = .array t) := by
            rcases hty with ⟨n, hn⟩ | ⟨t, hn⟩
            · exact ⟨_, hn, Or.inl ⟨n, rfl⟩⟩
            · exact ⟨_, hn, Or.inr ⟨t, rfl⟩⟩
          obtain ⟨rt, hr1, hr2⟩ := hty2
          rcases hv with rfl | ⟨a, rfl⟩
          · exact W.aret B.exec B.bytes (hret.trans hr1) hr2 (Or.inl rfl) hqc hf hd
          · exact W.aret B.exec B.bytes (hret.trans hr1) hr2 (Or.inr ⟨_, rfl⟩) hqc hf hd
      · intro x h' H locs cells slots pc ik ic ls rest hth hq hW hc hs hlsz h8
        obtain ⟨d0, d3, d4, d7, f1, f2, hx3, hini, hcl, hml9⟩ := hth
        have hhh : M.hh = [] := by
          by_cases q : M.hh = []
          · exact q
          · exact absurd hq (hQ q x h')
        have hall : ∀ w ∈ Cond.classLink M.y.cls ik (exN x) :: Cond.initialized (exN x) :: vx_at0 M.y.cls ic (exN x) exNames, w ∈ tbG ∨ w ∈ XW := by
          intro w hw
          rcases List.mem_cons.mp hw with rfl | hw
          · exact Or.inl hcl
          · rcases List.mem_cons.mp hw with rfl | hw
            · exact Or.inl hini
            · exact th_words hx3 hw hml9
        refine vx_throw0 (names := exNames) (ik := ik) (ic := ic) (cls := exN x) (A := adA ad s.heap.size) B.exec B.bytes hst hown (fit_x x) fit_n (hts _ hcl) (hts _ hini) (fun w hw => st_before hts hxw (hall w (List.mem_cons_of_mem _ (List.mem_cons_of_mem _ hw)))) (fun w hw => ot_of (hall w hw)) hCF.1.1 hCF.1.2 hW.2.2.1 (hlsz.trans hml.symm) d0 d3 d4 d7 ?_ ?_ ?_ ?_ ?_ hlocks ?_ hW.2.2.1.2.2 hc hs
        · rw [htab, hhh]
          intro z hz
          cases hz
        · show 2 + 3 < M.fr
          omega
        · show _ + (13 * (2 + 1) + 42) ≤ M.lo
          omega
        · exact hc
        · exact hs
        · intro t hvm hsz2 hk2
          refine ⟨⟨x, h', rfl, hq, ?_, hW.2.1, hW.2.2.2⟩, Nat.le_trans hW.2.2.1.1 hsz2, fun q h1 h2 => by rw [hk2 q (Nat.lt_of_lt_of_le h1 hW.2.2.1.1)]; exact hW.2.2.1.2.1 q h1 h2⟩
          exact hW.1.kept (fun k q hk => hk2 q.1 (hW.1 k q hk).lt)
      · intro x h' H locs cells slots pc ls rest q ce hq hW hc hs hce hcv hcl
        have hhh : M.hh = [] := by
          by_cases q : M.hh = []
          · exact q
          · exact absurd hq (hQ q x h')
        refine vx_out (E := exN x) ?_ hlocks hce hcv hcl (fun t ht _ => ⟨⟨x, h', rfl, hq, by rw [ht]; exact hW.1, hW.2.1, hW.2.2.2⟩, hW.2.2.1.F ht⟩) hW.2.2.1.2.2 hc hs
        rw [htab, hhh]
        intro z hz
        cases hz
    · intro q hq
      obtain ⟨v, hv, he⟩ := tl_mem.mp hq
      refine (ent_lv ad as).2 0 q ⟨v, getD_app hv, Nat.zero_le _, he⟩
  by_cases hhh : M.hh = []
  · refine vx_ofW (cc := M.b) (maxL := M.nl) (ret := M.ret) hM.2.2.1 (by unfold wsM headM; rw [hhh]) ?_
    intro p e s m args below meth c s₁ B hml ht hv
    refine body p e s m args below meth c s₁ B hml ?_ hv
    rw [hhh]
    cases hl9 : c.exceptionTable.toList with
    | nil => rfl
    | cons a r => exact (ht a (by rw [hl9]; exact List.mem_cons_self)).elim
  · have hhead : headM M = Cond.codeWith M.y M.b M.nl M.ret M.hh := by
      unfold headM
      split
      · rename_i h9; exact absurd h9 hhh
      · rfl
    refine vx_ofWH (cc := M.b) (maxL := M.nl) (ret := M.ret) (hh := M.hh) hM.2.2.1 (by unfold wsM; rw [hhead]) ?_
    intro p e s m args below meth c s₁ B hml hv
    refine body p e s m args below meth c s₁ B hml ?_ hv
    exact vx_table (x := M.y) B (atoms_spec (ws := wsM M) B.pre _ (by unfold wsM; rw [hhead]; exact List.mem_cons_self))
end
